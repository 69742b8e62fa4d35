/** Each promise of the document: ordinary calls, the edges that it names, wrong calls. */
public final class PromisesTest {
    private static final String TEXT = "box.get<int>(*box,&!box.item)";
    private static final String NAME = "_ZN3box3getIiEEPS_RKNS_4itemE";

    public static void main(String[] args) {
        promise1();
        promise2();
        promise3();
        promise4();
        promise5();
        promise6();
        promise7();
        promise7Refused();
        promise8();
        promise9();
        promise10();
        promises11And12();
        promise13();
        promise14();
        promise15();
        promise16();
        promises17And18();
        promise19();
        promises20And21();
        promise22();
        promise23();
        promise24();
        promise25();
        Desk.end();
    }

    private static void due(String what, Object got, Object want) {
        Desk.due(what, got, want);
    }

    private static void throwsDue(String what, Desk.Call call, String want) {
        Desk.due(what, Desk.answer(call), want);
    }

    private static Desk with(String... texts) {
        Desk desk = new Desk();
        for (String text : texts) {
            desk.define(text);
        }
        return desk;
    }

    private static void promise1() {
        Desk desk = new Desk();
        due("none", NameMangler.NONE, -1);
        for (int what = 0; what < 3; what++) {
            due("told of a new one", desk.it.told(what), 0);
            due("status of a new one", desk.it.status(what), 0);
        }
        due("print of a new one", desk.it.print(), 0);
        due("fault of a new one", desk.it.fault(), -1);
        due("undo of a new one", desk.it.undo(), -1);
        throwsDue("of", () -> desk.it.of(0, 0), Desk.MISSING);
        throwsDue("respelt", () -> desk.it.respelt(0), Desk.MISSING);
    }

    private static void promise2() {
        Desk desk = new Desk();
        due("feed", desk.it.feed(0x61622e63, 0x28292020, 0x20202020, 0, -1), 20);
        due("highest byte first", desk.it.define(12), 0);
        due("text", desk.text(0), "ab.c()");
        for (int i = 1; i <= 20; i++) {
            due("feed " + i, desk.it.feed(i, i, i, i, i), 20 * i);
        }
        due("feed of a full tape", desk.it.feed(1, 2, 3, 4, 5), -1);
        due("tape", desk.it.told(1), 400);
        Desk bytes = new Desk();
        bytes.it.feed(0x6120ff80, 0, 0, 0, 0);
        due("bytes above 127", bytes.it.define(4) + " at " + bytes.it.fault(), "-9 at 2");
    }

    private static void promise3() {
        Desk desk = new Desk();
        due("define", desk.define(TEXT), 0);
        due("tape", desk.it.told(1), 0);
        due("define again", desk.define(" box . get<int>(*box , &!box.item)"), 0);
        due("define the next", desk.define("box.get"), 1);
        due("with none is another", desk.define("box.get()"), 2);
        due("fault less 10", desk.define("box."), -9);
        due("nothing came", desk.it.told(0), 3);
        desk.put("rest.of.it");
        due("only the first bytes", desk.it.define(4), 3);
        due("all of the tape goes", desk.it.told(1), 0);
        due("text", desk.text(3), "rest");
        desk.put("tape");
        throwsDue("below 0", () -> desk.it.define(-1), Desk.ARGUMENT);
        throwsDue("beyond the tape", () -> desk.it.define(21), Desk.ARGUMENT);
        due("the tape stays", desk.it.told(1), 20);
        due("of no bytes", desk.it.define(0), -9);
        due("the tape goes", desk.it.told(1), 0);
        throwsDue("of an empty tape", () -> desk.it.define(1), Desk.ARGUMENT);
        sixteen();
    }

    private static void sixteen() {
        Desk desk = new Desk();
        for (int i = 0; i < 16; i++) {
            due("the next", desk.define("a" + (char) ('a' + i)), i);
        }
        throwsDue("the 17th", () -> desk.define("b"), Desk.STATE);
        due("the tape goes", desk.it.told(1), 0);
        due("no fault", desk.it.fault(), -1);
        due("it is there", desk.define("ap"), 15);
        due("faults are ahead", desk.define("b."), -9);
        throwsDue("the 17th linked", () -> desk.link("_Z1b"), Desk.STATE);
        due("it is there", desk.link("_Z2aa"), 0);
        due("sixteen", desk.it.told(0), 16);
        due("undo of the 16th", desk.it.undo(), 7);
        due("room again", desk.link("_Z1b"), 15);
    }

    private static void promise4() {
        Desk desk = new Desk();
        due("link", desk.link(NAME), 0);
        due("text", desk.text(0), TEXT);
        due("link again", desk.link(NAME), 0);
        due("define what is linked", desk.define(TEXT), 0);
        due("link the next", desk.link("_Z1av"), 1);
        due("text", desk.text(1), "a()");
        due("fault less 10", desk.link("_Z1aPiPi"), -6);
        desk.put("_Z1bv");
        due("only the first bytes", desk.it.link(4), 2);
        due("all of the tape goes", desk.it.told(1), 0);
        desk.put("_Z1c");
        throwsDue("below 0", () -> desk.it.link(-1), Desk.ARGUMENT);
        throwsDue("beyond the tape", () -> desk.it.link(21), Desk.ARGUMENT);
        due("the tape stays", desk.it.told(1), 20);
        due("of no bytes", desk.it.link(0), -9);
        due("place", desk.it.fault(), 0);
    }

    private static void promise5() {
        Desk desk = new Desk();
        desk.define("a(&void)");
        due("of define", desk.it.fault(), 2);
        desk.define("a");
        due("without", desk.it.fault(), -1);
        desk.link("_Z1aRv");
        due("of link", desk.it.fault(), 4);
        desk.check("_Z1aPiPi");
        due("of check", desk.it.fault(), 6);
        desk.respell("_Z3int");
        due("of respell", desk.it.fault(), 2);
        desk.rename("a b");
        due("others leave it", desk.it.fault(), 2);
        desk.respell("_Z1aPiPi");
        due("without", desk.it.fault(), -1);
    }

    private static void promise6() {
        Desk desk = with("a", "b", "c");
        due("forget", desk.it.forget(1), 2);
        due("those behind have one less", desk.text(1), "c");
        due("those ahead stay", desk.text(0), "a");
        throwsDue("no such", () -> desk.it.forget(2), Desk.MISSING);
        throwsDue("below 0", () -> desk.it.forget(-1), Desk.MISSING);
        due("forget", desk.it.forget(0), 1);
        due("forget the last", desk.it.forget(0), 0);
        due("none", desk.it.told(0), 0);
    }

    private static void promise7() {
        Desk desk = with("a.b(a<int>,*c)", "c", "b.d", "a<a>", "xa");
        due("rename", desk.rename("a longer"), 2);
        due("tape", desk.it.told(1), 0);
        due("text 0", desk.text(0), "longer.b(longer<int>,*c)");
        due("name 0", desk.name(0), "_ZN6longer1bES_IiEP1c");
        due("text 1", desk.text(1), "c");
        due("text 3", desk.text(3), "longer<longer>");
        due("text 4", desk.text(4), "xa");
        due("what is not there", desk.rename("nothing other"), 0);
        due("itself", desk.rename("b b"), 0);
        due("to one that is there", desk.rename("c b"), 2);
        due("names that meet", desk.name(0), "_ZN6longer1bES_IiEP1b");
        due("with what could not be referred to ahead", desk.rename("longer b"), 2);
        due("is referred to then", desk.name(0), "_ZN1b1bES_IiEPS_");
        due("others", desk.name(2), "_ZN1b1dE");
        desk.put("b cx");
        due("only the first bytes", desk.it.rename(3), 4);
        due("text", desk.text(1), "c");
    }

    private static void promise7Refused() {
        Desk desk = with("a.x", "b.x", "c");
        String[] bad = {"", " ", "a", "a ", " a", "a  b", "a b ", "a b c", "int b", "a void", "A b", "a b1", "a.b c",
            "aaaaaaaaaaaaaaaaaaaaa b", "a aaaaaaaaaaaaaaaaaaaaa", "a-b", "a\tb"};
        for (String two : bad) {
            Desk other = with("a.x");
            throwsDue("rename " + two, () -> other.rename(two), Desk.ARGUMENT);
            due("the tape stays behind " + two, other.it.told(1), two.length() > 20 ? 40 : 20);
        }
        desk.put("a z");
        throwsDue("below 0", () -> desk.it.rename(-1), Desk.ARGUMENT);
        throwsDue("beyond the tape", () -> desk.it.rename(21), Desk.ARGUMENT);
        due("the tape stays", desk.it.told(1), 20);
        due("now it is good", desk.it.rename(3), 1);
        throwsDue("two would be alike", () -> desk.rename("b z"), Desk.STATE);
        due("the tape goes", desk.it.told(1), 0);
        due("nothing changed", desk.text(0) + " " + desk.text(1) + " " + desk.text(2), "z.x b.x c");
        due("nothing more to take back", desk.it.told(2), 4);
        String letters = "a".repeat(20);
        Desk large = with("b.b(" + "b.b,".repeat(45) + "b.b)", letters);
        due("it grows", large.rename("b " + letters), 1);
        due("its text", large.it.of(0, 1), 47 * 41 + 2 + 45);
        Desk larger = with("b.b(" + "b.b,".repeat(46) + "b.b)", "c");
        throwsDue("it would be too long", () -> larger.rename("b " + letters), Desk.STATE);
        due("nothing changed", larger.it.of(0, 1), 48 * 3 + 2 + 46);
    }

    private static void promise8() {
        Desk desk = with("a", "b");
        desk.link("_Z1c");
        desk.define("a");
        desk.define("?");
        due("what made none is not taken back", desk.it.told(2), 3);
        desk.it.forget(0);
        desk.rename("b d");
        due("steps", desk.it.told(2), 5);
        due("undo of rename", desk.it.undo(), 4);
        due("text", desk.text(0), "b");
        due("undo of forget", desk.it.undo(), 3);
        due("text", desk.text(0) + desk.text(1) + desk.text(2), "abc");
        due("undo of link", desk.it.undo(), 2);
        due("undo of define", desk.it.undo(), 1);
        due("one", desk.it.told(0), 1);
        due("undo of define", desk.it.undo(), 0);
        due("none", desk.it.told(0), 0);
        due("none could", desk.it.undo(), -1);
        Desk many = with("a", "b", "c", "d", "e", "f", "g", "h", "i", "j");
        due("the latest eight", many.it.told(2), 8);
        for (int left = 7; left >= 0; left--) {
            due("undo", many.it.undo(), left);
        }
        due("no more", many.it.undo(), -1);
        due("two stay", many.it.told(0) + many.text(0) + many.text(1), "2ab");
        due("goes on", many.define("z"), 2);
        due("undo", many.it.undo(), 0);
        due("a rename that changes none is one too", many.rename("x y") + " " + many.it.told(2), "0 1");
    }

    private static void promise9() {
        Desk desk = with("a", "b");
        desk.put("c");
        due("symbols", desk.it.told(0), 2);
        due("tape", desk.it.told(1), 20);
        due("steps", desk.it.told(2), 2);
        throwsDue("3", () -> desk.it.told(3), Desk.ARGUMENT);
        throwsDue("-1", () -> desk.it.told(-1), Desk.ARGUMENT);
    }

    private static void ofDue(String text, int... want) {
        Desk desk = with(text);
        for (int what = 0; what < want.length; what++) {
            due("of " + what + " of " + text, desk.it.of(0, what), want[what]);
        }
    }

    private static void promise10() {
        ofDue(TEXT, NAME.length(), TEXT.length(), 6, 2, 4, 2, 2, 3);
        ofDue("a", 4, 1, 0, 0, 0, -1, 1, 0);
        ofDue("a()", 5, 3, 0, 0, 0, 0, 1, 0);
        ofDue("a<int>", 7, 6, 1, 0, 0, -1, 1, 1);
        ofDue("a.b.c(int)", 11, 10, 2, 0, 0, 1, 3, 1);
        // _Z1aN1b1cES0_S_ spelled out is _Z1aN1b1cEN1b1cE1b
        ofDue("a(b.c,b.c,b)", 15, 12, 2, 2, 3, 3, 1, 1);
        // _Z1aPiS_ spelled out is as long
        ofDue("a(*int,*int)", 8, 12, 1, 1, 0, 2, 1, 2);
        ofDue("a<b<*int>>(int)", 13, 15, 4, 0, 0, 1, 1, 3);
        // _Z1aN1b1cENS_1dE spelled out is _Z1aN1b1cEN1b1dE
        ofDue("a(b.c,b.d)", 16, 10, 3, 1, 0, 2, 1, 1);
        Desk desk = with("a");
        throwsDue("8", () -> desk.it.of(0, 8), Desk.ARGUMENT);
        throwsDue("-1", () -> desk.it.of(0, -1), Desk.ARGUMENT);
        throwsDue("symbol 1", () -> desk.it.of(1, 0), Desk.MISSING);
        throwsDue("symbol -1", () -> desk.it.of(-1, 0), Desk.MISSING);
        throwsDue("missing is ahead", () -> desk.it.of(1, 8), Desk.MISSING);
    }

    private static void promises11And12() {
        Desk desk = with("a", TEXT);
        due("name", desk.name(1), NAME);
        due("text", desk.text(1), TEXT);
        throwsDue("name's end", () -> desk.it.nameAt(0, 4), Desk.MISSING);
        throwsDue("name below 0", () -> desk.it.nameAt(0, -1), Desk.MISSING);
        throwsDue("name of none", () -> desk.it.nameAt(2, 0), Desk.MISSING);
        throwsDue("text's end", () -> desk.it.textAt(0, 1), Desk.MISSING);
        throwsDue("text below 0", () -> desk.it.textAt(0, -1), Desk.MISSING);
        throwsDue("text of none", () -> desk.it.textAt(-1, 0), Desk.MISSING);
    }

    private static void entryDue(Desk desk, int k, int... want) {
        for (int what = 0; what < want.length; what++) {
            due("entry " + k + " " + what, desk.it.entry(0, k, what), want[what]);
        }
    }

    private static void promise13() {
        Desk desk = with(TEXT);
        entryDue(desk, 0, 5, 3, 3, 2, 0);
        entryDue(desk, 1, 5, 3, 7, 0, 0);
        entryDue(desk, 2, 0, 15, 4, 0, 0);
        entryDue(desk, 3, 5, 21, 8, 0, 0);
        entryDue(desk, 4, 2, 19, 9, 0, 0);
        entryDue(desk, 5, 1, 18, 10, 0, 0);
        throwsDue("number 6", () -> desk.it.entry(0, 6, 0), Desk.MISSING);
        throwsDue("number -1", () -> desk.it.entry(0, -1, 0), Desk.MISSING);
        throwsDue("symbol 1", () -> desk.it.entry(1, 0, 0), Desk.MISSING);
        throwsDue("what 5", () -> desk.it.entry(0, 0, 5), Desk.ARGUMENT);
        throwsDue("what -1", () -> desk.it.entry(0, 0, -1), Desk.ARGUMENT);
        throwsDue("missing is ahead", () -> desk.it.entry(0, 6, 5), Desk.MISSING);
        Desk kinds = with("a(([12]int,&long):*void,b<&long,*char>,!*char,(int):int,[12]int)");
        due("name", kinds.name(0), "_Z1aFPvA12_iRlE1bIS1_PcEKS4_FiiES0_");
        entryDue(kinds, 0, 0, 5, 5, 0, 1);
        entryDue(kinds, 1, 3, 7, 7, 1, 1);
        entryDue(kinds, 2, 1, 12, 5, 1, 1);
        entryDue(kinds, 3, 4, 4, 21, 0, 3);
        entryDue(kinds, 4, 5, 15, 1, 0, 0);
        entryDue(kinds, 5, 0, 21, 5, 1, 1);
        entryDue(kinds, 6, 6, 15, 14, 0, 2);
        entryDue(kinds, 7, 2, 24, 6, 0, 1);
        entryDue(kinds, 8, 4, 28, 9, 0, 2);
        throwsDue("basic ones are not there", () -> kinds.it.entry(0, 9, 0), Desk.MISSING);
    }

    private static void promise14() {
        Desk desk = with("a", TEXT);
        String[] want = {"box", "box.get", "*box", "box.item", "!box.item", "&!box.item"};
        for (int k = 0; k < want.length; k++) {
            due("entry text " + k, desk.entryText(1, k), want[k]);
        }
        throwsDue("its end", () -> desk.it.entryAt(1, 0, 3), Desk.MISSING);
        throwsDue("below 0", () -> desk.it.entryAt(1, 0, -1), Desk.MISSING);
        throwsDue("number 6", () -> desk.it.entryAt(1, 6, 0), Desk.MISSING);
        throwsDue("number -1", () -> desk.it.entryAt(1, -1, 0), Desk.MISSING);
        throwsDue("symbol 2", () -> desk.it.entryAt(2, 0, 0), Desk.MISSING);
        Desk kinds = with("a(([12]int,b<c>):*void)");
        due("function", kinds.entryText(0, 5), "([12]int,b<c>):*void");
        due("with", kinds.entryText(0, 4), "b<c>");
    }

    private static void promise15() {
        Desk desk = with(TEXT);
        for (int i = 0; i < NAME.length(); i++) {
            due("refers " + i, desk.it.refers(0, i), i == 16 || i == 21 ? 0 : -1);
        }
        throwsDue("its end", () -> desk.it.refers(0, NAME.length()), Desk.MISSING);
        throwsDue("below 0", () -> desk.it.refers(0, -1), Desk.MISSING);
        throwsDue("symbol 1", () -> desk.it.refers(1, 0), Desk.MISSING);
        StringBuilder many = new StringBuilder("_Z1a");
        for (int i = 1; i <= 30; i++) {
            many.append('A').append(i).append("_i");
        }
        Desk far = new Desk();
        due("link", far.link(many + "SS_S0_"), 0);
        due("number 29", far.it.refers(0, many.length()), 29);
        due("a digit is not the sign", far.it.refers(0, many.length() + 1), -1);
        due("number 1", far.it.refers(0, many.length() + 3), 1);
    }

    private static void promise16() {
        Desk desk = new Desk();
        due("good", desk.check(NAME), 0);
        due("nothing is made", desk.it.told(0), 0);
        due("tape", desk.it.told(1), 0);
        due("fault", desk.check("_Z1aPiPi"), 4);
        due("of no bytes", desk.it.check(0), 1);
        desk.put("_Z1a");
        throwsDue("below 0", () -> desk.it.check(-1), Desk.ARGUMENT);
        throwsDue("beyond the tape", () -> desk.it.check(21), Desk.ARGUMENT);
        due("the tape stays", desk.it.told(1), 20);
        due("the first bytes", desk.it.check(4), 0);
        due("nothing to take back", desk.it.told(2), 0);
    }

    private static void respells(String name, String want) {
        Desk desk = new Desk();
        int bytes = desk.respell(name);
        due("respell " + name, bytes, want.length());
        due("respelt " + name, desk.respelt(bytes), want);
        due("nothing is made", desk.it.told(0), 0);
        throwsDue("respelt's end", () -> desk.it.respelt(bytes), Desk.MISSING);
        throwsDue("respelt below 0", () -> desk.it.respelt(-1), Desk.MISSING);
    }

    private static void promises17And18() {
        respells("_Z1aPiPi", "_Z1aPiS_");
        respells("_ZN3box3getIiEEP3boxRKN3box4itemE", NAME);
        respells(NAME, NAME);
        respells("_Z1aPiPiPlS0_", "_Z1aPiS_PlS0_");
        respells("_Z1aN1b1cEN1b1cE1b", "_Z1aN1b1cES0_S_");
        respells("_Z1aN1b1cENS_1cE", "_Z1aN1b1cES0_");
        respells("_Z1a1bIiE1bIiE", "_Z1a1bIiES0_");
        respells("_Z1aI1aE1aIS_E", "_Z1aIS_ES_IS_E");
        Desk desk = new Desk();
        desk.respell("_Z1aPiPi");
        due("fault less 10", desk.respell("_Z1aPiPi?"), -9);
        due("place", desk.it.fault(), 8);
        due("the latest without a fault stays", desk.respelt(8), "_Z1aPiS_");
        due("5 is one", desk.respell("_Z1aPiPiRv"), -5);
        due("tape", desk.it.told(1), 0);
        throwsDue("beyond the tape", () -> desk.it.respell(1), Desk.ARGUMENT);
        throwsDue("below 0", () -> desk.it.respell(-1), Desk.ARGUMENT);
        String tail = "20" + "b".repeat(20) + "S_".repeat(95);
        due("7 is one", desk.respell("_Z1a" + tail), -3);
    }

    private static void promise19() {
        Desk desk = with("a", "a()", "a(int)", "a.b", "a<int>", "a<int>(int)", "b", "a.b(a)");
        int[] want = {3, 3, 3, 2, 2, 2, 1, 2};
        for (int i = 0; i < want.length; i++) {
            due("alike " + i, desk.it.alike(i), want[i]);
        }
        throwsDue("none", () -> desk.it.alike(8), Desk.MISSING);
        throwsDue("below 0", () -> desk.it.alike(-1), Desk.MISSING);
    }

    private static void promises20And21() {
        Desk desk = with("b", "a", "a(int)", "a.b", "a(bool)", "aaaaaaaaaaaa");
        due("unlike", desk.it.apart(0, 1), 3);
        due("where one ends", desk.it.apart(1, 2), 4);
        due("likewise", desk.it.apart(2, 1), 4);
        due("one", desk.it.apart(3, 3), -1);
        due("unlike", desk.it.apart(1, 3), 2);
        throwsDue("none", () -> desk.it.apart(0, 6), Desk.MISSING);
        throwsDue("none", () -> desk.it.apart(-1, 0), Desk.MISSING);
        // _Z12aaaaaaaaaaaa _Z1a _Z1ab _Z1ai _Z1b _ZN1a1bE
        int[] want = {5, 1, 4, 2, 0, 3};
        for (int k = 0; k < want.length; k++) {
            due("ranked " + k, desk.it.ranked(k), want[k]);
        }
        throwsDue("none", () -> desk.it.ranked(6), Desk.MISSING);
        throwsDue("below 0", () -> desk.it.ranked(-1), Desk.MISSING);
    }

    private static void promise22() {
        Desk desk = with("a", "a.b(a,*a,(a):a.b)", "a<int>", "c<a<int>,a<a<int>>>", "a.b", "d(int)", "d.e(d)");
        due("itself", desk.it.stands(0, 0), 1);
        due("outer of the path, a, *a, parameter, outer of a result", desk.it.stands(0, 1), 5);
        due("path and a result", desk.it.stands(1, 1), 2);
        due("the same path", desk.it.stands(4, 1), 2);
        due("parameters are none of it", desk.it.stands(1, 4), 1);
        due("outer of what is with", desk.it.stands(0, 2), 1);
        due("each time", desk.it.stands(2, 3), 2);
        due("each outer", desk.it.stands(0, 3), 3);
        due("none", desk.it.stands(5, 0), 0);
        due("outer and parameter", desk.it.stands(5, 6), 2);
        throwsDue("none", () -> desk.it.stands(0, 7), Desk.MISSING);
        throwsDue("none", () -> desk.it.stands(7, 0), Desk.MISSING);
    }

    private static void promise23() {
        Desk desk = with("a(*int,b,[3]b)", "c([3]b,*int,&int)", "b(int)", "b.c(*int)", "d<b>");
        due("shared", desk.it.shared(0, 1), 3);
        due("the other way", desk.it.shared(1, 0), 3);
        due("itself", desk.it.shared(0, 0), 3);
        due("an own path is not there", desk.it.shared(2, 0), 0);
        due("an outer is", desk.it.shared(3, 0), 2);
        due("an argument is", desk.it.shared(4, 0), 1);
        throwsDue("none", () -> desk.it.shared(0, 5), Desk.MISSING);
        throwsDue("none", () -> desk.it.shared(-1, 0), Desk.MISSING);
    }

    private static void promise24() {
        Desk desk = with("a", TEXT);
        long want = 0;
        for (char sign : ("_Z1a" + NAME).toCharArray()) {
            want = 31 * want + sign;
        }
        due("print", desk.it.print(), want);
        desk.it.forget(1);
        due("print", desk.it.print(), ((95L * 31 + 90) * 31 + 49) * 31 + 97);
    }

    private static void promise25() {
        Desk desk = with("a", "b");
        due("none", desk.it.status(0) + desk.it.status(1) + desk.it.status(2), 0);
        Desk.answer(() -> desk.it.of(5, 9));
        Desk.answer(() -> desk.it.respelt(0));
        Desk.answer(() -> desk.it.entry(0, 0, 9));
        Desk.answer(() -> desk.it.of(0, 9));
        Desk.answer(() -> desk.it.define(1));
        Desk.answer(() -> desk.rename("b a"));
        desk.define("?");
        due("missing", desk.it.status(0), 3);
        due("arguments", desk.it.status(1), 2);
        due("states", desk.it.status(2), 1);
        due("3", desk.it.status(3), -1);
        due("-1", desk.it.status(-1), -1);
        desk.it.undo();
        due("not taken back", desk.it.status(2), 1);
    }
}
