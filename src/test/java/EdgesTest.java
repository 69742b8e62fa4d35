import java.util.List;

/** Each boundary case that a sentence of the document names, sentence by sentence, in the document's order. */
public final class EdgesTest {
    private static final List<String> BASIC = List.of("void", "bool", "char", "int", "long", "float");
    private static final String TWENTY = "abcdefghijklmnopqrst";
    private static final String LETTERS = "b".repeat(20);

    public static void main(String[] args) {
        basicWordsAreNoNames();
        namesHaveOneToTwentyLetters();
        arraysHaveOneToTheMost();
        referredNumbersEndAt99999();
        pathsHaveArgumentsOrNot();
        whatIsReferredToIsAllowedAsIfSpelled();
        blanksAre32Alone();
        namesHaveNoBlanks();
        ownPathIsNotNumbered();
        twoThousandBytes();
        twelveTypes();
        deepAndWideTypes();
        manyTypes();
        tapeIsFull();
        tapeReadInPart();
        sixteenSymbols();
        refusedCallsLeaveTheFault();
        forgetTheFirstAndTheLast();
        whatIsGoneIsGone();
        askedInTurns();
        answersAreOfTheSymbolAlone();
        renameEdges();
        renameGrowsToTheMost();
        renameRefused();
        undoEdges();
        undoTakesBackSymbolsAlone();
        numbersOfSymbolsAndPlaces();
        missingIsAheadOfOthers();
        savings();
        askedNothingStaysChanged();
        longNames();
        respeltKeepsTheLatest();
        ranksAndParts();
        printWrapsAround();
        refusalsAreCounted();
        Desk.end();
    }

    private static void due(String what, Object got, Object want) {
        Desk.due(what, got, want);
    }

    private static void throwsDue(String what, Desk.Call call, String want) {
        Desk.due(what, Desk.answer(call), want);
    }

    private static Desk with(String... texts) {
        Desk desk = new Desk();
        for (int i = 0; i < texts.length; i++) {
            due("define " + texts[i], desk.define(texts[i]), i);
        }
        return desk;
    }

    private static void textHas(String text, int kind, int place) {
        Desk desk = new Desk();
        due("define " + text, desk.define(text) + " at " + desk.it.fault(), kind - 10 + " at " + place);
    }

    private static void nameHas(String name, int kind, int place) {
        Desk desk = new Desk();
        due("check " + name, desk.check(name) + " at " + desk.it.fault(), kind + " at " + place);
        due("link " + name, desk.link(name) + " at " + desk.it.fault(), kind - 10 + " at " + place);
        if (kind != 4) {
            due("respell " + name, desk.respell(name) + " at " + desk.it.fault(), kind - 10 + " at " + place);
        }
    }

    /** A text and a name that are one symbol, told and spelled so. */
    private static void are(String text, String name) {
        Desk desk = new Desk();
        due("define " + text, desk.define(text) + " at " + desk.it.fault(), "0 at -1");
        due("link " + name, desk.link(name) + " at " + desk.it.fault(), "0 at -1");
        due("name of " + text, desk.name(0), name);
        due("text of " + name, desk.text(0), text);
        due("check " + name, desk.check(name), 0);
        due("respell " + name, desk.respell(name), name.length());
        due("respelt " + name, desk.respelt(name.length()), name);
    }

    private static void basicWordsAreNoNames() {
        for (String word : BASIC) {
            textHas(word, 1, 0);
            textHas("a." + word, 1, 2);
            textHas(word + ".a", 1, 0);
            textHas("a(b." + word + ")", 1, 4);
            nameHas("_Z" + word.length() + word, 5, 2);
            nameHas("_ZN" + word.length() + word + "1aE", 5, 3);
            nameHas("_ZN1a" + word.length() + word + "E", 5, 5);
            nameHas("_Z1a" + word.length() + word, 5, 4);
            nameHas("_Z1a1bNS_" + word.length() + word + "E", 5, 9);
            Desk desk = with("a");
            throwsDue("rename from " + word, () -> desk.rename(word + " a"), Desk.ARGUMENT);
            desk.it.check(0);
            throwsDue("rename to " + word, () -> desk.rename("a " + word), Desk.ARGUMENT);
            for (int i = 0; i < word.length(); i++) {
                String near = word.substring(0, i) + "x" + word.substring(i + 1);
                are(near + "(" + near + "," + word.replace("void", "int") + ")",
                    "_Z" + (near.length() + near).repeat(2) + (word.equals("void") ? "i" : word.substring(0, 1)));
            }
            String longer = word + "s";
            String shorter = word.substring(1);
            are(longer + "." + shorter, "_ZN" + longer.length() + longer + shorter.length() + shorter + "E");
        }
        are("a(bool,char,int,long,float,*void,():void)", "_Z1abcilfPvFvE");
        are("a(double,string)", "_Z1a6double6string");
    }

    private static void namesHaveOneToTwentyLetters() {
        are("z", "_Z1z");
        are("abcdefghi", "_Z9abcdefghi");
        are("abcdefghij", "_Z10abcdefghij");
        are(TWENTY, "_Z20" + TWENTY);
        are("a." + TWENTY + "(" + TWENTY + ")", "_ZN1a20" + TWENTY + "E20" + TWENTY);
        textHas(TWENTY + "u", 2, 0);
        textHas("a." + TWENTY + "u", 2, 2);
        textHas("a<" + TWENTY + "u", 2, 2);
        textHas("a..b", 1, 2);
        nameHas("_Z21" + TWENTY + "u", 2, 2);
        nameHas("_Z0a", 2, 2);
        nameHas("_Z01a", 2, 2);
        nameHas("_ZN1a0E", 2, 5);
        nameHas("_Z1a0", 2, 4);
        // more letters than bytes behind: one too many, all, and just enough
        nameHas("_Z2a", 2, 2);
        nameHas("_Z1", 2, 2);
        nameHas("_Z20" + TWENTY.substring(1), 2, 2);
        nameHas("_Z1a2b", 2, 4);
        // numbers that would be small once they have wrapped around
        nameHas("_Z4294967297a", 2, 2);
        nameHas("_Z18446744073709551617a", 2, 2);
        nameHas("_Z257" + TWENTY, 2, 2);
        nameHas("_Z1A", 1, 3);
        nameHas("_Z1`", 1, 3);
        nameHas("_Z1{", 1, 3);
    }

    private static void arraysHaveOneToTheMost() {
        are("a([1]int)", "_Z1aA1_i");
        are("a([9]int,[10]int)", "_Z1aA9_iA10_i");
        are("a([1000000000]int)", "_Z1aA1000000000_i");
        are("a([2147483647]int)", "_Z1aA2147483647_i");
        String[] none = {"0", "00", "01", "02147483647", "2147483648", "2147483657", "3000000000", "4294967297",
            "9223372036854775808", "18446744073709551617", "99999999999999999999999"};
        for (String n : none) {
            textHas("a([" + n + "]int)", 2, 3);
            textHas("a([ " + n, 2, 4);
            nameHas("_Z1aA" + n + "_i", 2, 5);
            nameHas("_Z1aA" + n, 2, 5);
        }
        textHas("a([-1]int)", 1, 3);
        nameHas("_Z1aA-1_i", 1, 5);
        nameHas("_Z1aA_i", 1, 5);
        textHas("a([]int)", 1, 3);
        textHas("a([1", 1, 4);
        nameHas("_Z1aA1", 1, 6);
    }

    private static void referredNumbersEndAt99999() {
        // 255R is 99,999, 255S one more
        nameHas("_Z1aPiS255R_", 3, 6);
        nameHas("_Z1aPiS255S_", 2, 7);
        nameHas("_Z1aPiSZZZ_", 3, 6);
        nameHas("_Z1aPiS0_", 3, 6);
        nameHas("_Z1aPiS00_", 2, 7);
        nameHas("_Z1aPiS0255R_", 2, 7);
        // two to the 32nd and to the 64th
        nameHas("_Z1aPiPlS1Z141Z4_", 2, 9);
        nameHas("_Z1aPiPlS3W5E11264SGSG_", 2, 9);
        nameHas("_Z1aPiS255S", 1, 11);
        nameHas("_Z1aPiS@_", 1, 7);
        nameHas("_Z1aPiS[_", 1, 7);
        nameHas("_Z1aPiSa_", 1, 7);
        nameHas("_Z1aPiS/_", 1, 7);
        nameHas("_Z1aPiS:_", 1, 7);
        nameHas("_Z1aPiSv", 1, 7);
        nameHas("_Z1aPiS0i", 1, 8);
        StringBuilder name = new StringBuilder("_Z1a");
        StringBuilder text = new StringBuilder("a(");
        for (int i = 1; i <= 38; i++) {
            name.append('A').append(i).append("_i");
            text.append('[').append(i).append("]int,");
        }
        String[] numbers = {"", "0", "9", "A", "Z", "10"};
        int[] arrays = {1, 2, 11, 12, 37, 38};
        for (int i = 0; i < numbers.length; i++) {
            are(text + "[" + arrays[i] + "]int)", name + "S" + numbers[i] + "_");
        }
        nameHas(name + "S11_", 3, name.length());
    }

    private static void pathsHaveArgumentsOrNot() {
        textHas("a<>", 1, 2);
        textHas("a<", 1, 2);
        nameHas("_Z1aIE", 1, 5);
        nameHas("_Z1aI", 1, 5);
        are("a<int>", "_Z1aIiE");
        are("a.b<int>.c<long,a.b>", "_ZN1a1bIiE1cIlS0_EE");
        are("a", "_Z1a");
        are("a()", "_Z1av");
        are("a(():int)", "_Z1aFiE");
        are("a((int):int)", "_Z1aFiiE");
        Desk desk = with("a", "a()", "a<int>", "a<int>()", "a.b", "a<int>.b", "a.b<int>", "b.a");
        due("all are unlike", desk.it.told(0), 8);
    }

    private static void whatIsReferredToIsAllowedAsIfSpelled() {
        nameHas("_Z1aRiRS_", 5, 6);
        nameHas("_Z1aRiPS_", 5, 6);
        nameHas("_Z1aRiKS_", 5, 6);
        nameHas("_Z1aKiKS_", 5, 6);
        nameHas("_Z1aA2_iKS_", 5, 8);
        nameHas("_Z1aFvEKS_", 5, 7);
        nameHas("_Z1aRiA2_S_", 5, 6);
        nameHas("_Z1aFvEA2_S_", 5, 7);
        nameHas("_Z1aA2_iFS_E", 5, 9);
        nameHas("_Z1aFvEFS_E", 5, 8);
        nameHas("_Z1aA2_iFS_?", 5, 9);
        are("a(&int,():&int,(&int):int,b<&int>)", "_Z1aRiFS_EFiS_E1bIS_E");
        are("a([2]int,&[2]int,*[2]int,[2][2]int,([2]int):int,b<[2]int>)", "_Z1aA2_iRS_PS_A2_S_FiS_E1bIS_E");
        are("a(():void,&():void,*():void,(():void):int,b<():void>)", "_Z1aFvERS_PS_FiS_E1bIS_E");
        are("a(!int,&!int,*!int,[2]!int,():!int)", "_Z1aKiRS_PS_A2_S_FS_E");
        are("a(*void,&*void,**void,!*void,[2]*void,():*void)", "_Z1aPvRS_PS_KS_A2_S_FS_E");
        are("a(b,&b,*b,!b,[2]b,():b)", "_Z1a1bRS_PS_KS_A2_S_FS_E");
    }

    private static void blanksAre32Alone() {
        Desk desk = new Desk();
        due("blanks", desk.define("  a . b < * int , c > ( [ 12 ] * d , ( ) : ! e )  "), 0);
        due("no blanks", desk.text(0), "a.b<*int,c>([12]*d,():!e)");
        due("blanks of none", desk.define("f ( ) "), 1);
        due("no blanks", desk.text(1), "f()");
        textHas(" ", 1, 1);
        textHas("a b", 1, 2);
        textHas("a. .b", 1, 3);
        textHas("a([1 2]int)", 1, 5);
        textHas("a([1] )", 1, 6);
        for (char sign : new char[] {0, 9, 10, 13, 31, 33, 127, 160, 255}) {
            textHas("a" + sign, 1, 1);
            textHas(sign + "a", 1, 0);
            textHas("a(" + sign + "?", 1, sign == '!' ? 3 : 2);
        }
    }

    private static void namesHaveNoBlanks() {
        nameHas(" _Z1a", 1, 0);
        nameHas("_ Z1a", 1, 1);
        nameHas("_Z 1a", 1, 2);
        nameHas("_Z1 a", 1, 3);
        nameHas("_Z1a ", 1, 4);
        nameHas("_Z1aP i", 1, 5);
        nameHas("_Z1aA2 _i", 1, 6);
        nameHas("_Z1aPiS _", 1, 7);
        nameHas("_Z1a\0", 1, 4);
        nameHas("_Z1a\u00ff", 1, 4);
    }

    private static void ownPathIsNotNumbered() {
        are("a(a,a)", "_Z1a1aS_");
        are("a.b(a.b,a.b)", "_ZN1a1bENS_1bES0_");
        are("a<int>(a<int>,a<int>)", "_Z1aIiES_IiES0_");
        are("a<a>(a<a>)", "_Z1aIS_ES_IS_E");
        are("a.b<a.b>(a.b<a.b>)", "_ZN1a1bIS0_EENS0_IS0_EE");
        Desk desk = with("a", "a.b", "a.b<int>", "a.b<int>.c");
        for (int i = 0; i < 4; i++) {
            due("table " + i, desk.it.of(i, 2), i);
        }
        nameHas("_ZN1a1bE1a", 4, 8);
        nameHas("_Z1aIiE1a", 4, 7);
    }

    private static void twoThousandBytes() {
        String tail = "20" + LETTERS + "S_".repeat(94);
        Desk desk = new Desk();
        due("2,000 bytes", desk.link("_Z4aaaa" + tail), 0);
        due("bytes", desk.it.of(0, 1), 2000);
        due("the last byte", desk.it.textAt(0, 1999), (int) ')');
        throwsDue("behind it", () -> desk.it.textAt(0, 2000), Desk.MISSING);
        String large = "_Z5aaaaa" + tail;
        nameHas(large, 7, large.length());
        nameHas(large + "?", 1, large.length());
        nameHas(large + "Rv", 5, large.length());
        nameHas(large + "20" + LETTERS, 4, large.length());
        nameHas(large + "S0_", 3, large.length());
        nameHas(large + "S00_", 2, large.length() + 1);
        nameHas(large + "P".repeat(12) + "i", 6, large.length() + 12);
        due("7 makes none", desk.link(large) + " " + desk.it.told(0) + " " + desk.it.told(2), "-3 1 1");
        StringBuilder growing = new StringBuilder("_Z1aFviiE");
        for (int i = 0; i < 10; i++) {
            growing.append("Fv").append(("S" + (i == 0 ? "" : String.valueOf(i - 1)) + "_").repeat(10)).append('E');
        }
        nameHas(growing.toString(), 7, growing.length());
    }

    private static void twelveTypes() {
        String eleven = "P".repeat(11);
        String stars = "*".repeat(11);
        are("a(" + stars + "int)", "_Z1a" + eleven + "i");
        are("a<" + stars + "int>", "_Z1aI" + eleven + "iE");
        are("a.b<" + stars + "int>.c", "_ZN1a1bI" + eleven + "iE1cE");
        are("a(" + stars + "b.c.d)", "_Z1a" + eleven + "N1b1c1dE");
        textHas("a(*" + stars + "int)", 6, 14);
        textHas("a(*" + stars + "b.c)", 6, 14);
        textHas("a(*" + stars, 1, 14);
        textHas("a(*" + stars + ")", 1, 14);
        textHas("a(*" + stars + " void)", 6, 15);
        for (String opener : new String[] {"*", "&", "!", "[2]", "(", "():", "b<", "b.c<"}) {
            textHas("a(" + stars + opener + "int", 6, 13 + opener.length());
        }
        for (String opener : new String[] {"P", "R", "K", "A2_", "F", "1bI", "N1b1cI"}) {
            for (String begun : new String[] {"i", "v", "P", "A", "F", "N", "S", "1", "0"}) {
                nameHas("_Z1a" + eleven + opener + begun, 6, 15 + opener.length());
            }
            nameHas("_Z1a" + eleven + opener, 1, 15 + opener.length());
            nameHas("_Z1a" + eleven + opener + "?", 1, 15 + opener.length());
            nameHas("_Z1a" + eleven + opener + "I", 1, 15 + opener.length());
        }
        // what is referred to counts with all that is in it
        nameHas("_Z1a" + eleven + "iPS9_", 6, 17);
        are("a(" + stars + "int,*" + stars.substring(1) + "int)", "_Z1a" + eleven + "iS9_");
        are("a(" + stars.substring(1) + "int," + stars + "int)", "_Z1a" + eleven.substring(1) + "iPS8_");
        due("depth", with("a(" + stars + "int)").it.of(0, 7), 12);
        due("depth", with("a<" + stars + "int>(*int)").it.of(0, 7), 12);
        due("depth", with("a<int>.b<**int>(*int)").it.of(0, 7), 3);
        due("depth", with("a.b.c").it.of(0, 7), 0);
        due("depth", with("a.b.c()").it.of(0, 7), 0);
        due("depth", with("a(b.c.d)").it.of(0, 7), 1);
        due("depth", with("a(b<int>.c.d<*int>)").it.of(0, 7), 3);
        due("depth", with("a((*int):**int)").it.of(0, 7), 4);
    }

    /** All kinds as deep as may be, also at places that are not the first. */
    private static void deepAndWideTypes() {
        String nine = "*".repeat(9);
        String[] deep = {"b<int,*int>", "b<int>.c<int,*int>", "(int,*int):int", "(int):*int", "[2]*int", "b<(int):int>"};
        for (String type : deep) {
            Desk desk = with("a(int," + nine + type + ")");
            due("depth of " + type, desk.it.of(0, 7), 12);
            due("text of " + type, desk.text(0), "a(int," + nine + type + ")");
            due("it is read again", desk.link(desk.name(0)), 0);
            Desk more = new Desk();
            due("one more of " + type, more.define("a(int,*" + nine + type + ")"), -4);
        }
        String arrays = "[2]".repeat(11) + "int";
        due("arrays", with("a(" + arrays + ")").text(0), "a(" + arrays + ")");
        String results = "():*".repeat(5) + "():int";
        due("results", with("a(" + results + ")").text(0), "a(" + results + ")");
        String params = "(".repeat(11) + "int" + "):int".repeat(11);
        due("parameters", with("a(" + params + ")").text(0), "a(" + params + ")");
        String paths = "b<".repeat(11) + "int" + ">".repeat(11);
        due("arguments", with("a(" + paths + ")").text(0), "a(" + paths + ")");
        nameHas("_Z1a" + "P".repeat(10) + "1bIiPi", 6, 19);
        nameHas("_Z1a" + "P".repeat(10) + "FiiPi", 6, 18);
        nameHas("_Z1a" + "P".repeat(10) + "N1b1cIiPi", 6, 22);
        textHas("a(" + "*".repeat(10) + "b<int,*int", 6, 19);
        textHas("a(" + "*".repeat(10) + "(int,*int", 6, 18);
        textHas("a(" + "*".repeat(10) + "(int):*int", 6, 19);
        are("a(" + "*".repeat(10) + "(int,int):int)", "_Z1a" + "P".repeat(10) + "FiiiE");
        are("a(" + "*".repeat(10) + "b<int,int>)", "_Z1a" + "P".repeat(10) + "1bIiiE");
    }

    /** So many that what is kept of them must be told from one another. */
    private static void manyTypes() {
        StringBuilder name = new StringBuilder("_Z1a");
        for (int i = 1; i <= 66; i++) {
            name.append('A').append(i).append("_i");
        }
        String good = name + "PS_PS1R_PS1S_S1S_S1T_S1U_";
        Desk desk = new Desk();
        due("check", desk.check(good) + " at " + desk.it.fault(), "0 at -1");
        due("link", desk.link(good), 0);
        due("table", desk.it.of(0, 2) + " " + desk.it.of(0, 3), "69 6");
        due("the first pointer", desk.entryText(0, 66), "*[1]int");
        due("another one", desk.entryText(0, 67), "*[65]int");
        due("it was 65 ahead", desk.it.refers(0, good.indexOf("S1R_")) + " " + desk.it.entry(0, 64, 3), "64 1");
        String one = "(int):void";
        String many = "(" + "int,".repeat(64) + "int):void";
        are("a(" + one + "," + many + ")", "_Z1aFviEFv" + "i".repeat(65) + "E");
    }

    private static void tapeIsFull() {
        Desk desk = new Desk();
        String text = "b(" + "int,".repeat(99) + "b)";
        due("all of the tape", desk.put(text), 400);
        due("bytes", desk.it.told(1), 400);
        due("no more", desk.it.feed(-1, -1, -1, -1, -1), -1);
        due("nothing came", desk.it.told(1), 400);
        throwsDue("one more than there are", () -> desk.it.define(401), Desk.ARGUMENT);
        due("all are read", desk.it.define(400), 0);
        due("as they came", desk.text(0), text);
        due("its name", desk.name(0), "_Z1b" + "i".repeat(99) + "1b");
        due("empty again", desk.it.feed(0, 0, 0, 0, 0), 20);
        Desk late = new Desk();
        due("a fault at the last byte", late.define(text.substring(0, 399) + "?") + " at " + late.it.fault(), "-9 at 399");
        due("a fault at the length", late.define(text.substring(0, 399) + " ") + " at " + late.it.fault(), "-9 at 400");
        Desk name = new Desk();
        String long400 = "_Z1b" + "i".repeat(396);
        due("a name of 400", name.link(long400), 0);
        due("its bytes", name.it.of(0, 0) + " " + name.it.of(0, 5), "400 396");
        due("a text of it", name.it.of(0, 1), 3 + 4 * 396 - 1);
        due("nothing of a full tape is refused", name.it.status(0) + name.it.status(1) + name.it.status(2), 0);
    }

    private static void tapeReadInPart() {
        Desk desk = new Desk();
        desk.it.feed(0x5f5a3161, 0x5069535f, 0x805f5a31, 0x62fffefd, 0);
        throwsDue("below 0", () -> desk.it.check(-1), Desk.ARGUMENT);
        throwsDue("far below", () -> desk.it.link(Integer.MIN_VALUE), Desk.ARGUMENT);
        throwsDue("far above", () -> desk.it.respell(Integer.MAX_VALUE), Desk.ARGUMENT);
        due("it stays", desk.it.told(1), 20);
        due("the first eight", desk.it.link(8), 0);
        due("name", desk.name(0), "_Z1aPiS_");
        due("empty", desk.it.told(1), 0);
        due("none of none", desk.it.define(0) + " at " + desk.it.fault(), "-9 at 0");
        desk.it.feed(0x5f5a3161, 0x805f5a31, 0, 0, 0);
        due("a byte above 127", desk.it.link(5) + " at " + desk.it.fault(), "-9 at 4");
        desk.it.feed(0x5f5a3161, 0, 0, 0, 0);
        due("bytes of 0 are bytes", desk.it.link(20) + " at " + desk.it.fault(), "-9 at 4");
        desk.it.feed(0x5f5a3262, 0x62000000, 0, 0, 0);
        due("what is behind n is not there", desk.it.link(4) + " at " + desk.it.fault(), "-8 at 2");
        desk.it.feed(0x5f5a3262, 0x62000000, 0, 0, 0);
        due("all are there", desk.it.link(5) + " at " + desk.it.fault(), "1 at -1");
        desk.it.feed(0x5f5a3262, 0x62000000, 0, 0, 0);
        due("one more is", desk.it.link(6) + " at " + desk.it.fault(), "-9 at 5");
    }

    private static void sixteenSymbols() {
        Desk desk = new Desk();
        for (int i = 0; i < 16; i++) {
            due("symbol " + i, desk.link("_Z1" + (char) ('a' + i)), i);
        }
        throwsDue("the 17th told", () -> desk.define("q"), Desk.STATE);
        due("the tape is empty", desk.it.told(1), 0);
        throwsDue("the 17th linked", () -> desk.link("_Z1q"), Desk.STATE);
        due("the tape is empty", desk.it.told(1), 0);
        due("counted", desk.it.status(2), 2);
        due("there is no more", desk.it.told(0) + " " + desk.it.told(2), "16 8");
        throwsDue("arguments ahead", () -> desk.it.define(1), Desk.ARGUMENT);
        due("faults ahead", desk.define("q<void>"), -5);
        due("faults ahead", desk.link("_Z1qPiPi"), -6);
        due("it is there", desk.define(" a "), 0);
        due("it is there", desk.link("_Z1p"), 15);
        due("a rename is fine", desk.rename("p q"), 1);
        due("one goes", desk.it.forget(3), 15);
        due("one comes", desk.define("d"), 15);
        throwsDue("full again", () -> desk.define("r"), Desk.STATE);
        due("ranked last", desk.it.ranked(15), 14);
    }

    private static void refusedCallsLeaveTheFault() {
        Desk desk = with("a");
        desk.define("a(&void)");
        throwsDue("define", () -> desk.it.define(1), Desk.ARGUMENT);
        throwsDue("link", () -> desk.it.link(-1), Desk.ARGUMENT);
        throwsDue("check", () -> desk.it.check(1), Desk.ARGUMENT);
        throwsDue("respell", () -> desk.it.respell(1), Desk.ARGUMENT);
        throwsDue("of", () -> desk.it.of(1, 0), Desk.MISSING);
        due("the fault is as it was", desk.it.fault(), 2);
        desk.it.forget(0);
        desk.it.undo();
        desk.rename("a b");
        due("these are not asked", desk.it.fault(), 2);
        desk.define("b");
        due("one that is there has none", desk.it.fault(), -1);
        desk.check("_");
        due("of check", desk.it.fault(), 1);
        desk.check("_Z1b");
        due("of check without", desk.it.fault(), -1);
    }

    private static void forgetTheFirstAndTheLast() {
        Desk desk = with("a", "b", "c", "d");
        due("the first", desk.it.forget(0), 3);
        due("all behind have one less", desk.text(0) + desk.text(1) + desk.text(2), "bcd");
        due("the last", desk.it.forget(2), 2);
        due("none behind", desk.text(0) + desk.text(1), "bc");
        throwsDue("it is gone", () -> desk.it.forget(2), Desk.MISSING);
        throwsDue("far above", () -> desk.it.forget(Integer.MAX_VALUE), Desk.MISSING);
        throwsDue("far below", () -> desk.it.forget(Integer.MIN_VALUE), Desk.MISSING);
        due("nothing to take back of these", desk.it.told(2), 6);
        due("it comes behind all", desk.define("a"), 2);
        due("one", desk.it.forget(1), 2);
        due("one", desk.it.forget(1), 1);
        due("the only one", desk.it.forget(0), 0);
        throwsDue("none is there", () -> desk.it.forget(0), Desk.MISSING);
    }

    /** Whatever was kept of symbols that went is not asked again. */
    private static void whatIsGoneIsGone() {
        Desk desk = with("a", "a(*int)");
        due("ahead", desk.it.alike(0) + " " + desk.it.of(1, 2) + " " + desk.it.entry(1, 0, 0), "2 1 0");
        due("the last goes", desk.it.forget(1), 1);
        due("alike", desk.it.alike(0), 1);
        allMissing(desk, 1);
        due("it comes anew", desk.define("a(*int)") + " " + desk.it.told(0), "1 2");
        due("undo", desk.it.undo(), 3);
        allMissing(desk, 1);
        due("it comes anew", desk.link("_Z1aPi") + " " + desk.it.told(0), "1 2");
        due("shown", desk.it.of(0, 1) + desk.text(0), "1a");
        due("the first goes", desk.it.forget(0), 1);
        due("another one has its number", desk.it.of(0, 1) + desk.text(0), "7a(*int)");
        due("its table", desk.it.of(0, 2) + desk.entryText(0, 0), "1*int");
        allMissing(desk, 1);
        due("undo", desk.it.undo(), 4);
        due("the first is back", desk.it.of(0, 1) + desk.text(0) + desk.it.of(0, 2), "1a0");
        Desk full = new Desk();
        for (int i = 0; i < 16; i++) {
            full.define("a" + (char) ('a' + i));
        }
        due("of sixteen one goes", full.it.forget(15), 15);
        allMissing(full, 15);
        allMissing(full, 16);
    }

    private static void allMissing(Desk desk, int symbol) {
        throwsDue("of", () -> desk.it.of(symbol, 0), Desk.MISSING);
        throwsDue("nameAt", () -> desk.it.nameAt(symbol, 0), Desk.MISSING);
        throwsDue("textAt", () -> desk.it.textAt(symbol, 0), Desk.MISSING);
        throwsDue("entry", () -> desk.it.entry(symbol, 0, 0), Desk.MISSING);
        throwsDue("entryAt", () -> desk.it.entryAt(symbol, 0, 0), Desk.MISSING);
        throwsDue("refers", () -> desk.it.refers(symbol, 0), Desk.MISSING);
        throwsDue("alike", () -> desk.it.alike(symbol), Desk.MISSING);
        throwsDue("apart", () -> desk.it.apart(symbol, 0), Desk.MISSING);
        throwsDue("apart", () -> desk.it.apart(0, symbol), Desk.MISSING);
        throwsDue("ranked", () -> desk.it.ranked(symbol), Desk.MISSING);
        throwsDue("stands", () -> desk.it.stands(symbol, 0), Desk.MISSING);
        throwsDue("stands", () -> desk.it.stands(0, symbol), Desk.MISSING);
        throwsDue("shared", () -> desk.it.shared(symbol, 0), Desk.MISSING);
        throwsDue("shared", () -> desk.it.shared(0, symbol), Desk.MISSING);
        throwsDue("forget", () -> desk.it.forget(symbol), Desk.MISSING);
    }

    /** Each call asks one symbol behind a call that asked the other one. */
    private static void askedInTurns() {
        Desk desk = with("a(*int,*int)", "b.c(&long,!char,!char,&long)");
        // _Z1aPiS_ and _ZN1b1cERlKcS1_S0_
        for (int round = 0; round < 2; round++) {
            due("of", desk.it.of(0, 5) + " " + desk.it.of(1, 5), "2 4");
            due("textAt", desk.it.textAt(0, 2) + " " + desk.it.textAt(1, 4), "42 38");
            due("entry", desk.it.entry(0, 0, 0) + " " + desk.it.entry(1, 0, 0), "0 5");
            due("entryAt", desk.it.entryAt(0, 0, 0) + " " + desk.it.entryAt(1, 1, 0), "42 38");
            due("where", desk.it.entry(0, 0, 1) + " " + desk.it.entry(1, 0, 1) + " " + desk.it.entry(1, 2, 1), "4 3 10");
            due("how often", desk.it.entry(0, 0, 3) + " " + desk.it.entry(1, 0, 3) + " " + desk.it.entry(1, 1, 3), "1 0 1");
            due("refers", desk.it.refers(0, 6) + " " + desk.it.refers(1, 12), "0 2");
            due("nameAt", desk.it.nameAt(0, 3) + " " + desk.it.nameAt(1, 3), "97 49");
            due("stands", desk.it.stands(0, 1) + " " + desk.it.textAt(0, 2), "0 42");
            due("shared", desk.it.shared(1, 0) + " " + desk.it.textAt(0, 2), "0 42");
            due("check", desk.check("_Z1d1e1f") + " " + desk.it.textAt(0, 2), "0 42");
            due("respell", desk.respell("_Z1d1e1e") + " " + desk.it.entryAt(0, 0, 0), "8 42");
        }
    }

    private static String numbers(Desk desk, int symbol) {
        StringBuilder out = new StringBuilder();
        for (int what = 0; what <= 7; what++) {
            out.append(desk.it.of(symbol, what)).append(' ');
        }
        for (int k = 0; k < desk.it.of(symbol, 2); k++) {
            for (int what = 0; what <= 4; what++) {
                out.append(desk.it.entry(symbol, k, what)).append(',');
            }
            out.append(desk.entryText(symbol, k)).append(' ');
        }
        return out.append(desk.name(symbol)).append(' ').append(desk.text(symbol)).toString();
    }

    /** Whatever was read ahead, a symbol has what it has where it is the only one. */
    private static void answersAreOfTheSymbolAlone() {
        String[] texts = {"a(" + "*".repeat(11) + "int)", "b<c<d<e>>>.f(b<c<d<e>>>,[7]b)", "g", "a((int,bool,*char):*void,*char)",
            "a.b.c.d(a.b,a.b.c,a.b.c.d)", "b(" + "[2]".repeat(5) + "*int)", "g()", "h((((int):int):int):int)",
            "a(a,a,a,a,*a,*a,*a,!*a,!*a)", TWENTY + "(" + TWENTY + "," + TWENTY + "." + TWENTY + ")"};
        Desk all = with(texts);
        String[] alone = new String[texts.length];
        for (int i = 0; i < texts.length; i++) {
            alone[i] = numbers(with(texts[i]), 0);
        }
        for (int step = 1; step < texts.length; step++) {
            for (int i = 0; i < texts.length; i++) {
                int symbol = (i * step + step) % texts.length;
                due("alone or not " + texts[symbol], numbers(all, symbol), alone[symbol]);
            }
        }
        // faults are as they are on a new object, too
        due("not too deep", all.check("_Z1a" + "P".repeat(11) + "1b"), 0);
        due("too deep", all.check("_Z1a" + "P".repeat(12) + "1b"), 6);
        due("not too long", all.check("_Z4aaaa20" + LETTERS + "S_".repeat(94)), 0);
        due("not too long", all.check("_Z1a" + "P".repeat(11) + "iS_S9_"), 0);
    }

    private static void renameEdges() {
        Desk exactly = with("abcdefghij");
        due("all of the tape", exactly.rename("abcdefghij klmnopqrs") + exactly.text(0), "1klmnopqrs");
        Desk none = new Desk();
        due("of no symbols", none.rename("a b") + " " + none.it.told(2), "0 1");
        Desk all = with("b", "b.c", "c.b", "c<b>", "c(b)", "c(*b,&b,!b,[2]b)", "c((b):b)", "c(b<b.b>.b)", "bb.cb", "c.c");
        due("wherever it stands", all.rename("b d"), 8);
        String[] want = {"d", "d.c", "c.d", "c<d>", "c(d)", "c(*d,&d,!d,[2]d)", "c((d):d)", "c(d<d.d>.d)", "bb.cb", "c.c"};
        for (int i = 0; i < want.length; i++) {
            due("text " + i, all.text(i), want[i]);
        }
        due("it is there no more", all.rename("b e"), 0);
        due("of twenty letters", all.rename("d " + TWENTY), 8);
        due("from twenty letters", all.rename(TWENTY + " b"), 8);
        due("to itself", all.rename("b b") + " " + all.it.told(2), "0 8");
        Desk merged = with("a(b,c,*b,*c)");
        due("name", merged.name(0), "_Z1a1b1cPS_PS0_");
        due("what was unlike is alike", merged.rename("c b"), 1);
        due("and is referred to", merged.name(0), "_Z1a1bS_PS_S0_");
        due("table", merged.it.of(0, 2), 2);
    }

    private static void renameGrowsToTheMost() {
        Desk exact = with("aaaa(" + "b,".repeat(94) + "b)");
        due("2,000 bytes", exact.rename("b " + LETTERS), 1);
        due("bytes", exact.it.of(0, 1), 2000);
        due("the same length is fine", exact.rename(LETTERS + " " + TWENTY), 1);
        due("shorter is fine", exact.rename(TWENTY + " c"), 1);
        Desk above = with("aaaaa(" + "b,".repeat(94) + "b)", "b");
        throwsDue("2,001 bytes", () -> above.rename("b " + LETTERS), Desk.STATE);
        due("nothing is changed", above.text(1) + above.it.of(0, 1) + above.it.told(2), "b" + 196 + "2");
        due("the tape is empty", above.it.told(1), 0);
    }

    private static void renameRefused() {
        String[] bad = {"", " ", "  ", "a", "a ", " a", " a b", "a  b", "a b ", "a b c", "A b", "a B", "a1 b", "a b1", "a.c b",
            "a b.c", TWENTY + "u b", "a " + TWENTY + "u", "a,b", "a\tb", "a\nb", "a\0b", "a b\0", "a\u00a0b", "`b c", "a {"};
        for (String two : bad) {
            Desk desk = with("a");
            throwsDue("rename " + two, () -> desk.rename(two), Desk.ARGUMENT);
            due("the tape stays", desk.it.told(1), two.length() > 20 ? 40 : 20);
            due("nothing is changed", desk.text(0) + desk.it.told(2), "a1");
            due("counted", desk.it.status(1), 1);
        }
        Desk two = with("a.b", "b.a", "c.b");
        throwsDue("two would be alike", () -> two.rename("a b"), Desk.STATE);
        throwsDue("two would be alike", () -> two.rename("c a"), Desk.STATE);
        due("nothing is changed", two.text(0) + two.text(1) + two.text(2), "a.bb.ac.b");
        due("counted", two.it.status(2) + " " + two.it.told(2), "2 3");
        due("these would not", two.rename("c d"), 1);
        Desk empty = new Desk();
        throwsDue("of an empty tape", () -> empty.it.rename(0), Desk.ARGUMENT);
        throwsDue("of an empty tape", () -> empty.it.rename(3), Desk.ARGUMENT);
        throwsDue("below 0", () -> empty.it.rename(-1), Desk.ARGUMENT);
    }

    private static void undoEdges() {
        Desk desk = new Desk();
        due("none could", desk.it.undo(), -1);
        for (int i = 0; i < 9; i++) {
            desk.define("a" + (char) ('a' + i));
            due("at most eight", desk.it.told(2), Math.min(i + 1, 8));
        }
        for (int left = 7; left >= 0; left--) {
            due("still can", desk.it.undo(), left);
            due("symbols", desk.it.told(0), left + 1);
        }
        due("none could", desk.it.undo(), -1);
        due("the first stays", desk.text(0), "aa");
        desk.define("aa");
        desk.define("?");
        desk.link("_Z2aa");
        desk.check("_Z1z");
        desk.respell("_Z1z");
        due("these made none", desk.it.told(2), 0);
        for (int i = 0; i < 30; i++) {
            desk.rename((i % 2 == 0 ? "aa b" : "b aa"));
        }
        due("the latest eight", desk.it.told(2), 8);
        due("one", desk.it.undo() + desk.text(0), "7b");
        due("another one", desk.define("c") + " " + desk.it.told(2), "1 8");
        due("a step further on is one more", desk.it.undo() + desk.text(0), "7b");
        due("one", desk.it.undo() + desk.text(0), "6aa");
    }

    private static void undoTakesBackSymbolsAlone() {
        Desk desk = with("a", "b");
        desk.respell("_Z1cPiPi");
        desk.check("_Z1?");
        Desk.answer(() -> desk.it.of(7, 7));
        desk.put("rest");
        due("undo", desk.it.undo(), 1);
        due("the tape", desk.it.told(1), 20);
        due("the fault", desk.it.fault(), 3);
        due("what was respelt", desk.respelt(8), "_Z1cPiS_");
        due("refusals", desk.it.status(0), 1);
        due("its bytes are as they were", desk.it.define(4), 1);
        due("text", desk.text(1), "rest");
    }

    private static void numbersOfSymbolsAndPlaces() {
        Desk desk = with("a", "b(*int,*int)");
        for (int symbol : new int[] {-1, 2, 16, Integer.MAX_VALUE, Integer.MIN_VALUE}) {
            throwsDue("of", () -> desk.it.of(symbol, 0), Desk.MISSING);
            throwsDue("nameAt", () -> desk.it.nameAt(symbol, 0), Desk.MISSING);
            throwsDue("textAt", () -> desk.it.textAt(symbol, 0), Desk.MISSING);
            throwsDue("entry", () -> desk.it.entry(symbol, 0, 0), Desk.MISSING);
            throwsDue("entryAt", () -> desk.it.entryAt(symbol, 0, 0), Desk.MISSING);
            throwsDue("refers", () -> desk.it.refers(symbol, 0), Desk.MISSING);
            throwsDue("alike", () -> desk.it.alike(symbol), Desk.MISSING);
            throwsDue("apart", () -> desk.it.apart(symbol, 0), Desk.MISSING);
            throwsDue("apart", () -> desk.it.apart(0, symbol), Desk.MISSING);
            throwsDue("ranked", () -> desk.it.ranked(symbol), Desk.MISSING);
            throwsDue("stands", () -> desk.it.stands(symbol, 0), Desk.MISSING);
            throwsDue("stands", () -> desk.it.stands(0, symbol), Desk.MISSING);
            throwsDue("shared", () -> desk.it.shared(symbol, 0), Desk.MISSING);
            throwsDue("shared", () -> desk.it.shared(0, symbol), Desk.MISSING);
        }
        due("counted", desk.it.status(0), 70);
        // _Z1bPiS_ and b(*int,*int): the first and the last byte of each
        due("name", desk.it.nameAt(1, 0) + " " + desk.it.nameAt(1, 7), "95 95");
        due("text", desk.it.textAt(1, 0) + " " + desk.it.textAt(1, 11), "98 41");
        due("entry", desk.it.entryAt(1, 0, 0) + " " + desk.it.entryAt(1, 0, 3), "42 116");
        due("refers", desk.it.refers(1, 6) + " " + desk.it.refers(1, 7), "0 -1");
        for (int at : new int[] {-1, 12, Integer.MAX_VALUE, Integer.MIN_VALUE}) {
            throwsDue("nameAt", () -> desk.it.nameAt(1, at), Desk.MISSING);
            throwsDue("textAt", () -> desk.it.textAt(1, at), Desk.MISSING);
            throwsDue("entry", () -> desk.it.entry(1, at, 0), Desk.MISSING);
            throwsDue("entryAt", () -> desk.it.entryAt(1, at, 0), Desk.MISSING);
            throwsDue("entryAt", () -> desk.it.entryAt(1, 0, at), Desk.MISSING);
            throwsDue("refers", () -> desk.it.refers(1, at), Desk.MISSING);
            throwsDue("respelt", () -> desk.it.respelt(at), Desk.MISSING);
        }
        throwsDue("name's end", () -> desk.it.nameAt(1, 8), Desk.MISSING);
        throwsDue("refers' end", () -> desk.it.refers(1, 8), Desk.MISSING);
        throwsDue("entry's end", () -> desk.it.entryAt(1, 0, 4), Desk.MISSING);
        throwsDue("table's end", () -> desk.it.entry(1, 1, 0), Desk.MISSING);
        throwsDue("table's end", () -> desk.it.entryAt(1, 1, 0), Desk.MISSING);
        throwsDue("an empty table", () -> desk.it.entry(0, 0, 0), Desk.MISSING);
    }

    private static void missingIsAheadOfOthers() {
        Desk desk = with("a(*int)");
        for (int what : new int[] {-1, 8, Integer.MAX_VALUE, Integer.MIN_VALUE}) {
            throwsDue("of", () -> desk.it.of(0, what), Desk.ARGUMENT);
            throwsDue("of none", () -> desk.it.of(1, what), Desk.MISSING);
            throwsDue("entry", () -> desk.it.entry(0, 0, what), Desk.ARGUMENT);
            throwsDue("entry of none", () -> desk.it.entry(0, 1, what), Desk.MISSING);
            throwsDue("entry of no symbol", () -> desk.it.entry(1, 0, what), Desk.MISSING);
            throwsDue("told", () -> desk.it.told(what), Desk.ARGUMENT);
            due("status", desk.it.status(what), -1);
        }
        throwsDue("entry 5", () -> desk.it.entry(0, 0, 5), Desk.ARGUMENT);
        throwsDue("told 3", () -> desk.it.told(3), Desk.ARGUMENT);
        due("status 3", desk.it.status(3), -1);
        due("counted", desk.it.status(0) + " " + desk.it.status(1) + " " + desk.it.status(2), "12 14 0");
        Desk empty = new Desk();
        throwsDue("none at all", () -> empty.it.of(0, 9), Desk.MISSING);
    }

    private static void savingIs(String text, String name, int times, int more) {
        Desk desk = with(text);
        due("name of " + text, desk.name(0), name);
        due("referred in " + name, desk.it.of(0, 3), times);
        due("saved in " + name, desk.it.of(0, 4), more);
    }

    private static void savings() {
        savingIs("a", "_Z1a", 0, 0);
        savingIs("a(*int,*int)", "_Z1aPiS_", 1, 0);
        savingIs("a(**int,**int)", "_Z1aPPiS0_", 1, 0);
        // what is referred to may be longer than what it stands for
        savingIs("a(*int,*char,*char)", "_Z1aPiPcS0_", 1, -1);
        savingIs("a(b,*char,*char,*char)", "_Z1a1bPcS0_S0_", 2, -2);
        // spelled out a path stands between N and E again
        savingIs("a(b.c,b.c)", "_Z1aN1b1cES0_", 1, 3);
        savingIs("a(b.c,b.c.d)", "_Z1aN1b1cENS0_1dE", 1, 1);
        savingIs("a(b.c.d,b)", "_Z1aN1b1c1dES_", 1, 0);
        savingIs("a(b<int>,b<int>.c)", "_Z1a1bIiENS0_1cE", 1, 2);
        savingIs("a<*a,*a>", "_Z1aIPS_S0_E", 2, 0);
        savingIs("a([12]int,[12]int)", "_Z1aA12_iS_", 1, 3);
        savingIs("a([2147483647]int,[2147483647]int)", "_Z1aA2147483647_iS_", 1, 11);
        savingIs("a(&int,&int)", "_Z1aRiS_", 1, 0);
        savingIs("a(!int,!int)", "_Z1aKiS_", 1, 0);
        savingIs("a((int,int):int,(int,int):int)", "_Z1aFiiiES_", 1, 3);
        savingIs("a(():void,():void)", "_Z1aFvES_", 1, 1);
        savingIs("a(b<int,int>,b<int,int>)", "_Z1a1bIiiES0_", 1, 3);
        savingIs("a(" + TWENTY + "," + TWENTY + ")", "_Z1a20" + TWENTY + "S_", 1, 20);
        savingIs("a(b.c.d.e,b.c.d.e)", "_Z1aN1b1c1d1eES2_", 1, 7);
        // of what is within one another the outermost is, each time with all in it
        savingIs("a((*b,*b):b,(*b,*b):b)", "_Z1aF1bPS_S0_ES1_", 3, 7);
        Desk desk = with("a((*b,*b):b,(*b,*b):b)");
        int[] uses = {1, 1, 1};
        for (int k = 0; k < uses.length; k++) {
            due("uses of " + k, desk.it.entry(0, k, 3), uses[k]);
        }
    }

    private static String all(Desk desk) {
        StringBuilder out = new StringBuilder();
        out.append(desk.it.told(0)).append(' ').append(desk.it.told(1)).append(' ').append(desk.it.told(2)).append(' ');
        out.append(desk.it.fault()).append(' ').append(desk.it.print());
        for (int i = 0; i < desk.it.told(0); i++) {
            out.append(' ').append(desk.name(i)).append(' ').append(desk.text(i));
            for (int k = 0; k < desk.it.of(i, 2); k++) {
                out.append(' ').append(desk.entryText(i, k));
            }
            for (int j = 0; j < desk.it.told(0); j++) {
                out.append(' ').append(desk.it.stands(i, j)).append(desk.it.shared(i, j)).append(desk.it.apart(i, j));
            }
            out.append(desk.it.alike(i)).append(desk.it.ranked(i));
        }
        return out.toString();
    }

    private static void askedNothingStaysChanged() {
        Desk desk = with("a(*b)", "b.c<a>(*b)", "a");
        desk.define("a(");
        desk.put("_Z1cPiPi");
        String ahead = all(desk);
        due("asked again", all(desk), ahead);
        due("the tape is as it was", desk.it.respell(8), 8);
        desk.check("_Z1d1e1f");
        desk.define("a(");
        desk.put("_Z1cPiPi");
        due("check and respell change none of it", all(desk), ahead);
        throwsDue("refused", () -> desk.it.define(21), Desk.ARGUMENT);
        throwsDue("refused", () -> desk.it.forget(3), Desk.MISSING);
        throwsDue("refused", () -> desk.it.told(3), Desk.ARGUMENT);
        due("refusals change none of it", all(desk), ahead);
    }

    private static void longNames() {
        // Pc is shorter than S0_, so that a name may grow beyond what the tape holds
        String wasted = "_Z1aPi" + "Pc".repeat(190);
        String spelled = "_Z1aPiPc" + "S0_".repeat(189);
        Desk desk = new Desk();
        due("respell", desk.respell(wasted), spelled.length());
        due("respelt", desk.respelt(spelled.length()), spelled);
        throwsDue("its end", () -> desk.it.respelt(spelled.length()), Desk.MISSING);
        String short380 = "b.c(" + "b,".repeat(180) + "b)";
        due("define", desk.define(short380), 0);
        due("name", desk.name(0), "_ZN1b1cE" + "S_".repeat(181));
        due("rename", desk.rename("b " + "x".repeat(9)), 1);
        due("name", desk.name(0), "_ZN9xxxxxxxxx1cE" + "S_".repeat(181));
        due("text", desk.it.of(0, 1), 11 + 2 + 180 + 181 * 9);
        Desk far = new Desk();
        String many = "a(*int,b" + ",b".repeat(190) + ")";
        due("define", far.define(many), 0);
        due("name", far.name(0), "_Z1aPi1b" + "S0_".repeat(190));
        due("it is read again", far.it.of(0, 3) + " " + far.it.of(0, 5), "190 192");
        due("rename", far.rename("a c") + far.name(0), "1_Z1cPi1b" + "S0_".repeat(190));
    }

    private static void respeltKeepsTheLatest() {
        Desk desk = new Desk();
        throwsDue("none yet", () -> desk.it.respelt(0), Desk.MISSING);
        due("a fault", desk.respell("_Z1a?"), -9);
        throwsDue("none yet", () -> desk.it.respelt(0), Desk.MISSING);
        due("one", desk.respell("_Z3foo3bar3bar"), 12);
        due("a fault", desk.respell("_Z3foo3bar3ba"), -8);
        due("it stays", desk.respelt(12), "_Z3foo3barS_");
        due("shorter", desk.respell("_Z1a"), 4);
        throwsDue("its end", () -> desk.it.respelt(4), Desk.MISSING);
        desk.define("b(int)");
        desk.link("_Z1cv");
        desk.check("_Z1dv");
        desk.rename("b e");
        throwsDue("refused", () -> desk.it.respell(1), Desk.ARGUMENT);
        due("others leave it", desk.respelt(4), "_Z1a");
        due("no symbol came of it", desk.it.told(0) + desk.text(0) + desk.text(1), "2e(int)c()");
        // what is there already is not numbered again, so later numbers are those of the symbol
        due("numbers", desk.respell("_Z1aPiPiPlPlS_S0_"), 18);
        due("name", desk.respelt(18), "_Z1aPiS_PlS0_S_S0_");
    }

    private static void ranksAndParts() {
        Desk one = with("a");
        due("one alone", one.it.ranked(0) + " " + one.it.apart(0, 0) + " " + one.it.alike(0), "0 -1 1");
        Desk desk = with("a()", "a", "a(int)", "aa", "a<int>", "a.a");
        // _Z1a _Z1aIiE _Z1ai _Z1av _Z2aa _ZN1a1aE
        int[] want = {1, 4, 2, 0, 3, 5};
        for (int k = 0; k < want.length; k++) {
            due("ranked " + k, desk.it.ranked(k), want[k]);
        }
        due("where one ends", desk.it.apart(0, 1) + " " + desk.it.apart(1, 0), "4 4");
        due("the last byte", desk.it.apart(0, 2), 4);
        due("behind _Z", desk.it.apart(1, 3), 2);
        due("alike", desk.it.alike(0) + "" + desk.it.alike(1) + desk.it.alike(3) + desk.it.alike(4), "3311");
    }

    private static void printWrapsAround() {
        Desk desk = with("aaaaaaaaaaaaaaaaaaaa(*int)", "b");
        long sum = 0;
        for (char sign : "_Z20aaaaaaaaaaaaaaaaaaaaPi_Z1b".toCharArray()) {
            sum = sum * 31 + sign;
        }
        due("print", desk.it.print(), sum);
        desk.it.forget(0);
        due("print", desk.it.print(), 31L * (31 * (31 * 95 + 90) + 49) + 98);
        desk.it.forget(0);
        due("of none", desk.it.print(), 0);
    }

    private static void refusalsAreCounted() {
        Desk desk = with("a", "b");
        Desk.answer(() -> desk.it.forget(2));
        Desk.answer(() -> desk.it.respelt(0));
        Desk.answer(() -> desk.it.link(1));
        Desk.answer(() -> desk.it.rename(0));
        Desk.answer(() -> desk.it.told(9));
        Desk.answer(() -> desk.rename("a b"));
        due("counted", desk.it.status(0) + " " + desk.it.status(1) + " " + desk.it.status(2), "2 3 1");
        desk.define("?");
        desk.link("?");
        desk.check("?");
        desk.respell("?");
        desk.it.status(7);
        desk.it.undo();
        desk.it.undo();
        desk.it.undo();
        due("answers are no refusals", desk.it.status(0) + " " + desk.it.status(1) + " " + desk.it.status(2), "2 3 1");
    }
}
