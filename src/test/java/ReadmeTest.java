/** What README.md shows is what the class answers. */
public final class ReadmeTest {
    public static void main(String[] args) {
        firstExample();
        tooLongSpelled();
        faults();
        Desk.end();
    }

    private static void firstExample() {
        NameMangler it = new NameMangler();
        it.feed(0x666f6f28, 0x2a636861, 0x72290000, 0, 0);
        int symbol = it.define(10);
        Desk.due("symbol", symbol, 0);
        Desk.due("bytes", it.of(symbol, 0), 8);
        Desk.due("sign", (char) it.nameAt(symbol, 6), 'P');
        Desk desk = new Desk();
        desk.define("box.get<int>(*box,&!box.item)");
        Desk.due("name", desk.name(0), "_ZN3box3getIiEEPS_RKNS_4itemE");
    }

    private static void tooLongSpelled() {
        Desk desk = new Desk();
        Desk.due("check", desk.check("_Z1fPiPi"), 4);
        Desk.due("place", desk.it.fault(), 6);
        Desk.due("respell", desk.respell("_Z1fPiPi"), 8);
        Desk.due("respelt", desk.respelt(8), "_Z1fPiS_");
        Desk.due("link", desk.link("_Z1fPiS_"), 0);
        Desk.due("text", desk.text(0), "f(*int,*int)");
    }

    /** The example of each kind in README's table: a name, and the place of its fault. */
    private static void faults() {
        fault(1, "_Z1fx", 4);
        fault(2, "_Z9f", 2);
        fault(3, "_Z1fS_", 4);
        fault(4, "_Z1fPiPi", 6);
        fault(5, "_Z1fRv", 4);
        fault(6, "_Z1fPPPPPPPPPPPPi", 16);
        tooLongToldName();
    }

    private static void fault(int kind, String name, int place) {
        Desk desk = new Desk();
        Desk.due("kind of " + name, desk.check(name), kind);
        Desk.due("place of " + name, desk.it.fault(), place);
        Desk.due("link of " + name, desk.link(name), kind - 10);
    }

    private static void tooLongToldName() {
        String word = "abcdefghijklmnopqrst";
        String name = "_Z1f20" + word + "S_".repeat(110);
        fault(7, name, name.length());
    }
}
