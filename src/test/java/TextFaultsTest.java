/** Texts with the fault that each has, and the name of those that have none. */
public final class TextFaultsTest {
    private static void has(String text, int kind, int place) {
        Desk desk = new Desk();
        Desk.due("define " + text, desk.define(text) + " at " + desk.it.fault(), kind - 10 + " at " + place);
        Desk.due("symbols behind " + text, desk.it.told(0), 0);
        Desk.due("tape behind " + text, desk.it.told(1), 0);
    }

    private static void good(String text, String name) {
        Desk desk = new Desk();
        Desk.due("define " + text, desk.define(text) + " at " + desk.it.fault(), "0 at -1");
        Desk.due("name of " + text, desk.name(0), name);
        Desk.due("text of " + text, desk.text(0), text.replace(" ", ""));
        Desk.due("link " + name, desk.link(name), 0);
    }

    public static void main(String[] args) {
        spelled();
        cannotStand();
        numbers();
        notAllowed();
        depth();
        Desk.end();
    }

    private static void spelled() {
        good("a", "_Z1a");
        good("a()", "_Z1av");
        good(" a ( ) ", "_Z1av");
        good("a.b.c", "_ZN1a1b1cE");
        good("a<int>", "_Z1aIiE");
        good("a<int>.b<long>", "_ZN1aIiE1bIlEE");
        good("a(bool,char,int,long,float)", "_Z1abcilf");
        good("a(*void)", "_Z1aPv");
        good("a(&!b)", "_Z1aRK1b");
        good("a(*b,*b,b)", "_Z1aP1bS0_S_");
        good("a([3]int,[2147483647]int)", "_Z1aA3_iA2147483647_i");
        good("a(():void)", "_Z1aFvE");
        good("a((int,*a):*a)", "_Z1aFP1aiS0_E");
        good("a(b<c>,b<d>,b<c>)", "_Z1a1bI1cES_I1dES1_");
        good("a(b.c<int>,b.c<long>,b.c)", "_Z1aN1b1cIiEENS0_IlEES0_");
        good("a<a>", "_Z1aIS_E");
        good("a.b(a,a.b,a.b)", "_ZN1a1bES_NS_1bES0_");
        good("a<a<a>>", "_Z1aIS_IS_EE");
        good("  box . item < int , * box > ( ! box , [ 12 ] box . item , ( ) : int )  ",
            "_ZN3box4itemIiPS_EEKS_A12_S0_FiE");
        good("aaaaaaaaaaaaaaaaaaaa", "_Z20aaaaaaaaaaaaaaaaaaaa");
        good("a(x.y<x>.z,x.y<x>)", "_Z1aN1x1yIS_E1zES1_");
    }

    private static void cannotStand() {
        has("", 1, 0);
        has("   ", 1, 3);
        has("?", 1, 0);
        has("A", 1, 0);
        has("*a", 1, 0);
        has("3a", 1, 0);
        has("int", 1, 0);
        has("  void", 1, 2);
        has("a.int", 1, 2);
        has("a.", 1, 2);
        has("a. ", 1, 3);
        has(".a", 1, 0);
        has("a..b", 1, 2);
        has("a b", 1, 2);
        has("aB", 1, 1);
        has("a1", 1, 1);
        has("a(", 1, 2);
        has("a(  ", 1, 4);
        has("a)", 1, 1);
        has("a(,)", 1, 2);
        has("a(int", 1, 5);
        has("a(int,", 1, 6);
        has("a(int,)", 1, 6);
        has("a(int int)", 1, 6);
        has("a(int)(int)", 1, 6);
        has("a()b", 1, 3);
        has("a<>", 1, 2);
        has("a<int", 1, 5);
        has("a<int)", 1, 5);
        has("a<int><int>", 1, 6);
        has("a<int>b", 1, 6);
        has("a(int>", 1, 5);
        has("a(int.b)", 1, 5);
        has("a(int<b>)", 1, 5);
        has("a(b.int)", 1, 4);
        has("a(b.void.c)", 1, 4);
        has("a([]int)", 1, 3);
        has("a([x]int)", 1, 3);
        has("a([3 int)", 1, 5);
        has("a([3 4]int)", 1, 5);
        has("a([3])", 1, 5);
        has("a(()int)", 1, 4);
        has("a(())", 1, 4);
        has("a(():)", 1, 5);
        has("a((int:int)", 1, 6);
        has("a(*)", 1, 3);
        has("a\t", 1, 1);
        has("a\0", 1, 1);
        has("a\u00ff", 1, 1);
    }

    private static void numbers() {
        has("aaaaaaaaaaaaaaaaaaaaa", 2, 0);
        has("a. aaaaaaaaaaaaaaaaaaaaa", 2, 3);
        has("a(*aaaaaaaaaaaaaaaaaaaaa)", 2, 3);
        has("a([0]int)", 2, 3);
        has("a([ 01]int)", 2, 4);
        has("a([2147483648]int)", 2, 3);
        has("a([99999999999999999999]int)", 2, 3);
        has("a([00", 2, 3);
    }

    private static void notAllowed() {
        String[] barred = {"&void", "&&int", "*&int", "!void", "!!int", "!&int", "![3]int", "!():int",
            "[3]void", "[3]&int", "[3]():int"};
        for (String type : barred) {
            has("a(" + type + ")", 5, 2);
            has("a<" + type + ">", 5, 2);
            has("a( *" + type + ")", 5, 4);
            has("a(" + type, 5, 2);
        }
        has("a(void)", 5, 2);
        has("a( void )", 5, 3);
        has("a(int,void", 5, 6);
        has("a<void?", 5, 2);
        has("a((void):int)", 5, 3);
        has("a(():[3]int)", 5, 5);
        has("a(():():int)", 5, 5);
        has("a(!!!int)", 5, 3);
    }

    private static void depth() {
        String eleven = "*".repeat(11);
        good("a(" + eleven + "int)", "_Z1a" + "P".repeat(11) + "i");
        has("a(*" + eleven + "int)", 6, 14);
        has("a(*" + eleven + "aaaaaaaaaaaaaaaaaaaaa)", 6, 14);
        has("a(*" + eleven + " ?)", 1, 15);
        has("a<*" + eleven + "int>", 6, 14);
        good("a<" + eleven + "int>", "_Z1aI" + "P".repeat(11) + "iE");
        has("a(" + eleven + "b<int>)", 6, 15);
        has("a(" + eleven + "():int)", 6, 16);
        has("a(" + eleven + "(int):int)", 6, 14);
    }
}
