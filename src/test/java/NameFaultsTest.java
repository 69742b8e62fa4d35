/** Names with the fault that each has: its kind and its place, "0 -1" without one. */
public final class NameFaultsTest {
    private static void has(String name, int kind, int place) {
        Desk desk = new Desk();
        Desk.due("check " + name, desk.check(name) + " at " + desk.it.fault(), kind + " at " + place);
        int links = desk.link(name);
        Desk.due("link " + name, links + " at " + desk.it.fault(), (kind == 0 ? 0 : kind - 10) + " at " + place);
        int respells = desk.respell(name);
        if (kind == 0) {
            Desk.due("respelt " + name, desk.respelt(respells), name);
            Desk.due("name " + name, desk.name(0), name);
        } else if (kind != 4) {
            Desk.due("respell " + name, respells + " at " + desk.it.fault(), kind - 10 + " at " + place);
        }
    }

    private static void good(String name) {
        has(name, 0, -1);
    }

    public static void main(String[] args) {
        cannotStand();
        numbers();
        references();
        notAllowed();
        spelledAgain();
        referredPaths();
        depth();
        length();
        order();
        Desk.end();
    }

    private static void cannotStand() {
        has("", 1, 0);
        has("_", 1, 1);
        has("Z1a", 1, 0);
        has("_z1a", 1, 1);
        has("_Z", 1, 2);
        has("_Zi", 1, 2);
        has("_ZP1a", 1, 2);
        has("_Z3bOx", 1, 4);
        has("_Z1a?", 1, 4);
        has("_Z1aE", 1, 4);
        has("_Z1aI", 1, 5);
        has("_Z1aIE", 1, 5);
        has("_Z1aIi", 1, 6);
        has("_Z1aIiEI", 1, 7);
        has("_Z1aIiEIiE", 1, 7);
        has("_ZNE", 1, 3);
        has("_ZN1aE", 1, 5);
        has("_ZN1a", 1, 5);
        has("_ZN1a1b", 1, 7);
        has("_ZN1aIiEE", 1, 8);
        has("_ZN1aIiEIiE1bE", 1, 8);
        has("_ZNI", 1, 3);
        has("_ZNi", 1, 3);
        has("_ZN1a?", 1, 5);
        has("_Z1avi", 1, 5);
        has("_Z1avv", 1, 5);
        has("_Z1aF", 1, 5);
        has("_Z1aFE", 1, 5);
        has("_Z1aFv", 1, 6);
        has("_Z1aP", 1, 5);
        has("_Z1aA_i", 1, 5);
        has("_Z1aA3i", 1, 6);
        has("_Z1aA3", 1, 6);
        has("_Z1aA3_", 1, 7);
        has("_Z1aPiS", 1, 7);
        has("_Z1aPiSa", 1, 7);
        has("_Z1aPiS0", 1, 8);
        good("_Z1a");
        good("_Z1av");
        good("_ZN1a1bE");
        good("_ZN1aIiE1bEv");
        good("_ZN1a1bIiEE");
        good("_Z1aIiEv");
        good("_Z1aFvE");
        good("_Z1aFvilE");
        good("_Z1abcilf");
    }

    private static void numbers() {
        has("_Z0", 2, 2);
        has("_Z03box", 2, 2);
        has("_Z00", 2, 2);
        has("_Z3bo", 2, 2);
        has("_Z3", 2, 2);
        has("_Z21aaaaaaaaaaaaaaaaaaaaa", 2, 2);
        has("_Z99999999999999999999999a", 2, 2);
        good("_Z20aaaaaaaaaaaaaaaaaaaa");
        has("_ZN1a2bE", 1, 7);
        has("_ZN1a9bE", 2, 5);
        has("_Z1aA0_i", 2, 5);
        has("_Z1aA01_i", 2, 5);
        has("_Z1aA00", 2, 5);
        has("_Z1aA2147483648_i", 2, 5);
        has("_Z1aA4294967297_i", 2, 5);
        has("_Z1aA99999999999999999999_i", 2, 5);
        has("_Z1aA2147483648", 2, 5);
        good("_Z1aA2147483647_i");
        good("_Z1aA1_i");
    }

    private static void references() {
        has("_ZS_", 3, 2);
        has("_ZNS_1aE", 3, 3);
        has("_Z1aS_", 3, 4);
        has("_Z1aPiS0_", 3, 6);
        has("_Z1aPiS00_", 2, 7);
        has("_Z1aPiS01_", 2, 7);
        has("_Z1aPiS255R_", 3, 6);
        has("_Z1aPiS255S_", 2, 7);
        has("_Z1aPiSZZZZZZZZZZZZ_", 2, 7);
        has("_Z1aPiS00", 1, 9);
        has("_Z1aPPS_", 3, 6);
        good("_Z1aPiS_");
        good("_Z1aPPiS_S0_");
        has("_Z1aPPiS_S1_", 3, 9);
        StringBuilder many = new StringBuilder("_Z1a");
        for (int i = 1; i <= 38; i++) {
            many.append('A').append(i).append("_i");
        }
        good(many + "S_S0_S9_SA_SZ_S10_");
        has(many + "S11_", 3, many.length());
    }

    private static void notAllowed() {
        String[] barred = {"Rv", "RRi", "PRi", "Kv", "KKi", "KRi", "KA3_i", "KFvE", "A3_v", "A3_Ri", "A3_FvE"};
        for (String type : barred) {
            has("_Z1a" + type, 5, 4);
            has("_Z1aI" + type + "E", 5, 5);
            has("_Z1aP" + type, 5, 5);
        }
        String[] fine = {"Pv", "RPi", "RKi", "RA3_i", "RFvE", "PPi", "PKi", "PA3_i", "PFvE", "KPi", "A3_Pi", "A3_Ki", "A3_A3_i",
            "FPvE", "FRiE", "FKiE", "FvPvE", "FvRiE", "FvA3_iE", "FvFvEE", "FvKiE", "Kb"};
        for (String type : fine) {
            good("_Z1a" + type);
            good("_Z1aI" + type + "E");
        }
        has("_Z1aFA3_iE", 5, 5);
        has("_Z1aFFvEE", 5, 5);
        has("_Z1aFivE", 5, 6);
        has("_Z1aFiivE", 5, 7);
        has("_Z1aIvE", 5, 5);
        has("_Z1aIivE", 5, 6);
        has("_Z1aiv", 5, 5);
        has("_Z1aA3_iFS_E", 5, 9);
        has("_Z3int", 5, 2);
        has("_Z4void", 5, 2);
        has("_Z4bool", 5, 2);
        has("_Z4char", 5, 2);
        has("_Z4long", 5, 2);
        has("_Z5float", 5, 2);
        has("_ZN1a3intE", 5, 5);
        has("_ZN3int1aE", 5, 3);
        has("_Z1a5float", 5, 4);
        good("_Z6double");
        good("_Z4ints");
    }

    private static void spelledAgain() {
        has("_Z1aPiPi", 4, 6);
        has("_Z1a1b1b", 4, 6);
        good("_Z1a1aS_");
        has("_Z1aI1aE", 4, 5);
        good("_Z1aIS_E");
        has("_Z1aN1b1cEN1b1cE", 4, 11);
        has("_Z1aN1b1cENS_1cE", 4, 11);
        has("_Z1aN1b1cENS_1dEN1b1cE", 4, 17);
        good("_Z1aN1b1cENS0_1dE");
        good("_Z1aN1b1cENS_1dE");
        has("_Z1a1bIiE1bIiE", 4, 9);
        has("_Z1a1bIiES_IiE", 4, 9);
        good("_Z1a1bIiES_IlES0_");
        has("_ZN1a1bE1a", 4, 8);
        good("_ZN1a1bES_");
        good("_ZN1a1bENS_1bE");
        has("_ZN1a1bENS_1bENS_1bE", 4, 15);
        good("_ZN1a1bENS_1bES0_");
        has("_Z1aFviEFviE", 4, 8);
        has("_Z1aA3_iA3_i", 4, 8);
        has("_Z1aPiPPi", 4, 7);
        has("_Z1aPPiPS_", 4, 7);
        has("_Z1aN1bIiE1cENS0_1cE", 4, 14);
    }

    private static void referredPaths() {
        has("_Z1aPiS_I", 5, 6);
        has("_Z1a1bIiES0_I", 5, 9);
        has("_Z1aN1b1cES0_IiE", 1, 13);
        has("_Z1aN1b1cIiEES1_I", 5, 13);
        good("_Z1aN1b1cENS0_IiEE");
        has("_Z1aN1b1cENS_E", 1, 13);
        has("_Z1aN1b1cENS0_E", 1, 14);
        has("_Z1aPiNS_1bE", 5, 7);
        has("_Z1aPiNS_IiE", 5, 7);
        has("_Z1aPiNS_E", 1, 9);
        has("_Z1aPiNS_?", 1, 9);
        has("_Z1aPiNS_", 1, 9);
        has("_Z1a1bIiENS0_IiEE", 5, 10);
        good("_Z1a1bIiENS0_1cE");
        has("_Z1a1bNS_IiEE", 1, 12);
        good("_Z1a1bNS_IiE1cE");
    }

    private static String times(String sign, int n) {
        return sign.repeat(n);
    }

    private static void depth() {
        good("_Z1a" + times("P", 11) + "i");
        has("_Z1a" + times("P", 12) + "i", 6, 16);
        has("_Z1a" + times("P", 12) + "1b", 6, 16);
        has("_Z1a" + times("P", 12) + "N1b1cE", 6, 16);
        has("_Z1a" + times("P", 12) + "03b", 6, 16);
        has("_Z1a" + times("P", 12) + "S", 6, 16);
        has("_Z1a" + times("P", 12) + "S?", 6, 16);
        has("_Z1a" + times("P", 12) + "S_", 6, 16);
        has("_Z1a" + times("P", 12) + "S00_", 6, 16);
        has("_Z1a" + times("P", 11) + "S", 1, 16);
        has("_Z1a" + times("P", 11) + "S00_", 2, 16);
        has("_Z1a" + times("P", 11) + "S_", 3, 15);
        has("_Z1a1b" + times("P", 12) + "S_", 6, 18);
        good("_Z1a1b" + times("P", 11) + "S_");
        has("_Z1aI" + times("P", 12) + "S", 6, 17);
        has("_Z1a" + times("P", 11) + "FS", 6, 16);
        has("_Z1a" + times("P", 10) + "FvPS", 6, 17);
        has("_Z1a" + times("P", 11) + "1bIS", 6, 18);
        has("_Z1a" + times("P", 11) + "A3_S", 6, 18);
        has("_Z1a" + times("P", 12) + "?", 1, 16);
        has("_Z1a" + times("P", 12) + "E", 1, 16);
        has("_Z1a" + times("P", 12), 1, 16);
        good("_Z1aI" + times("P", 11) + "iE");
        has("_Z1aI" + times("P", 12) + "iE", 6, 17);
        has("_Z1a" + times("P", 10) + "1bIPiE", 6, 18);
        good("_Z1a" + times("P", 10) + "1bIiE");
        good("_Z1a" + times("P", 10) + "N1bIiE1cIlEE");
        has("_Z1a" + times("P", 11) + "FvE", 6, 16);
        has("_Z1a" + times("P", 10) + "FvPiE", 6, 17);
        good("_Z1a" + times("P", 11) + "iS9_");
        has("_Z1a" + times("P", 11) + "iPS9_", 6, 17);
        good("_Z1a" + times("P", 11) + "iS9_S8_");
        has("_Z1a" + times("P", 11) + "iPSA_", 3, 17);
        has("_Z1a1bI" + times("P", 11) + "iE", 6, 18);
        good("_Z1a1bI" + times("P", 10) + "iE");
        has("_Z1a1bI" + times("P", 10) + "iEPNSA_1cE", 6, 21);
        good("_Z1a1bI" + times("P", 10) + "iENSA_1cE");
    }

    private static void length() {
        String letters = times("b", 20);
        String tail = "20" + letters + times("S_", 94);
        good("_Z4aaaa" + tail);
        has("_Z5aaaaa" + tail, 7, 8 + tail.length());
        has("_Z5aaaaa" + tail + "S0_", 3, 8 + tail.length());
        String doubling = "_Z1aFviiE";
        for (int i = 0; i < 10; i++) {
            String inner = i == 0 ? "S_" : "S" + (char) ('0' + i - 1) + "_";
            doubling += "Fv" + times(inner, 10) + "E";
        }
        has(doubling, 7, doubling.length());
    }

    private static void order() {
        // of what ends behind the same byte the inner one is first, of one 5 is ahead of 4
        has("_Z1aRiPRi", 4, 7);
        has("_Z1aA3_iFA3_iE", 5, 9);
        has("_Z1aRiKKi", 5, 6);
        has("_Z1aPRv", 5, 5);
        has("_Z1aFivPPP", 5, 6);
        has("_Z1aPRi?", 5, 4);
        has("_Z3int?", 5, 2);
        has("_Z1aN1b1cENS_1c?", 4, 11);
        has("_Z1aPiNS_1?", 5, 7);
    }
}
