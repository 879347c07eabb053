/** Sections 1 (villages, laws, plans, books, faults) and promises 1 to 7: each sentence that names a boundary. */
public final class BoundsOfTextsTest {
    private static final String DOOR = "door 0 0 0;";
    private static final String SINGER = "singer 1 1;";
    private static CarolDoors x;

    public static void main(String[] args) {
        villageLength();
        villageClauses();
        villageDoors();
        toldAhead();
        oddsAndMinutes();
        withoutClauses();
        villageSingers();
        villageRest();
        lastCounts();
        numbersAndWords();
        blanks();
        laws();
        lawFaults();
        values();
        names();
        give();
        plans();
        books();
        faults();
        promises();
        calls512();
        Calls.end();
    }

    private static void village(String text, int want, int fault) {
        Calls.due("village '" + text + "'", Calls.village(x, text), want);
        Calls.due("fault of village '" + text + "'", x.fault(), fault);
    }

    private static void law(String text, int want, int fault) {
        for (int which = 0; which < 2; which++) {
            Calls.due("law '" + text + "'", Calls.law(x, which, text), want);
            Calls.due("fault of law '" + text + "'", x.fault(), fault);
        }
    }

    private static void plan(String text, int want, int fault) {
        Calls.due("plan '" + text + "'", Calls.plan(x, text), want);
        Calls.due("fault of plan '" + text + "'", x.fault(), fault);
    }

    private static void book(String text, int want, int fault) {
        Calls.due("book '" + text + "'", Calls.book(x, text), want);
        Calls.due("fault of book '" + text + "'", x.fault(), fault);
    }

    /** The last number of a clause, behind what is ahead of it: from least to most alone. */
    private static void number(String ahead, int least, int most, String behind) {
        String[] within = {"" + least, "" + most, "000" + most, " " + least};
        String[] without = {"" + (most + 1), "4294967296", "4294967297", "18446744073709551616",
            "18446744073709551617", "99999999999999999999999999"};
        for (String number : within) {
            Calls.due(ahead + number + behind, Calls.village(x, ahead + number + behind) >= 0, true);
            Calls.due("no fault", x.fault(), -1);
        }
        for (String number : without) {
            village(ahead + number + behind, -8, ahead.length());
        }
        if (least > 0) {
            village(ahead + (least - 1) + behind, -8, ahead.length());
        }
        village(ahead + "-1" + behind, -9, ahead.length());
    }

    // ---- the village ----

    private static void villageLength() {
        Says.says("A VILLAGE is a text of up to 600 bytes");
        x = new CarolDoors();
        String text = " ".repeat(589) + "door 7 8 9;";
        village(text, 1, -1);
        Calls.due("X at the end of 600 bytes", x.door(0, 0), 7);
        village(text.substring(0, 599) + "x", -9, 599);
        Calls.feed(x, text);
        Calls.refused("village(601)", 'A', () -> x.village(601));
        village("", 0, -1);
    }

    private static void villageClauses() {
        Says.says("{ CLAUSE \";\" }, at most 60");
        x = new CarolDoors();
        village("verse 3;".repeat(59) + "verse 4;", 0, -1);
        Calls.due("the 60th clause counts", x.told(5), 4);
        village("verse 3;".repeat(60) + "verse 5;", -7, 480);
        Calls.due("the village stays", x.told(5), 4);
        village("verse 3;".repeat(60) + "door 100 0 0;", -7, 480);
        village("verse 3;".repeat(60) + "verse", -7, 480);
        village("verse 3;".repeat(60) + "vers", -9, 480);
        village("verse 3;".repeat(60) + "7", -9, 480);
        village("verse 3;".repeat(60) + " ", 0, -1);
    }

    private static void villageDoors() {
        Says.says("numbered from 0 on, 10 at most: X minutes along the street, 0 to 99, P pence, 0 to 240, J joy, 0 to 99)");
        x = new CarolDoors();
        village("door 99 240 99;" + DOOR, 2, -1);
        int[] most = {99, 240, 99};
        for (int what = 0; what < 3; what++) {
            Calls.due("the most of " + what, x.door(0, what), most[what]);
            Calls.due("the least of " + what, x.door(1, what), 0);
        }
        number("door ", 0, 99, " 0 0;");
        number("door 0 ", 0, 240, " 0;");
        number("door 0 0 ", 0, 99, ";");
        village(DOOR.repeat(9) + "door 5 6 7;", 10, -1);
        Calls.due("the tenth", x.door(9, 1), 6);
        village(DOOR.repeat(10) + "door 100 0 0;", -7, 110);
        village(DOOR.repeat(10) + "door", -7, 110);
        village("verse 1;" + DOOR.repeat(10) + "  door;", -7, 120);
    }

    private static void toldAhead() {
        Says.says("D, I: told ahead.");
        x = new CarolDoors();
        String[] ofDoors = {"in ", "hears ", "rings ", "light ", "drive ", "pies "};
        for (String word : ofDoors) {
            String behind = word.equals("light ") ? " 0 0;" : " 0;";
            village(word + "0" + behind, -8, word.length());
            village(word + "0" + behind + DOOR, -8, word.length());
            village(SINGER + word + "0" + behind, -8, 11 + word.length());
            village(DOOR + DOOR + word + "2" + behind, -8, 22 + word.length());
            village(DOOR + DOOR + word + "1" + behind, 2, -1);
            village(DOOR + word + "4294967296" + behind, -8, 11 + word.length());
        }
        for (String word : new String[] {"home ", "solo "}) {
            village(word + "0 0;", -8, 5);
            village(word + "0 0;" + SINGER, -8, 5);
            village(DOOR + word + "0 0;", -8, 16);
            village(SINGER + SINGER + word + "2 0;", -8, 27);
            village(SINGER + SINGER + word + "1 0;", 0, -1);
        }
    }

    private static void oddsAndMinutes() {
        Says.says("all these 0 to 16)");
        x = new CarolDoors();
        number(DOOR + "in 0 ", 0, 16, ";");
        number(DOOR + "hears 0 ", 0, 16, ";");
        number(DOOR + "rings 0 ", 0, 16, ";");
        number(DOOR + "light 0 ", 0, 16, " 0;");
        number(DOOR + "light 0 0 ", 0, 16, ";");
        Says.says("M minutes there, and M back, 0 to 20; 0 without)");
        number(DOOR + "drive 0 ", 0, 20, ";");
        Says.says("M minutes, if they come, 0 to 30; 0 without)");
        number(DOOR + "pies 0 ", 0, 30, ";");
        String text = "in 1 16;hears 1 0;rings 1 16;light 1 0 16;drive 1 20;pies 1 30;";
        village(DOOR + DOOR + text, 2, -1);
        int[] want = {0, 0, 0, 16, 0, 16, 0, 16, 20, 30};
        for (int what = 0; what < 10; what++) {
            Calls.due("door 1 " + what, x.door(1, what), want[what]);
        }
    }

    private static void withoutClauses() {
        x = new CarolDoors();
        village(DOOR, 1, -1);
        Says.says("12 without), \"hears\"");
        Calls.due("in", x.door(0, 3), 12);
        Says.says("(comes by K of 16 at each verse; 6 without)");
        Calls.due("hears", x.door(0, 4), 6);
        Says.says("(by R of 16 at a ring; 10 without)");
        Calls.due("rings", x.door(0, 5), 10);
        Says.says("if not; 12 and 4 without");
        Calls.due("lit", x.door(0, 6), 12);
        Calls.due("lit, if nobody is in", x.door(0, 7), 4);
        Says.says("0 to 20; 0 without");
        Calls.due("drive", x.door(0, 8), 0);
        Says.says("0 to 30; 0 without");
        Calls.due("pies", x.door(0, 9), 0);
        // what the village ahead of it told is forgotten
        village(DOOR + "in 0 1;hears 0 1;rings 0 1;light 0 1 1;drive 0 1;pies 0 1;" + SINGER + "home 0 1;solo 0 1;", 1, -1);
        village(DOOR + SINGER, 1, -1);
        int[] want = {0, 0, 0, 12, 6, 10, 12, 4, 0, 0};
        for (int what = 0; what < 10; what++) {
            Calls.due("door " + what, x.door(0, what), want[what]);
        }
        Calls.due("home", x.singer(0, 2), -1);
        Calls.due("solos", x.singer(0, 3), 0);
    }

    private static void villageSingers() {
        Says.says("(SINGERS likewise, 8: V verses are in that one, 0 to 99; part S, 0 to 3)");
        x = new CarolDoors();
        number("singer ", 0, 99, " 0;");
        number("singer 0 ", 0, 3, ";");
        village(SINGER.repeat(7) + "singer 99 3;", 0, -1);
        Calls.due("eight", x.told(1), 8);
        village("singer 1 3;singer 2 2;singer 3 1;singer 4 0;singer 5 3;singer 6 2;singer 7 1;singer 8 0;"
                + "solo 0 9;solo 1 8;solo 6 3;solo 7 2;home 0 11;home 1 12;home 6 17;home 7 18;", 0, -1);
        int[][] want = {{1, 3, 11, 9}, {2, 2, 12, 8}, {3, 1, -1, 0}, {4, 0, -1, 0}, {5, 3, -1, 0}, {6, 2, -1, 0},
            {7, 1, 17, 3}, {8, 0, 18, 2}};
        for (int i = 0; i < 8; i++) {
            for (int what = 0; what < 4; what++) {
                Calls.due("singer " + i + " " + what, x.singer(i, what), want[i][what]);
            }
        }
        village("singer 1 1;".repeat(7) + "singer 99 3;", 0, -1);
        Calls.due("the eighth", x.singer(7, 0) * 10 + x.singer(7, 1), 993);
        village(SINGER.repeat(8) + " singer 100", -7, 89);
        Says.says("(SINGER I goes home in MINUTE T, 0 to 480)");
        number(SINGER + "home 0 ", 0, 480, ";");
        Calls.due("home at once is no none", Calls.village(x, SINGER + "home 0 0;") + x.singer(0, 2), 0);
        Says.says("(N solos are in that one, 0 to 9)");
        number(SINGER + "solo 0 ", 0, 9, ";");
    }

    private static void villageRest() {
        Says.says("\"start\" X (0 to 99; 0 without)");
        x = new CarolDoors();
        number("start ", 0, 99, ";");
        village("start 99;", 0, -1);
        Calls.due("start", x.told(4), 99);
        Says.says("\"verse\" M (minutes, 1 to 9; 2 without)");
        number("verse ", 1, 9, ";");
        village("verse 9;", 0, -1);
        Calls.due("verse", x.told(5), 9);
        Calls.due("no start", x.told(4), 0);
        Says.says("\"until\" T (0 to 480; 120 without)");
        number("until ", 0, 480, ";");
        village("until 480;", 0, -1);
        Calls.due("until", x.told(6), 480);
        Calls.due("no verse", x.told(5), 2);
        village("until 0;", 0, -1);
        Calls.due("until", x.told(6), 0);
        village("", 0, -1);
        Calls.due("no until", x.told(6), 120);
    }

    private static void lastCounts() {
        Says.says("of the same the last counts");
        x = new CarolDoors();
        village(DOOR + DOOR + "in 0 1;in 1 9;in 0 2;hears 0 3;hears 0 4;rings 0 5;rings 0 6;light 0 1 2;light 0 7 8;", 2, -1);
        int[] want = {2, 4, 6, 7, 8};
        for (int what = 3; what < 8; what++) {
            Calls.due("door 0 " + what, x.door(0, what), want[what - 3]);
        }
        Calls.due("another door's stays", x.door(1, 3), 9);
        village(DOOR + "drive 0 9;drive 0 0;pies 0 9;pies 0 1;" + SINGER + "home 0 9;home 0 480;solo 0 9;solo 0 0;", 1, -1);
        Calls.due("drive", x.door(0, 8), 0);
        Calls.due("pies", x.door(0, 9), 1);
        Calls.due("home", x.singer(0, 2), 480);
        Calls.due("solo", x.singer(0, 3), 0);
        village("start 9;verse 9;until 9;until 8;verse 7;start 6;", 0, -1);
        Calls.due("start, verse, until", x.told(4) * 100 + x.told(5) * 10 + x.told(6), 678);
    }

    private static void numbersAndWords() {
        Says.says("Numbers: digits, as many as stand there");
        x = new CarolDoors();
        village("door 0000000000000000000000000099 00 0000;", 1, -1);
        Calls.due("X", x.door(0, 0), 99);
        village("door 12 3 4;", 1, -1);
        village("door 123 4;", -8, 5);
        village("door 1 2 3 4;", -9, 11);
        village("start 9:;", -9, 7);
        village("start /;", -9, 6);
        village("start :;", -9, 6);
        village("start 9/;", -9, 7);
        Says.says("WORDS: small letters, as many as stand there");
        village("starts 9;", -9, 0);
        village("star 9;", -9, 0);
        for (String none : new String[] {"startz 9;", "starta 9;", "zstart 9;", "astart 9;", "z 9;", "a 9;"}) {
            village(none, -9, 0);
        }
        village("start9;", 0, -1);
        Calls.due("start", x.told(4), 9);
        village("start{9;", -9, 5);
        village("start`9;", -9, 5);
        village("{start 9;", -9, 0);
        village("`start 9;", -9, 0);
        village("Start 9;", -9, 0);
        village("stArt 9;", -9, 0);
        village("in door 0 0 0;", -9, 3);
    }

    private static void blanks() {
        Says.says("blanks (32) may stand ahead of all these, and at the end");
        x = new CarolDoors();
        village("   door   1   2   3   ;   in   0   5   ;   ", 1, -1);
        village("door1 2 3;in0 5;start7;", 1, -1);
        village("     ", 0, -1);
        for (char none : new char[] {0, 9, 10, 13, 31, 33, 127, 160, 255}) {
            village("door 1 2 3;" + none, -9, 11);
            village(none + "door 1 2 3;", -9, 0);
            village("door" + none + "1 2 3;", -9, 4);
        }
        village("do or 1 2 3;", -9, 0);
        village(DOOR, 1, -1);
        law("   1   +   (   pence   )   *   least   [   1   ,   2   ]   ", 1, -1);
        law("1 2", -9, 2);
        plan("   0   1   first   ;   ", 1, -1);
        plan("0 1first;", 1, -1);
        plan("00;", -9, 2);
        plan("01;", -8, 0);
        plan("  ", 0, -1);
        book("   0   =   5   ;   ", 1, -1);
        book("   =   5;", 1, -1);
        book("   ", 0, -1);
    }

    // ---- laws ----

    private static void laws() {
        Says.says("A LAW is a text of up to 150 bytes: E, at the end nothing more.");
        x = Calls.of("door 0 10 5;");
        String text = " ".repeat(149) + "7";
        law(text, 1, -1);
        Calls.due("the 150th byte", x.gives(0, 0, 0), 7);
        Calls.feed(x, text + "7");
        Calls.refused("law(0, 151)", 'A', () -> x.law(0, 151));
        Calls.due("150 of them are the law", x.law(0, 150), 1);
        law("", -9, 0);
        law("   ", -9, 3);
        law("7 ", 1, -1);
        law("7;", -9, 1);
        law("7 7", -9, 2);
        law("7)", -9, 1);
        law("7]", -9, 1);
        law("7,7", -9, 1);
        law("7 pence", -9, 2);
        law("7(7)", -9, 1);
        Calls.due("the law stays", x.gives(0, 0, 0), 7);
        Says.says("U: N (0 to 999)");
        law("0", 1, -1);
        law("000999", 1, -1);
        law("1000", -8, 0);
        law("1+1000", -8, 2);
        law("4294967296", -8, 0);
        law("pence*1000", -8, 6);
        law("least[1000,1]", -8, 6);
    }

    private static void lawFaults() {
        Says.says("a 7th of ( least most if that is open at one time");
        law("((((((1))))))", 1, -1);
        law("(((((((1)))))))", -7, 6);
        law("(((((((", -7, 6);
        law("((((((", -9, 6);
        for (String word : new String[] {"least", "most", "if"}) {
            String three = word.equals("if") ? ",1" : "";
            String open = (word + "[").repeat(6);
            law(open + "1" + (",1" + three + "]").repeat(6), 1, -1);
            law("(((((" + word + "[1,1" + three + "])))))", 1, -1);
            law("((((((" + word + "[1,1" + three + "]))))))", -7, 6);
            law(open + "(", -7, open.length());
            // the sixth is closed again when the next one opens
            String closed = open + "1,1" + three + "],(1)" + (word.equals("if") ? ",(1)" : "");
            law(closed + ("]" + ",1" + three).repeat(4) + "]", 1, -1);
            law(closed + "]", -9, closed.length() + 1);
            law(word + "[1,((((((1))))))" + three + "]", -7, word.length() + 8);
            law("((((((" + word, -7, 6);
            law("(((((( " + word + " (", -7, 7);
        }
        law("((((((1))))))*((((((2))))))-((((((3))))))", 1, -1);
        law("if[((((( 1 ))))),(((((2))))),(((((3)))))]", 1, -1);
        Says.says("\"least\" \"[\" E \",\" E \"]\"");
        law("least[1]", -9, 7);
        law("least[1,2,3]", -9, 9);
        law("least[,2]", -9, 6);
        law("least 1,2]", -9, 6);
        law("least", -9, 5);
        law("least[1,2", -9, 9);
        law("least[1,2)", -9, 9);
        Says.says("\"if\" \"[\" E \",\" E \",\" E \"]\"");
        law("if[1,2]", -9, 6);
        law("if[1,2,3,4]", -9, 8);
        law("if[1,2,3", -9, 8);
        Says.says("\"(\" E \")\"");
        law("()", -9, 1);
        law("(1", -9, 2);
        law("(1]", -9, 2);
    }

    private static void value(String law, int want) {
        Calls.due("law '" + law + "'", Calls.law(x, 0, law), 1);
        Calls.due("value of '" + law + "'", x.gives(1, 4, 6), want);
    }

    /** What the limits of GIVE would hide is seen by an if. */
    private static void whole(String law, String same) {
        value("if[" + law + "-(" + same + "),1,if[" + same + "-(" + law + "),2,3]]", 3);
    }

    private static void values() {
        x = Calls.of(DOOR + "door 7 20 30;drive 1 9;pies 1 11;singer 1 1;singer 1 2;home 0 0;");
        Says.says("E: T { + or - T }. T: U { * or / U }.");
        value("100-20-3", 77);
        value("100-(20-3)", 83);
        value("2+3*4", 14);
        value("20-12/4", 17);
        value("100/7/2", 7);
        value("100/7*7", 98);
        value("7*100/3", 233);
        value("1-2+3", 2);
        Says.says("Values are whole numbers of 32 bits that wrap");
        value("if[999*999*999*2,5,6]", 5);
        value("if[999*999*999*3,5,6]", 6);
        value("if[500*500*500*16+500*500*500,5,6]", 5);
        value("if[256*256*256*128,5,6]", 6);
        value("if[256*256*256*128-1,5,6]", 5);
        value("if[0-256*256*256*128,5,6]", 6);
        value("256*256*256*256+8", 8);
        value("if[256*256*256*128/(0-1),5,6]", 6);
        Says.says("/ cuts, by 0 it is 0");
        value("7/2", 3);
        value("10+(0-7)/2", 7);
        value("10+7/(0-2)", 7);
        value("10+(0-7)/(0-2)", 13);
        value("7/0", 0);
        value("5+0/0", 5);
        value("5+7/(1-1)*9", 5);
        value("1/2*2", 0);
        Says.says("(the second, if the first is above 0, else the third)");
        value("if[1,5,6]", 5);
        value("if[0,5,6]", 6);
        value("if[0-1,5,6]", 6);
        value("if[0,0-1,6]", 6);
        whole("least[0-5,3]", "0-5");
        whole("most[0-5,0-7]", "0-5");
        value("least[3,3]", 3);
        value("least[7,3]*100+least[3,7]*10+most[7,3]", 337);
        value("most[3,7]", 7);
    }

    private static void names() {
        Says.says("\"verses\" (sung at this DOOR by now), \"pence\" (P), \"joy\" (J), \"place\" (how many lines of the PLAN");
        value("verses", 4);
        value("pence", 20);
        value("joy", 30);
        value("place", 6);
        Says.says("\"singers\" (how many there are)");
        value("singers", 2);
        value("drive", 9);
        value("pies", 11);
        Says.says("\"box\" (pence by now; both 0 for GIVE), \"told\" (verses the PLAN says; 0 for GIVE)");
        value("500+minute+box+told", 500);
        for (String none : new String[] {"verse", "versess", "door", "penny", "first", "until", "a", "z"}) {
            law(none, -9, 0);
            law("1+" + none, -9, 2);
        }
        law("verses pence", -9, 7);
        law("pencez", -9, 0);
        law("pencea", -9, 0);
        law("zpence", -9, 0);
        law("pence{", -9, 5);
        law("pence`", -9, 5);
    }

    private static void give() {
        Says.says("GIVE (without: pence): what is given, if they come, 0 at least, 999 at most.");
        x = Calls.of("door 0 240 9;door 7 20 30;");
        for (int verses = 0; verses < 61; verses += 20) {
            Calls.due("pence without", x.gives(0, verses, 9), 240);
        }
        value("0", 0);
        value("0-1", 0);
        value("0-999", 0);
        value("998+1", 999);
        value("999+1", 999);
        value("999*999", 999);
        value("256*256*256*127", 999);
        value("256*256*256*128", 0);
        value("0-1-256*256*256*127", 0);
        Calls.law(x, 0, "place-verses");
        Calls.due("never below 0", x.gives(0, 5, 4), 0);
        Calls.due("never below 0", x.gives(0, 3, 4), 1);
    }

    // ---- plans and books ----

    private static void plans() {
        Says.says("A PLAN is one of up to 150 bytes");
        x = Calls.of(DOOR.repeat(10));
        plan(" ".repeat(146) + "9 5;", 1, -1);
        Calls.feed(x, " ".repeat(147) + "9 5;");
        Calls.refused("plan(151)", 'A', () -> x.plan(151));
        Calls.due("the first 150 bytes end too early", x.plan(150), -9);
        Calls.due("at the length", x.fault(), 150);
        Says.says("10 lines at most, no D twice");
        plan("0 0;1 0;2 0;3 0;4 0;5 0;6 0;7 0;8 0;9 5last;", 10, -1);
        Calls.due("the tenth", x.line(9, 1) * 10 + x.line(9, 2), 52);
        // an 11th line is one too many, but its D is none such, or stands there twice: of one the least
        Says.says("of one the least");
        plan("0 0;1 0;2 0;3 0;4 0;5 0;6 0;7 0;8 0;9 0;10 0;", -8, 40);
        plan("0 0;1 0;2 0;3 0;4 0;5 0;6 0;7 0;8 0;9 0;9 0;", -8, 40);
        plan("0 0;1 0;00 0;", -8, 8);
        plan("9 0;9 6;", -8, 4);
        plan("9 6;9 0;", -8, 2);
        Calls.due("the plan stays", x.told(2), 10);
        Says.says("at DOOR D N verses (0 to 5), no ring, or one ahead of them or behind");
        plan("0 0;1 5;2 5 first;3 0 last;", 4, -1);
        int[][] want = {{0, 0, 0}, {1, 5, 0}, {2, 5, 1}, {3, 0, 2}};
        for (int i = 0; i < 4; i++) {
            for (int what = 0; what < 3; what++) {
                Calls.due("line " + i + " " + what, x.line(i, what), want[i][what]);
            }
        }
        plan("0 6;", -8, 2);
        plan("10 0;", -8, 0);
        plan("0 0 firs;", -9, 4);
        plan("0 0 lasts;", -9, 4);
        plan("0 0 first last;", -9, 10);
        plan("0 first;", -9, 2);
        plan("0 0,", -9, 3);
        plan(";", -9, 0);
        plan("0 0;;", -9, 4);
        x = Calls.of("");
        plan("0 0;", -8, 0);
    }

    private static void books() {
        Says.says("A BOOK is one of up to 200 bytes");
        x = Calls.of("door 0 7 0;".repeat(10));
        book(" ".repeat(196) + "9=7;", 1, -1);
        Calls.feed(x, " ".repeat(197) + "9=7;");
        Calls.refused("book(201)", 'A', () -> x.book(201));
        Calls.due("the first 200 bytes end too early", x.book(200), -9);
        Calls.due("at the length", x.fault(), 200);
        Says.says("8 lines at most: in a year these DOORS (10 at most, no D twice) gave N pence together (0 to 9,999)");
        book("0=7;".repeat(7) + "=0;", 8, -1);
        Calls.due("all eight are right", x.right(1), 8);
        Says.says("of a BOOK at its first D or =) too many");
        book("0=7;".repeat(8) + "0=7;", -7, 32);
        book("0=7;".repeat(8) + " =0;", -7, 33);
        book("0=7;".repeat(8) + " 3 3=0;", -7, 33);
        book("0=7;".repeat(8) + " 10=0;", -8, 33);
        book("0=7;".repeat(8) + " ;", -9, 33);
        Says.says("(10 at most, no D twice) gave N pence together (0 to 9,999)");
        book("0 1 2 3 4 5 6 7 8 9=70;", 1, -1);
        Calls.due("all ten", x.right(1023), 1);
        Calls.due("nine of ten", x.right(1022), 0);
        book("9 8 7 6 5 4 3 2 1 0 5=70;", -8, 20);
        book("9 8 7 6 5 4 3 2 1 0 10=70;", -8, 20);
        book("3 03=7;", -8, 2);
        book("10=7;", -8, 0);
        book("0=9999;1=0;", 2, -1);
        book("0=10000;", -8, 2);
        book("0=;", -9, 2);
        book("0 =7", -9, 4);
        book("0,1=7;", -9, 1);
        book("x=7;", -9, 0);
        book("=7;;", -9, 3);
        x = Calls.of("");
        book("=7;", 1, -1);
        book("0=7;", -8, 0);
    }

    private static void faults() {
        Says.says("FAULTS, the first from the left, at its first byte");
        x = new CarolDoors();
        village("door 100 300 100;x", -8, 5);
        village("door 1 300 100;x", -8, 7);
        village("door 1 2 3;in 1 17;", -8, 14);
        village("door 1 2 3;in 0 17;in 9 9;", -8, 16);
        village("  x door 100 1 1;", -9, 2);
        Says.says("1 what can't stand there (at the length, if the text ends too early)");
        village("d", -9, 0);
        village("door", -9, 4);
        village("door ", -9, 5);
        village("door 1", -9, 6);
        village("door 1 2", -9, 8);
        village("door 1 2 3", -9, 10);
        village("door 1 2 3   ", -9, 13);
        village("door ;", -9, 5);
        village("door 1 2 3 in", -9, 11);
        village("" + (char) 0, -9, 0);
        village(DOOR + (char) 255, -9, 11);
        Calls.due("a plan", Calls.plan(x, "0"), -8);
        Says.says("2 a number that is none such (also a D twice)");
        village(DOOR + "in 1 x;", -8, 14);
        Says.says("(at its word)");
        village(SINGER.repeat(8) + "   singer   ", -7, 91);
        village(DOOR.repeat(10) + "   door 1 1 1;", -7, 113);
        Says.says("of one the least");
        village("verse 3;".repeat(60) + "  doors", -9, 482);
    }

    // ---- promises 1 to 7 ----

    private static void promises() {
        Says.says(1, "A VILLAGE without CLAUSES.");
        x = new CarolDoors();
        int[] told = {0, 0, 0, 0, 0, 2, 120};
        for (int what = 0; what < 7; what++) {
            Calls.due("told " + what, x.told(what), told[what]);
        }
        Says.says(2, "of each number the highest first");
        Calls.due("feed", x.feed(0x64, 0x6f6f7220, 0x39203820, 0x373b0000, 0), 20);
        Calls.due("a leading byte 0", x.village(12), -9);
        Calls.due("feed", x.feed(0x646f6f72, 0x20392038, 0x20373b00, 0, 0), 20);
        Calls.due("village", x.village(11), 1);
        Calls.due("door", x.door(0, 0) * 100 + x.door(0, 1) * 10 + x.door(0, 2), 987);
        Says.says(2, "NONE, doing nothing, if there would be more than 600");
        for (int i = 1; i <= 30; i++) {
            Calls.due("feed", x.feed(0x20202020, 0x20202020, 0x20202020, 0x20202020, 0x20202020), 20 * i);
        }
        Calls.due("the 31st feed", x.feed(0x78787878, 0x78787878, 0x78787878, 0x78787878, 0x78787878), -1);
        Calls.due("nothing came", x.count(1), 600);
        Says.says(3, "n is not 0 to the TAPE's bytes (it stays)");
        Calls.refused("village(601)", 'A', () -> x.village(601));
        Calls.refused("village(-1)", 'A', () -> x.village(-1));
        Calls.refused("village(MIN)", 'A', () -> x.village(Integer.MIN_VALUE));
        Calls.refused("village(MAX)", 'A', () -> x.village(Integer.MAX_VALUE));
        Calls.due("it stays", x.count(1), 600);
        Calls.due("the door stays", x.told(0), 1);
        Calls.due("600 blanks", x.village(600), 0);
        Says.says(3, "The first n bytes of the TAPE (empty then)");
        Calls.due("empty", x.count(1), 0);
        Calls.refused("village(1) of an empty tape", 'A', () -> x.village(1));
        Calls.due("village(0)", x.village(0), 0);
        Calls.feed(x, "start 5;start x");
        Calls.due("the first 8 of 20", x.village(8), 0);
        Calls.due("start", x.told(4), 5);
        Calls.due("the rest is gone", x.count(1), 0);
        forgets();
        likewise();
    }

    private static void forgets() {
        Says.says(3, "(no LAWS, PLAN, BOOK, IMAGES, nothing to undo)");
        x = Calls.of("door 1 50 1;in 0 16;rings 0 16;");
        keepAll();
        Calls.due("village", Calls.village(x, "door 1 50 1;in 0 16;rings 0 16;"), 1);
        Calls.due("no law", x.gives(0, 0, 0), 50);
        Calls.due("no plan", x.told(2), 0);
        Calls.due("no book", x.told(3), 0);
        Calls.due("no images", x.count(0), 0);
        Calls.due("nothing to undo", x.undo(), -1);
        Calls.due("until", x.told(6), 120);
        Calls.plan(x, "0 2;");
        x.change(0, 4, 0);
        Calls.due("no law for verses", x.evening(1, 4), 2);
        Says.says(3, "or the FAULT less 10 (all but the TAPE stays)");
        x = Calls.of("door 1 50 1;singer 7 2;start 3;verse 4;");
        keepAll();
        String[] faulty = {"door 2 2 2;singer 1 1;start 9;verse 9;until 9;x", "door 100 0 0;", DOOR.repeat(11)};
        for (int i = 0; i < 3; i++) {
            Calls.due("a faulty village", Calls.village(x, faulty[i]), i - 9);
            int[] told = {1, 1, 1, 1, 3, 4, 77};
            for (int what = 0; what < 7; what++) {
                Calls.due("told " + what, x.told(what), told[what]);
            }
            Calls.due("the door", x.door(0, 1), 50);
            Calls.due("the singer", x.singer(0, 0), 7);
            Calls.due("the law", x.gives(0, 0, 0), 3);
            Calls.due("the image", x.count(0), 1);
            Calls.due("the change", x.count(2), 1);
            Calls.due("the tape", x.count(1), 0);
        }
        Calls.due("undo", x.undo(), 0);
        Calls.due("until", x.told(6), 120);
    }

    /** Laws, a plan, a book, an image, a change that can be undone. */
    private static void keepAll() {
        Calls.law(x, 0, "3");
        Calls.law(x, 1, "1");
        Calls.plan(x, "0 1;");
        Calls.book(x, "0=1;");
        x.until(77);
        x.image();
    }

    private static void likewise() {
        Says.says(4, "Likewise a LAW (0 GIVE, 1 ON; n to 150): 1.");
        x = Calls.of("door 1 50 1;in 0 16;hears 0 0;");
        Calls.plan(x, "0 2;");
        Calls.due("ON", Calls.law(x, 1, "4-verses"), 1);
        Calls.due("is no GIVE", x.gives(0, 0, 0), 50);
        Calls.due("four verses", x.evening(1, 4), 4);
        Calls.due("GIVE", Calls.law(x, 0, "9"), 1);
        Calls.due("is GIVE", x.gives(0, 0, 0), 9);
        Calls.due("four verses still", x.evening(1, 4), 4);
        Calls.due("a faulty law", Calls.law(x, 0, "8+"), -9);
        Calls.due("a faulty law", Calls.law(x, 1, "1+1000"), -8);
        Calls.due("the tape", x.count(1), 0);
        Calls.due("GIVE stays", x.gives(0, 0, 0), 9);
        Calls.due("ON stays", x.evening(1, 4), 4);
        Says.says(4, "IllegalArgumentException also: another which.");
        Calls.feed(x, "1");
        for (int which : new int[] {-1, 2, Integer.MIN_VALUE, Integer.MAX_VALUE}) {
            Calls.refused("law of " + which, 'A', () -> x.law(which, 1));
        }
        Calls.refused("law(0, 21)", 'A', () -> x.law(0, 21));
        Calls.refused("law(1, -1)", 'A', () -> x.law(1, -1));
        Calls.refused("plan(21)", 'A', () -> x.plan(21));
        Calls.refused("plan(-1)", 'A', () -> x.plan(-1));
        Calls.refused("book(21)", 'A', () -> x.book(21));
        Calls.refused("book(-1)", 'A', () -> x.book(-1));
        Calls.due("the tape stays", x.count(1), 20);
        Calls.due("no law takes it", x.law(1, 0), -9);
        Says.says(5, "Likewise the PLAN (n to 150): how many lines.");
        Calls.due("a faulty plan", Calls.plan(x, "0 1;x"), -9);
        Calls.due("the tape", x.count(1), 0);
        Calls.due("the plan stays", x.line(0, 1), 2);
        Calls.due("an empty plan", x.plan(0), 0);
        Calls.due("no lines", x.told(2), 0);
        Says.says(6, "Likewise the BOOK (n to 200): how many lines.");
        Calls.due("a book", Calls.book(x, "0=50;=0;"), 2);
        Calls.due("a faulty book", Calls.book(x, "0=5;0"), -9);
        Calls.due("the tape", x.count(1), 0);
        Calls.due("the book stays", x.right(1), 2);
        Calls.due("an empty book", x.book(0), 0);
        Calls.due("no lines", x.told(3), 0);
        Says.says(7, "The place of the FAULT of the latest text; NONE without.");
        Calls.due("a new object's", new CarolDoors().fault(), -1);
        Calls.plan(x, "0 1;0 x");
        Calls.due("fault", x.fault(), 4);
        Calls.refused("plan(1)", 'A', () -> x.plan(1));
        x.feed(0, 0, 0, 0, 0);
        x.image();
        x.restore();
        Calls.due("the latest text's still", x.fault(), 4);
        x.book(0);
        Calls.due("fault", x.fault(), -1);
    }

    private static void calls512() {
        Says.says("An object is used for at most 512 calls after it has been made");
        x = new CarolDoors();
        Calls.feed(x, "door 9 9 9;in 0 16;");
        x.village(19);
        for (int i = 2; i < 511; i++) {
            Calls.refused("call " + i, 'A', () -> x.told(7));
        }
        Calls.due("the 512th call", x.status(1), 509);
    }
}
