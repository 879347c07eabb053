/** Promises 3 to 7: texts, their faults and where they are. */
public final class FaultsTest {
    private static CarolDoors x;

    private static void village(String text, int want, int fault) {
        Calls.due("village '" + text + "'", Calls.village(x, text), want);
        Calls.due("fault of village '" + text + "'", x.fault(), fault);
        Calls.due("tape behind village '" + text + "'", x.count(1), 0);
    }

    private static void law(String text, int want, int fault) {
        for (int which = 0; which < 2; which++) {
            Calls.due("law '" + text + "'", Calls.law(x, which, text), want);
            Calls.due("fault of law '" + text + "'", x.fault(), fault);
        }
    }

    private static void plan(String text, int want, int fault) {
        Calls.due("plan '" + text + "'", Calls.plan(x, text), want);
        Calls.due("fault of plan '" + text + "'", x.fault(), fault);
    }

    private static void book(String text, int want, int fault) {
        Calls.due("book '" + text + "'", Calls.book(x, text), want);
        Calls.due("fault of book '" + text + "'", x.fault(), fault);
    }

    private static String times(String text, int n) {
        return text.repeat(n);
    }

    public static void main(String[] args) {
        villages();
        moreVillages();
        laws();
        plans();
        books();
        lengths();
        Calls.end();
    }

    private static void villages() {
        x = new CarolDoors();
        village("", 0, -1);
        village("   ", 0, -1);
        village("door0 0 0;", 1, -1);
        village("  door  99  240 99 ; in 0 16 ;hears 0 0;rings 0 16;  ", 1, -1);
        village("door 099 0000240 0;", 1, -1);
        village("door 100 0 0;", -8, 5);
        village("door 0 241 0;", -8, 7);
        village("door 0 0 100;", -8, 9);
        village("door 99999999999999999999 0 0;", -8, 5);
        village("door 4294967296 0 0;", -8, 5);
        village("door 0 0;", -9, 8);
        village("door 0 0 0 0;", -9, 11);
        village("door 0 0 0", -9, 10);
        village("door 0 0 0  ", -9, 12);
        village("door 0 0 0in 0 5;", -9, 10);
        village("Door 0 0 0;", -9, 0);
        village("  doors 0 0 0;", -9, 2);
        village("doo 0 0 0;", -9, 0);
        village(";", -9, 0);
        village("door 0 0 0;;", -9, 11);
        village("door\t0 0 0;", -9, 4);
        village("door -1 0 0;", -9, 5);
        village("\0", -9, 0);
        village("\u00ff", -9, 0);
        village("door 0 0 0;\u00a0", -9, 11);
        village("verse 0;", -8, 6);
        village("verse 1;verse 9;", 0, -1);
        village("verse 10;", -8, 6);
        village("start 99;", 0, -1);
        village("start 100;", -8, 6);
        village("until 0;until 480;", 0, -1);
        village("until 481;", -8, 6);
        village("until;", -9, 5);
        village("until", -9, 5);
        village("5;", -9, 0);
    }

    private static void moreVillages() {
        String door = "door 0 0 0;";
        village("in 0 5;", -8, 3);
        village("in 0 5;" + door, -8, 3);
        village(door + "in 1 5;", -8, 14);
        village(door + "in 0 17;", -8, 16);
        village(door + "hears 0 17;", -8, 19);
        village(door + "rings 0 17;", -8, 19);
        village(door + "light 0 17 0;", -8, 19);
        village(door + "light 1 0 0;", -8, 17);
        village(door + "drive 1 0;", -8, 17);
        village(door + "light 0 16 17;", -8, 22);
        village(door + "light 0 16;", -9, 21);
        village(door + "drive 0 21;", -8, 19);
        village(door + "pies 0 31;", -8, 18);
        village(door + "drive 0 20;pies 0 30;light 0 16 16;", 1, -1);
        village("singer 100 0;", -8, 7);
        village("singer 99 4;", -8, 10);
        village("singer 99 3;home 0 480;solo 0 9;", 0, -1);
        village("home 0 5;", -8, 5);
        village("singer 1 1;home 1 5;", -8, 16);
        village("singer 1 1;home 0 481;", -8, 18);
        village("singer 1 1;solo 0 10;", -8, 18);
        village(times(door, 10), 10, -1);
        village(times(door, 10) + " door 0 0 0;", -7, 111);
        village(times(door, 10) + "door", -7, 110);
        village(times(door, 10) + "in 10 5;", -8, 113);
        village(times("singer 1 1;", 8), 0, -1);
        village(times("singer 1 1;", 8) + "singer x", -7, 88);
        village(times("verse 1;", 60), 0, -1);
        village(times("verse 1;", 60) + "  ", 0, -1);
        village(times("verse 1;", 60) + " verse 0", -7, 481);
        village(times("verse 1;", 60) + " vers 0", -9, 481);
        village(times("verse 1;", 60) + " ;", -9, 481);
    }

    private static void laws() {
        x = Calls.of("door 0 10 5;");
        law("", -9, 0);
        law("  ", -9, 2);
        law("0", 1, -1);
        law("999", 1, -1);
        law("1000", -8, 0);
        law("1+1000", -8, 2);
        law("-1", -9, 0);
        law("1+", -9, 2);
        law("1 +  ", -9, 5);
        law("1 1", -9, 2);
        law("1 1000", -9, 2);
        law("pence5", -9, 5);
        law("5pence", -9, 1);
        law("pences", -9, 0);
        law("pencez", -9, 0);
        law("pencea", -9, 0);
        law("pence{", -9, 5);
        law("pence`", -9, 5);
        law("1:", -9, 1);
        law("1/", -9, 2);
        law("verses+pence+joy+place+singers+drive+pies+minute+box+told", 1, -1);
        law(" 1 + ( 2 * 3 ) / least [ 1 , 2 ] - most [ 3 , 4 ] * if [ 1 , 2 , 3 ] ", 1, -1);
        law("least[1,2,3]", -9, 9);
        law("least[1]", -9, 7);
        law("if[1,2]", -9, 6);
        law("if[1,2,3,4]", -9, 8);
        law("least(1,2)", -9, 5);
        law("least", -9, 5);
        law("(1", -9, 2);
        law("(1]", -9, 2);
        law("()", -9, 1);
        law("1)", -9, 1);
        law("1;", -9, 1);
        law("1=1", -9, 1);
        law("((((((1))))))", 1, -1);
        law("(((((( ( 1", -7, 7);
        law("((((((least", -7, 6);
        law("((((((lea", -9, 6);
        law("((((((1))))))+((((((1))))))", 1, -1);
        law("(least[most[if[least[(1),1],1,1],1],1])", 1, -1);
        law("(least[most[if[least[((1)),1],1,1],1],1])", -7, 22);
        law("(least[most[if[least[(most[1,1]),1],1,1],1],1])", -7, 22);
        law(times("1+", 74) + "1 ", 1, -1);
    }

    private static void plans() {
        x = Calls.of(times("door 0 10 5;", 10));
        plan("", 0, -1);
        plan(" ", 0, -1);
        plan("0 0;9 5;", 2, -1);
        plan(" 3 4first ; 1 2 last;", 2, -1);
        plan("10 0;", -8, 0);
        plan("0 6;", -8, 2);
        plan("0 0;0 6;", -8, 4);
        plan("0 0 firsts;", -9, 4);
        plan("0 0 first last;", -9, 10);
        plan("0 0 first", -9, 9);
        plan("0;", -9, 1);
        plan("first", -9, 0);
        plan(";", -9, 0);
        StringBuilder ten = new StringBuilder();
        for (int i = 0; i < 10; i++) {
            ten.append(i).append(" 1;");
        }
        plan(ten + " ", 10, -1);
        plan(ten + " 3 1;", -8, 41);
        plan(ten + " 10 1;", -8, 41);
        plan(ten + " x", -9, 41);
    }

    private static void books() {
        book("", 0, -1);
        book("=0;", 1, -1);
        book("0 1 2 3 4 5 6 7 8 9 = 9999;", 1, -1);
        book("0 1 2 3 4 5 6 7 8 9 9=9999;", -8, 20);
        book("0 1 0=5;", -8, 4);
        book("0=1;0=1;", 2, -1);
        book("10=5;", -8, 0);
        book("0=10000;", -8, 2);
        book("0 5;", -9, 3);
        book("0=;", -9, 2);
        book("0=5", -9, 3);
        book("x", -9, 0);
        book(times("0=1;", 8) + " ", 8, -1);
        book(times("0=1;", 8) + " 3 x", -7, 33);
        book(times("0=1;", 8) + " 10 x", -8, 33);
        book(times("0=1;", 8) + " =", -7, 33);
        book(times("0=1;", 8) + " ;", -9, 33);
    }

    /** Only the first bytes are the text; too many or too few are refused, and the tape stays. */
    private static void lengths() {
        x = new CarolDoors();
        Calls.feed(x, "door 0 0 0;door 0 0 0;");
        Calls.due("bytes", x.count(1), 40);
        Calls.refused("village(41)", 'A', () -> x.village(41));
        Calls.refused("village(-1)", 'A', () -> x.village(-1));
        Calls.refused("law(0, 41)", 'A', () -> x.law(0, 41));
        Calls.refused("law(2, 1)", 'A', () -> x.law(2, 1));
        Calls.refused("law(-1, 1)", 'A', () -> x.law(-1, 1));
        Calls.refused("plan(41)", 'A', () -> x.plan(41));
        Calls.refused("book(-1)", 'A', () -> x.book(-1));
        Calls.due("bytes that stayed", x.count(1), 40);
        Calls.due("the first clause alone", x.village(11), 1);
        Calls.due("bytes behind it", x.count(1), 0);
        for (int i = 0; i < 30; i++) {
            Calls.due("feed", x.feed(538976288, 538976288, 538976288, 538976288, 538976288), 20 * i + 20);
        }
        Calls.due("one feed too many", x.feed(0, 0, 0, 0, 0), -1);
        Calls.due("a full tape", x.count(1), 600);
        Calls.refused("law(0, 151)", 'A', () -> x.law(0, 151));
        Calls.refused("plan(151)", 'A', () -> x.plan(151));
        Calls.refused("book(201)", 'A', () -> x.book(201));
        Calls.refused("village(601)", 'A', () -> x.village(601));
        Calls.due("a law of 150 blanks", x.law(1, 150), -9);
        Calls.due("its fault", x.fault(), 150);
        for (int i = 0; i < 30; i++) {
            x.feed(538976288, 538976288, 538976288, 538976288, 538976288);
        }
        Calls.due("a village of 600 blanks", x.village(600), 0);
        Calls.due("no fault", x.fault(), -1);
    }
}
