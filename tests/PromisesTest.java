/** Each promise once or more by answers that were worked out by hand: ordinary, at the edges, refused. */
public final class PromisesTest {
    private static final String VILLAGE = "door 10 16 8;door 4 100 0;door 10 30 16;in 0 16;hears 0 8;in 1 8;"
            + "hears 1 16;rings 1 8;in 2 0;light 1 12 4;pies 1 6;drive 2 5;start 6;verse 3;until 40;"
            + "singer 10 0;singer 5 0;singer 7 2;home 1 30;home 0 50;solo 2 2;";
    private static CarolDoors x;

    public static void main(String[] args) {
        newObject();
        feedAndTexts();
        villageForgets();
        told();
        lawValues();
        means();
        planSums();
        best();
        lights();
        rings();
        voices();
        solos();
        party();
        gave();
        evenings();
        draws();
        laws();
        spans();
        changes();
        changeBounds();
        undo();
        images();
        refusals();
        Calls.end();
    }

    private static void due(String what, long got, long want) {
        Calls.due(what, got, want);
    }

    private static void newObject() {
        x = new CarolDoors();
        due("NONE", CarolDoors.NONE, -1);
        int[] told = {0, 0, 0, 0, 0, 2, 120};
        for (int what = 0; what < 7; what++) {
            due("new told " + what, x.told(what), told[what]);
        }
        due("new fault", x.fault(), -1);
        for (int what = 0; what < 3; what++) {
            due("new count " + what, x.count(what), 0);
            due("new status " + what, x.status(what), 0);
        }
        due("new restore", x.restore(), -1);
        due("new undo", x.undo(), -1);
        due("new party", x.party(1), -1);
        due("new gave", x.gave(0), 1);
        due("new longest", x.longest(), 0);
    }

    private static void feedAndTexts() {
        x = new CarolDoors();
        // "door 1 2 3;" with the highest byte of each number first
        due("feed", x.feed(0x646f6f72, 0x20312032, 0x20333b20, 0x20202020, 0x20202020), 20);
        due("village", x.village(20), 1);
        due("X", x.door(0, 0), 1);
        due("P", x.door(0, 1), 2);
        due("J", x.door(0, 2), 3);
        due("a negative number's bytes", x.feed(-1, 0, 0, 0, 0), 20);
        due("byte 255 cannot stand", x.village(4), -9);
        due("fault", x.fault(), 0);
        due("the village stays", x.told(0), 1);
        due("an empty plan", x.plan(0), 0);
        due("no fault", x.fault(), -1);
    }

    private static void villageForgets() {
        x = Calls.of("door 0 10 1;start 5;verse 4;until 9;singer 3 1;");
        Calls.law(x, 0, "7");
        Calls.law(x, 1, "1");
        Calls.plan(x, "0 1;");
        Calls.book(x, "0=1;");
        x.until(50);
        x.image();
        due("a faulty village", Calls.village(x, "door 0 0 0;verse 5;x"), -9);
        due("doors stay", x.told(0), 1);
        due("the law stays", x.gives(0, 0, 0), 7);
        due("the plan stays", x.told(2), 1);
        due("the book stays", x.told(3), 1);
        due("the image stays", x.count(0), 1);
        due("changes stay", x.count(2), 1);
        due("verse stays", x.told(5), 4);
        due("until stays", x.told(6), 50);
        due("another village", Calls.village(x, "door 0 10 1;door 3 20 1;"), 2);
        int[] told = {2, 0, 0, 0, 0, 2, 120};
        for (int what = 0; what < 7; what++) {
            due("told behind it " + what, x.told(what), told[what]);
        }
        due("no law", x.gives(0, 0, 0), 10);
        due("no images", x.count(0), 0);
        due("no changes", x.count(2), 0);
        due("restore", x.restore(), -1);
        Calls.plan(x, "0 0;");
        due("no law ON", x.evening(1, 4), 0);
    }

    private static void told() {
        x = Calls.of(VILLAGE);
        int[] told = {3, 3, 0, 0, 6, 3, 40};
        for (int what = 0; what < 7; what++) {
            due("told " + what, x.told(what), told[what]);
        }
        int[] door = {10, 30, 16, 0, 6, 10, 12, 4, 5, 0};
        for (int what = 0; what < 10; what++) {
            due("door 2 " + what, x.door(2, what), door[what]);
        }
        due("door 1 6", x.door(1, 6), 12);
        due("door 1 9", x.door(1, 9), 6);
        int[] singer = {10, 0, 50, 0};
        for (int what = 0; what < 4; what++) {
            due("singer 0 " + what, x.singer(0, what), singer[what]);
        }
        due("singer 2 2", x.singer(2, 2), -1);
        due("singer 2 3", x.singer(2, 3), 2);
        due("plan", Calls.plan(x, "1 1;0 2 last;2 0 first;"), 3);
        int[] line = {0, 2, 2, 6};
        for (int what = 0; what < 4; what++) {
            due("line 1 " + what, x.line(1, what), line[what]);
        }
        due("line 0 3", x.line(0, 3), 2);
        due("line 2 2", x.line(2, 2), 1);
        due("line 2 3", x.line(2, 3), 0);
        Calls.refused("told(7)", 'A', () -> x.told(7));
        Calls.refused("told(-1)", 'A', () -> x.told(-1));
        Calls.refused("door(3, 0)", 'N', () -> x.door(3, 0));
        Calls.refused("door(3, 10)", 'N', () -> x.door(3, 10));
        Calls.refused("door(-1, 0)", 'N', () -> x.door(-1, 0));
        Calls.refused("door(0, 10)", 'A', () -> x.door(0, 10));
        Calls.refused("door(0, -1)", 'A', () -> x.door(0, -1));
        Calls.refused("singer(3, 9)", 'N', () -> x.singer(3, 9));
        Calls.refused("singer(0, 4)", 'A', () -> x.singer(0, 4));
        Calls.refused("line(3, 9)", 'N', () -> x.line(3, 9));
        Calls.refused("line(0, 4)", 'A', () -> x.line(0, 4));
    }

    private static void value(String law, int want) {
        due("law '" + law + "'", Calls.law(x, 0, law), 1);
        due("value of '" + law + "'", x.gives(1, 4, 6), want);
    }

    private static void lawValues() {
        x = Calls.of("door 0 1 1;door 7 20 30;drive 1 9;pies 1 11;singer 1 1;singer 1 2;home 0 0;");
        value("verses", 4);
        value("pence", 20);
        value("joy", 30);
        value("place", 6);
        value("singers", 2);
        value("drive", 9);
        value("pies", 11);
        value("minute+box+told", 0);
        value("100-20-3", 77);
        value("2+3*4", 14);
        value("(2+3)*4", 20);
        value("100/7/2", 7);
        value("100/7*2", 28);
        value("5/0", 0);
        value("5/(1-1)+3", 3);
        value("10+(0-7)/2", 7);
        value("least[3,7]*most[3,7]", 21);
        value("if[1,5,6]", 5);
        value("if[0,5,6]", 6);
        value("if[0-1,5,6]", 6);
        value("0-1", 0);
        value("999", 999);
        value("999+1", 999);
        value("999*999*999*3", 0);
        value("999*999*999*3/999/999/2+700", 47);
        value("999*999*999*5", 999);
        Calls.law(x, 0, "verses*100+place");
        due("gives 0 9", x.gives(0, 0, 9), 9);
        due("gives 60", x.gives(0, 60, 0), 999);
        Calls.refused("gives(2, 0, 0)", 'N', () -> x.gives(2, 0, 0));
        Calls.refused("gives(2, 61, 0)", 'N', () -> x.gives(2, 61, 0));
        Calls.refused("gives(0, 61, 0)", 'A', () -> x.gives(0, 61, 0));
        Calls.refused("gives(0, -1, 0)", 'A', () -> x.gives(0, -1, 0));
        Calls.refused("gives(0, 0, 10)", 'A', () -> x.gives(0, 0, 10));
        Calls.refused("gives(0, 0, -1)", 'A', () -> x.gives(0, 0, -1));
    }

    private static void mean(int door, int n, int ring, int what, long above, long below) {
        Calls.fraction("mean " + door + " " + n + " " + ring + " " + what,
                x.mean(door, n, ring, what, 0), x.mean(door, n, ring, what, 1), above, below);
    }

    private static void means() {
        x = Calls.of(VILLAGE);
        mean(0, 2, 0, 0, 3, 4);
        mean(0, 2, 0, 1, 12, 1);
        mean(0, 2, 0, 2, 6, 1);
        mean(0, 2, 0, 3, 9, 2);
        mean(0, 0, 0, 0, 0, 1);
        mean(0, 0, 0, 3, 0, 1);
        mean(1, 1, 0, 0, 1, 2);
        mean(1, 1, 0, 3, 6, 1);
        mean(1, 0, 1, 0, 1, 4);
        mean(1, 0, 1, 1, 25, 1);
        mean(1, 0, 2, 3, 5, 2);
        mean(2, 1, 2, 0, 0, 1);
        mean(2, 1, 2, 3, 14, 1);
        mean(2, 0, 0, 3, 10, 1);
        Calls.law(x, 0, "verses*16+place");
        mean(0, 2, 0, 1, 16, 1);
        mean(0, 1, 1, 1, 3, 1);
        Calls.refused("mean(3, ..)", 'N', () -> x.mean(3, 9, 9, 9, 9));
        Calls.refused("mean n 6", 'A', () -> x.mean(0, 6, 0, 0, 0));
        Calls.refused("mean n -1", 'A', () -> x.mean(0, -1, 0, 0, 0));
        Calls.refused("mean ring 3", 'A', () -> x.mean(0, 0, 3, 0, 0));
        Calls.refused("mean what 4", 'A', () -> x.mean(0, 0, 0, 4, 0));
        Calls.refused("mean part 2", 'A', () -> x.mean(0, 0, 0, 0, 2));
        // the least odds there are: 1 of 16, four verses in vain and a ring
        x = Calls.of("door 0 1 0;in 0 1;hears 0 1;rings 0 1;");
        mean(0, 5, 2, 0, 16L * 16 * 16 * 16 * 16 * 16 - 15L * 15 * 15 * 15 * 15 * 15, 1L << 28);
    }

    private static void planSums() {
        x = Calls.of(VILLAGE);
        Calls.plan(x, "1 1;0 2 last;2 0 first;");
        long[][] want = {{45, 32}, {129, 2}, {29, 4}, {119, 4}};
        for (int what = 0; what < 4; what++) {
            Calls.fraction("planned " + what, x.planned(what, 0), x.planned(what, 1), want[what][0], want[what][1]);
        }
        due("longest", x.longest(), 35);
        int[][] sure = {{40, 3}, {35, 3}, {34, 2}, {24, 2}, {23, 1}, {11, 1}, {10, 0}, {0, 0}};
        for (int[] by : sure) {
            x.until(by[0]);
            due("sure by " + by[0], x.sure(), by[1]);
        }
        due("stop 0", x.stop(0), -1);
        due("stop 1", x.stop(1), 1);
        due("stop 2", x.stop(2), 1);
        due("stop 3", x.stop(3), 0);
        Calls.law(x, 0, "place*100");
        Calls.fraction("pence by places", x.planned(1, 0), x.planned(1, 1), 725, 8);
        due("stop by places", x.stop(4), 0);
        due("stop by places", x.stop(3), 2);
        Calls.refused("planned(4, 0)", 'A', () -> x.planned(4, 0));
        Calls.refused("planned(0, 2)", 'A', () -> x.planned(0, 2));
        Calls.refused("stop(100)", 'A', () -> x.stop(100));
        Calls.refused("stop(-1)", 'A', () -> x.stop(-1));
    }

    private static void best(int w, long above, long below, int at, int minutes) {
        Calls.fraction("best " + w, x.best(w, 0), x.best(w, 1), above, below);
        due("bestAt " + w, x.bestAt(w, 0), at);
        due("bestLong " + w, x.bestLong(w), minutes);
    }

    private static void best() {
        x = Calls.of("door 3 10 4;in 0 16;hears 0 16;verse 5;until 8;");
        best(0, 10, 1, 10, 8);
        best(2, 18, 1, 10, 8);
        x.until(7);
        best(0, 25, 4, 1, 4);
        x.until(3);
        best(0, 0, 1, -1, 0);
        x.until(480);
        best(0, 10, 1, 10, 8);
        x.change(0, 4, 0);
        x.change(0, 5, 0);
        best(0, 0, 1, -1, 0);
        x.undo();
        best(0, 25, 4, 1, 4);
        // who brings nothing is left out; of two that bring the same the later one is taken
        x = Calls.of("door 0 0 0;door 0 9 0;door 0 9 0;in 1 16;hears 1 16;in 2 16;hears 2 16;rings 1 0;"
                + "rings 2 0;verse 6;until 6;");
        due("left out", x.bestAt(0, 0), -1);
        due("left out of alike ones", x.bestAt(0, 1), -1);
        due("taken of alike ones", x.bestAt(0, 2), 10);
        // the shorter way: from 50 to 60 first, then to 10
        x = Calls.of("door 10 9 0;door 60 9 0;in 0 16;in 1 16;rings 0 16;rings 1 16;start 50;until 62;");
        due("the shorter way", x.bestLong(0), 62);
        due("both rung at", x.bestAt(0, 0) * 100 + x.bestAt(0, 1), 101);
        x.until(61);
        due("no way to both", x.bestAt(0, 0), -1);
        due("the nearer", x.bestLong(0), 11);
        Calls.law(x, 0, "place*9+1");
        Calls.fraction("place is 0", x.best(0, 0), x.best(0, 1), 1, 1);
        Calls.refused("best(10, 0)", 'A', () -> x.best(10, 0));
        Calls.refused("best(0, 2)", 'A', () -> x.best(0, 2));
        Calls.refused("bestAt(10, 2)", 'N', () -> x.bestAt(10, 2));
        Calls.refused("bestAt(10, 1)", 'A', () -> x.bestAt(10, 1));
        Calls.refused("bestAt(-1, 1)", 'A', () -> x.bestAt(-1, 1));
        Calls.refused("bestLong(-1)", 'A', () -> x.bestLong(-1));
        Calls.refused("bestLong(10)", 'A', () -> x.bestLong(10));
        x = Calls.of("door 1 1 1;".repeat(5));
        due("five doors", x.bestLong(0) > 0 ? 1 : 0, 1);
        x = Calls.of("door 1 1 1;".repeat(6));
        Calls.refused("six doors", 'S', () -> x.best(0, 0));
        Calls.refused("six doors", 'S', () -> x.bestAt(0, 5));
        Calls.refused("six doors", 'S', () -> x.bestLong(0));
        Calls.refused("six doors, other part", 'A', () -> x.best(0, 2));
        Calls.refused("six doors, no seventh", 'N', () -> x.bestAt(0, 6));
        due("status 2", x.status(2), 3);
    }

    private static void home(int door, int seen, int v, long above, long below) {
        Calls.fraction("home " + door + " " + seen + " " + v,
                x.home(door, seen, v, 0), x.home(door, seen, v, 1), above, below);
    }

    private static void another(int door, int seen, int v, long above, long below) {
        Calls.fraction("another " + door + " " + seen + " " + v,
                x.another(door, seen, v, 0), x.another(door, seen, v, 1), above, below);
    }

    private static void lights() {
        x = Calls.of(VILLAGE);
        home(1, 1, 0, 3, 4);
        home(1, 0, 0, 1, 4);
        home(1, 2, 0, 1, 2);
        home(1, 2, 1, 0, 1);
        home(0, 0, 10, 1, 1);
        home(2, 1, 0, 0, 1);
        another(1, 1, 0, 3, 4);
        another(1, 1, 1, 0, 1);
        another(0, 2, 3, 1, 2);
        another(2, 2, 0, 0, 1);
        due("lineAt 75", x.lineAt(1, 1, 75), 1);
        due("lineAt 76", x.lineAt(1, 1, 76), 0);
        due("lineAt 8", x.lineAt(0, 2, 8), -1);
        due("lineAt 9", x.lineAt(0, 2, 9), 0);
        due("lineAt 0", x.lineAt(2, 2, 0), -1);
        due("lineAt 1", x.lineAt(2, 2, 1), 0);
        Calls.law(x, 0, "22-2*verses");
        due("lineAt by verses", x.lineAt(0, 2, 1), 10);
        due("lineAt by verses", x.lineAt(0, 2, 2), 9);
        // it cannot be lit; and who hears always cannot be in behind a verse in vain
        x = Calls.of("door 0 9 9;in 0 16;hears 0 16;light 0 0 9;");
        home(0, 1, 0, 0, 1);
        another(0, 1, 0, 0, 1);
        home(0, 2, 0, 1, 1);
        home(0, 2, 1, 0, 1);
        due("lineAt of what cannot be", x.lineAt(0, 1, 1), 0);
        due("lineAt of what cannot be", x.lineAt(0, 1, 0), -1);
        x = Calls.of("door 0 9 9;in 0 15;hears 0 1;light 0 15 1;");
        home(0, 1, 10, 225L * 576650390625L, 225L * 576650390625L + (1L << 40));
        Calls.refused("home(1, ..)", 'N', () -> x.home(1, 9, 9, 9));
        Calls.refused("home seen 3", 'A', () -> x.home(0, 3, 0, 0));
        Calls.refused("home v 11", 'A', () -> x.home(0, 0, 11, 0));
        Calls.refused("home part 2", 'A', () -> x.home(0, 0, 0, 2));
        Calls.refused("another(1, ..)", 'N', () -> x.another(1, 9, 9, 9));
        Calls.refused("another v -1", 'A', () -> x.another(0, 0, -1, 0));
        Calls.refused("another part 2", 'A', () -> x.another(0, 0, 0, 2));
        Calls.refused("another v 11", 'A', () -> x.another(0, 0, 11, 0));
        Calls.refused("another seen 3", 'A', () -> x.another(0, 3, 0, 0));
        Calls.refused("another part -1", 'A', () -> x.another(0, 0, 0, -1));
        Calls.refused("another seen -1", 'A', () -> x.another(0, -1, 0, 0));
        Calls.refused("lineAt(1, ..)", 'N', () -> x.lineAt(1, 9, 9));
        Calls.refused("lineAt seen 3", 'A', () -> x.lineAt(0, 3, 0));
        Calls.refused("lineAt x 1000", 'A', () -> x.lineAt(0, 0, 1000));
        Calls.refused("lineAt x -1", 'A', () -> x.lineAt(0, 0, -1));
    }

    private static void rings() {
        x = Calls.of(VILLAGE);
        due("ring first", x.ring(0, 2), 1);
        due("no ring", x.ring(2, 1), 0);
        due("no ring, fewer minutes", x.ring(1, 1), 0);
        due("of alike ones the least", x.ring(1, 0), 1);
        Calls.law(x, 0, "verses");
        due("ring last", x.ring(0, 1), 2);
        Calls.law(x, 0, "pence");
        Calls.due("pays 2", x.pays(0, 2, 0, 2), true);
        Calls.due("pays 3", x.pays(0, 2, 0, 3), false);
        Calls.due("pays alike", x.pays(1, 0, 1, 10), true);
        Calls.due("pays by nothing at all", x.pays(0, 0, 0, 99), true);
        Calls.due("pays not", x.pays(2, 0, 0, 1), false);
        Calls.due("pays 0", x.pays(2, 0, 0, 0), true);
        Calls.refused("ring(3, 9)", 'N', () -> x.ring(3, 9));
        Calls.refused("ring(0, 6)", 'A', () -> x.ring(0, 6));
        Calls.refused("ring(0, -1)", 'A', () -> x.ring(0, -1));
        Calls.refused("pays(3, ..)", 'N', () -> x.pays(3, 9, 9, 100));
        Calls.refused("pays n", 'A', () -> x.pays(0, 6, 0, 0));
        Calls.refused("pays ring", 'A', () -> x.pays(0, 0, 3, 0));
        Calls.refused("pays x", 'A', () -> x.pays(0, 0, 0, 100));
    }

    private static void voices() {
        x = Calls.of(VILLAGE);
        int[][] lasts = {{1, 0, 7}, {2, 0, 7}, {3, 0, 5}, {4, 0, 0}, {2, 30, 7}, {3, 30, 0}, {3, 29, 5},
            {0, 50, 0}, {0, 49, 7}, {8, 0, 0}};
        for (int[] by : lasts) {
            due("lasts " + by[0] + " " + by[1], x.lasts(by[0], by[1]), by[2]);
        }
        due("without 0", x.without(0, 1, 50), 7);
        due("without 2", x.without(2, 1, 0), 15);
        due("without 2, two at once", x.without(2, 2, 0), 11);
        due("without one that none has", x.without(3, 1, 0), 7);
        due("there 29", x.there(29), 7);
        due("there 30", x.there(30), 5);
        due("there 480", x.there(480), 4);
        due("flat", x.flat(), 50);
        x = Calls.of("singer 99 0;singer 99 0;singer 0 1;home 2 0;");
        due("no voice", x.lasts(0, 480), 0);
        due("99 at most", x.without(1, 1, 480), 99);
        due("flat at once", x.flat(), 0);
        x = Calls.of("singer 3 1;home 0 480;");
        due("flat at the end", x.flat(), 480);
        due("nobody need sing", x.without(1, 0, 0), 99);
        due("one must sing", x.without(1, 1, 0), 3);
        Calls.refused("lasts(9, 0)", 'A', () -> x.lasts(9, 0));
        Calls.refused("lasts(-1, 0)", 'A', () -> x.lasts(-1, 0));
        Calls.refused("lasts(0, 481)", 'A', () -> x.lasts(0, 481));
        Calls.refused("without(4, 0, 0)", 'A', () -> x.without(4, 0, 0));
        Calls.refused("without(-1, 0, 0)", 'A', () -> x.without(-1, 0, 0));
        Calls.refused("without(0, 9, 0)", 'A', () -> x.without(0, 9, 0));
        Calls.refused("without(0, 0, -1)", 'A', () -> x.without(0, 0, -1));
        Calls.refused("there(481)", 'A', () -> x.there(481));
        Calls.refused("there(-1)", 'A', () -> x.there(-1));
    }

    private static void solos() {
        x = Calls.of(VILLAGE);
        due("no plan", x.solos(), 0);
        Calls.plan(x, "2 0 first;0 2 last;1 1;");
        due("two solos", x.solos(), 3);
        Calls.fraction("joy more", x.soloJoy(0), x.soloJoy(1), 29, 4);
        x.skip(2);
        due("as many doors as there are lines", x.solos(), 5);
        x = Calls.of("door 0 1 8;door 0 1 8;door 0 1 9;in 0 16;in 1 16;in 2 16;rings 0 16;rings 1 16;rings 2 16;"
                + "singer 1 1;singer 1 1;solo 0 1;solo 1 1;");
        Calls.plan(x, "1 0 first;2 0 first;0 0 first;");
        due("of alike ones the least bits", x.solos(), 5);
        Calls.fraction("joy more", x.soloJoy(0), x.soloJoy(1), 17, 1);
        x = Calls.of("door 0 1 9;".repeat(10) + "singer 1 1;solo 0 2;in 9 16;in 0 16;");
        Calls.plan(x, "8 1;9 1;0 1;1 1;");
        due("the first and the last door", x.solos(), 513);
        Calls.refused("soloJoy(2)", 'A', () -> x.soloJoy(2));
        Calls.refused("soloJoy(-1)", 'A', () -> x.soloJoy(-1));
    }

    private static void party() {
        x = Calls.of(VILLAGE);
        due("ahead", x.party(0), 86);
        due("takes", x.party(1), 1);
        x = Calls.of("door 9 1 0;door 5 100 0;door 1 1 0;");
        due("behind", x.party(0), -98);
        due("of alike ones the first in the row", x.party(1), 2);
        x = Calls.of("door 5 3 0;door 5 7 0;");
        due("of one X by number", x.party(1), 1);
        due("ahead", x.party(0), 4);
        x = Calls.of("door 5 3 0;");
        due("one door", x.party(1), 0);
        due("one door", x.party(0), 3);
        Calls.refused("party(2)", 'A', () -> x.party(2));
        Calls.refused("party(-1)", 'A', () -> x.party(-1));
    }

    private static void gave(int sets, int first, int all, int none) {
        int[] want = {sets, first, all, none};
        for (int what = 0; what < 4; what++) {
            due("gave " + what, x.gave(what), want[what]);
        }
    }

    private static void gave() {
        x = Calls.of("door 0 10 0;door 0 20 0;door 0 30 0;door 0 5 0;");
        gave(16, 0, 0, 0);
        Calls.book(x, "0 1 2=30;3=0;");
        gave(2, 3, 0, 8);
        due("right", x.right(3), 2);
        due("right", x.right(11), 1);
        due("right", x.right(8), 0);
        Calls.book(x, "=0;0 1 2=30;0 2=30;");
        gave(2, 4, 4, 3);
        due("right in no door", x.right(0), 1);
        Calls.book(x, "0=1;");
        gave(0, -1, 0, 0);
        Calls.book(x, "=1;=0;");
        due("the first line is wrong", x.right(0), 0);
        Calls.book(x, "");
        due("no book", x.right(15), 0);
        Calls.refused("right(16)", 'A', () -> x.right(16));
        Calls.refused("right(-1)", 'A', () -> x.right(-1));
        Calls.refused("gave(4)", 'A', () -> x.gave(4));
        Calls.refused("gave(-1)", 'A', () -> x.gave(-1));
    }

    private static void evening(int seed, int... want) {
        for (int what = 0; what < want.length; what++) {
            due("evening " + seed + " " + what, x.evening(seed, what), want[what]);
        }
    }

    private static void evenings() {
        // always in; 0 hears at once, 1 never hears and comes by every ring, 2 neither
        String odds = "in 0 16;in 1 16;in 2 16;hears 0 16;hears 1 0;hears 2 0;rings 0 0;rings 1 16;rings 2 0;";
        x = Calls.of("door 5 10 1;door 9 20 2;door 2 30 4;" + odds + "pies 0 4;drive 1 6;start 3;verse 7;until 30;");
        Calls.plan(x, "0 3 first;1 2 last;2 1;");
        // 2 on the way, a ring, a verse, pies: 14; 4 on the way, 6, two verses, a ring, 6: 45; too late for 2
        evening(1, 30, 3, 45, 3, 3, 2, 2);
        x.until(45);
        evening(2, 30, 3, 45, 3, 3, 2, 2);
        x.until(51);
        evening(2, 30, 3, 45, 3, 3, 2, 2);
        x.until(52);
        evening(2, 30, 3, 59, 3, 4, 2, 3);
        x.until(17);
        evening(2, 10, 1, 14, 1, 1, 1, 1);
        x.until(18);
        evening(2, 30, 3, 45, 3, 3, 2, 2);
        x.until(1);
        evening(2, 0, 0, 0, 0, 0, 0, 0);
        Calls.refused("evening(0, 7)", 'A', () -> x.evening(0, 7));
        Calls.refused("evening(0, -1)", 'A', () -> x.evening(0, -1));
    }

    private static void draws() {
        // seed 1 draws 6, 14, 1, 11, ..: in, a verse in vain, the second one opens; then nobody is in
        x = Calls.of("door 0 5 1;door 0 5 1;in 0 15;hears 0 6;in 1 7;hears 1 16;");
        Calls.plan(x, "0 2;1 1;");
        evening(1, 5, 1, 6, 1, 3, 0, 2);
        // nobody is in by 6 of 16, so 14 is for the next door already: in, by 1 they come
        x.change(0, 3, 6);
        x.change(1, 3, 15);
        evening(1, 5, 1, 6, 2, 3, 0, 2);
        x.change(0, 3, 7);
        x.change(1, 4, 11);
        evening(1, 5, 1, 6, 1, 3, 0, 2);
        // seed 0 draws 0, 12
        x.change(0, 4, 12);
        x.sing(0, 1, 0);
        due("12 is not below 12", x.evening(0, 3) & 1, 0);
        x.change(0, 4, 13);
        due("12 is below 13", x.evening(0, 3) & 1, 1);
    }

    private static void laws() {
        x = Calls.of("door 5 10 1;door 9 20 2;in 0 16;in 1 16;hears 0 0;hears 1 0;rings 0 16;rings 1 16;verse 4;");
        Calls.plan(x, "0 1 last;1 2 first;");
        Calls.law(x, 1, "3-verses");
        evening(1, 30, 3, 23, 3, 3, 2, 2);
        Calls.law(x, 1, "1");
        due("five at most", x.evening(1, 4), 5);
        Calls.law(x, 1, "told-verses");
        due("as told", x.evening(1, 4), 1);
        Calls.law(x, 1, "14-minute");
        due("by the minute: 5, 9, 13", x.evening(1, 4), 3);
        Calls.law(x, 0, "verses*100+place*10+minute+box+told");
        Calls.law(x, 1, "0");
        due("rung at alone", x.evening(1, 0), 10);
        x.sing(1, 2, 2);
        Calls.law(x, 1, "if[place,box,2-verses]");
        // two verses and a ring bring 200, so the box lets them sing five at the second door
        due("by the box", x.evening(1, 4), 7);
        due("what is given by verses", x.evening(1, 0), 200 + 510);
        Calls.law(x, 1, "singers+drive+pies");
        due("none", x.evening(1, 4), 0);
    }

    private static void spans() {
        x = Calls.of("door 0 5 3;door 0 7 4;in 0 8;in 1 16;rings 0 16;rings 1 4;");
        Calls.plan(x, "0 0 first;1 0 first;");
        int least = 100;
        int most = -1;
        int all = 0;
        int opens = 0;
        int finest = -1;
        for (int seed = Integer.MAX_VALUE - 5; seed != Integer.MIN_VALUE + 10; seed++) {
            int box = x.evening(seed, 0);
            least = Math.min(least, box);
            most = Math.max(most, box);
            all += box;
            opens += x.evening(seed, 3) & 1;
            finest = Math.max(finest, x.evening(seed, 1));
        }
        due("span 0", x.span(Integer.MAX_VALUE - 5, 16, 0, 1), least);
        due("span 1", x.span(Integer.MAX_VALUE - 5, 16, 1, 1), most);
        due("span 2", x.span(Integer.MAX_VALUE - 5, 16, 2, 1), all);
        due("span 3", x.span(Integer.MAX_VALUE - 5, 16, 3, 0), opens);
        due("finest", x.evening(x.finest(Integer.MAX_VALUE - 5, 16), 1), finest);
        due("finest of one", x.finest(-3, 1), -3);
        Calls.refused("span many 0", 'A', () -> x.span(1, 0, 0, 0));
        Calls.refused("span many 41", 'A', () -> x.span(1, 41, 0, 0));
        Calls.refused("span what 4", 'A', () -> x.span(1, 1, 4, 0));
        Calls.refused("span what -1", 'A', () -> x.span(1, 1, -1, 0));
        Calls.refused("span door 2", 'A', () -> x.span(1, 1, 0, 2));
        Calls.refused("span door -1", 'A', () -> x.span(1, 1, 3, -1));
        Calls.refused("finest many 0", 'A', () -> x.finest(1, 0));
        Calls.refused("finest many 41", 'A', () -> x.finest(1, 41));
    }

    private static void changes() {
        x = Calls.of(VILLAGE);
        Calls.plan(x, "1 1;0 2 last;2 0 first;");
        due("change", x.change(0, 1, 240), 16);
        due("told anew", x.door(0, 1), 240);
        due("change to the same", x.change(0, 1, 240), 240);
        due("sing", x.sing(1, 5, 1), 1);
        due("line told anew", x.line(1, 1) * 10 + x.line(1, 2), 51);
        due("swap", x.swap(0, 2), 1);
        due("lines change places", x.line(0, 0) * 10 + x.line(2, 0), 21);
        due("one line", x.swap(1, 1), 0);
        due("skip", x.skip(0), 2);
        due("the next moves up", x.line(0, 0), 0);
        due("until", x.until(0), 40);
        due("until anew", x.told(6), 0);
        due("changes", x.count(2), 6);
        for (int i = 0; i < 14; i++) {
            due("until again", x.until(i), i == 0 ? 0 : i - 1);
        }
        due("changes", x.count(2), 20);
        due("a 21st until", x.until(5), -1);
        due("a 21st change", x.change(0, 1, 0), -1);
        due("a 21st sing", x.sing(0, 0, 0), -1);
        due("a 21st swap", x.swap(0, 1), -1);
        due("one line still", x.swap(1, 1), 0);
        due("a 21st skip", x.skip(0), -1);
        due("nothing done", x.told(6) + x.door(0, 1) + x.told(2), 13 + 240 + 2);
        Calls.refused("refused ahead of -1", 'A', () -> x.until(481));
    }

    private static void changeBounds() {
        x = Calls.of(VILLAGE);
        Calls.plan(x, "1 1;0 2 last;");
        int[] most = {99, 240, 99, 16, 16, 16, 16, 16, 20, 30};
        for (int what = 1; what < 10; what++) {
            int fact = what;
            x.change(2, what, most[what]);
            due("the most of " + what, x.door(2, what), most[what]);
            Calls.refused("more of " + what, 'A', () -> x.change(2, fact, most[fact] + 1));
            Calls.refused("less of " + what, 'A', () -> x.change(2, fact, -1));
        }
        Calls.refused("change X", 'A', () -> x.change(0, 0, 1));
        Calls.refused("change X", 'A', () -> x.change(0, 0, 0));
        Calls.refused("change what 10", 'A', () -> x.change(0, 10, 0));
        Calls.refused("change door 3", 'N', () -> x.change(3, 10, 1));
        Calls.refused("sing line 2", 'N', () -> x.sing(2, 9, 9));
        Calls.refused("sing n 6", 'A', () -> x.sing(0, 6, 0));
        Calls.refused("sing ring 3", 'A', () -> x.sing(0, 0, 3));
        Calls.refused("sing ring -1", 'A', () -> x.sing(0, 0, -1));
        Calls.refused("swap(0, 2)", 'N', () -> x.swap(0, 2));
        Calls.refused("swap(2, 2)", 'N', () -> x.swap(2, 2));
        Calls.refused("swap(-1, 0)", 'N', () -> x.swap(-1, 0));
        Calls.refused("skip(2)", 'N', () -> x.skip(2));
        Calls.refused("skip(-1)", 'N', () -> x.skip(-1));
        Calls.refused("until(481)", 'A', () -> x.until(481));
        Calls.refused("until(-1)", 'A', () -> x.until(-1));
    }

    private static void undo() {
        x = Calls.of(VILLAGE);
        Calls.plan(x, "1 1;0 2 last;2 0 first;");
        x.change(0, 9, 5);
        x.sing(0, 3, 2);
        x.swap(0, 2);
        x.skip(1);
        x.until(7);
        for (int left = 4; left >= 0; left--) {
            due("undo", x.undo(), left);
        }
        due("nothing more", x.undo(), -1);
        due("until is back", x.told(6), 40);
        due("pies are back", x.door(0, 9), 0);
        int[][] lines = {{1, 1, 0}, {0, 2, 2}, {2, 0, 1}};
        for (int i = 0; i < 3; i++) {
            for (int what = 0; what < 3; what++) {
                due("line is back " + i + " " + what, x.line(i, what), lines[i][what]);
            }
        }
        x.change(0, 9, 5);
        due("a faulty plan", Calls.plan(x, "9 1;"), -8);
        due("forgets nothing", x.count(2), 1);
        due("a plan", Calls.plan(x, "0 1;"), 1);
        due("forgets changes", x.undo(), -1);
        due("which stay", x.door(0, 9), 5);
        x.until(3);
        Calls.law(x, 0, "1");
        Calls.book(x, "");
        due("laws and books forget none", x.count(2), 1);
    }

    private static void images() {
        x = Calls.of(VILLAGE);
        Calls.plan(x, "1 1;0 2 last;");
        x.until(50);
        due("image", x.image(), 1);
        x.change(0, 1, 77);
        x.skip(0);
        due("image", x.image(), 2);
        x.until(60);
        due("image", x.image(), 3);
        due("a fourth image", x.image(), -1);
        due("images", x.count(0), 3);
        Calls.law(x, 0, "9");
        Calls.book(x, "0=9;");
        Calls.plan(x, "2 0;");
        due("a plan leaves images", x.count(0), 3);
        due("restore", x.restore(), 2);
        due("until", x.told(6), 60);
        due("changes", x.count(2), 4);
        due("undo", x.undo(), 3);
        due("until is back", x.told(6), 50);
        due("restore", x.restore(), 1);
        due("changes", x.count(2), 3);
        due("lines", x.told(2), 1);
        due("restore", x.restore(), 0);
        due("lines", x.told(2), 2);
        due("pence", x.door(0, 1), 16);
        due("changes", x.count(2), 1);
        due("the law is in no image", x.gives(0, 0, 0), 9);
        due("the book is in no image", x.told(3), 1);
        due("undo", x.undo(), 0);
        due("until", x.told(6), 40);
        due("no image", x.restore(), -1);
    }

    private static void refusals() {
        x = Calls.of(VILLAGE);
        x.image();
        Calls.refused("door(9, 0)", 'N', () -> x.door(9, 0));
        Calls.refused("told(9)", 'A', () -> x.told(9));
        Calls.refused("told(9)", 'A', () -> x.told(9));
        x.restore();
        x.village(0);
        due("status 0", x.status(0), 1);
        due("status 1", x.status(1), 2);
        due("status 2", x.status(2), 0);
        due("status 3", x.status(3), -1);
        due("status -1", x.status(-1), -1);
        due("count 3", x.count(3), -1);
        due("count -1", x.count(-1), -1);
        x.feed(0, 0, 0, 0, 0);
        due("count 1", x.count(1), 20);
    }
}
