/** Evenings by seeds, changes, images and counts, promises 35 to 47: each sentence that names a boundary. */
public final class BoundsOfEveningsTest {
    private static CarolDoors x;

    public static void main(String[] args) {
        draws();
        seeds();
        late();
        steps();
        sungOn();
        namesOfOn();
        given();
        spans();
        finest();
        change();
        sing();
        swapAndSkip();
        until();
        twenty();
        undo();
        images();
        restores();
        status();
        counts();
        Calls.end();
    }

    private static void evening(String what, int seed, int... want) {
        for (int kind = 0; kind < want.length; kind++) {
            Calls.due(what + ": evening " + kind, x.evening(seed, kind), want[kind]);
        }
    }

    // ---- draws ----

    /** Bits 16 to 30 of a 32-bit seed, reckoned in 64 bits; by 16 what is left. */
    private static int draw(int seed, int nth) {
        long now = seed & 0xffffffffL;
        for (int i = 0; i < nth; i++) {
            now = (now * 1103515245L + 12345L) % 4294967296L;
        }
        return (int) (now / 65536 % 32768 % 16);
    }

    private static void draws() {
        Says.says("DRAW: the SEED (32 bits) becomes itself times 1,103,515,245, and 12,345 (it wraps)");
        Says.says("its bits 16 to 30, by 16 what is left of them");
        x = Calls.of("door 0 1 1;rings 0 16;");
        Calls.plan(x, "0 0 first;");
        Calls.due("the first draw of seed 1", draw(1, 1), 6);
        Calls.due("the second draw of seed 1", draw(1, 2), 14);
        int[] seeds = {0, 1, -1, 2, 3, 12345, 65536, Integer.MAX_VALUE, Integer.MIN_VALUE, -12345, 1 << 30, -1103515245};
        for (int q = 0; q <= 16; q++) {
            Calls.plan(x, "0 0 first;");
            x.change(0, 3, q);
            for (int seed : seeds) {
                Calls.due("in by " + q + ", seed " + seed, x.evening(seed, 0), draw(seed, 1) < q ? 1 : 0);
            }
        }
        Says.says("DRAW below Q: somebody is in");
        // seed 1 draws 6, 14, 1, 11; seed 0 draws 0
        x.change(0, 3, 6);
        Calls.due("6 is not below 6", x.evening(1, 0), 0);
        x.change(0, 3, 7);
        Calls.due("6 is below 7", x.evening(1, 0), 1);
        x.change(0, 3, 0);
        Calls.due("0 is not below 0", x.evening(0, 0), 0);
        x.change(0, 3, 1);
        Calls.due("0 is below 1", x.evening(0, 0), 1);
        Says.says("if somebody is in, DRAW below its odds: they come");
        x.change(0, 3, 16);
        x.change(0, 5, 14);
        Calls.due("14 is not below 14", x.evening(1, 0), 0);
        x.change(0, 5, 15);
        Calls.due("14 is below 15", x.evening(1, 0), 1);
        x.change(0, 5, 14);
        x.change(0, 4, 1);
        x.sing(0, 2, 1);
        Calls.due("neither is 1 below 1, nor 11", x.evening(1, 0), 0);
        x.change(0, 4, 2);
        evening("1 is below 2: one verse behind the ring", 1, 1, 1, 3, 1, 1, 1, 1);
    }

    private static void seeds() {
        Says.says("if somebody is in, DRAW");
        // seed 1 draws 6, 14, 1, 11
        x = Calls.of("door 0 1 1;door 0 2 2;in 0 6;rings 0 16;in 1 15;rings 1 2;");
        Calls.plan(x, "0 5 first;1 0 first;");
        evening("nobody in draws but once", 1, 2, 2, 12, 2, 5, 2, 2);
        x.change(1, 3, 14);
        evening("the second draws 14", 1, 0, 0, 12, 0, 5, 2, 2);
        x.change(1, 3, 16);
        x.change(1, 5, 1);
        evening("its ring draws 1", 1, 0, 0, 12, 0, 5, 2, 2);
        x.change(0, 3, 7);
        evening("who is in draws at the ring", 1, 1, 1, 2, 1, 0, 2, 2);
        x.change(1, 5, 12);
        evening("the second draws 1 and 11", 1, 3, 3, 2, 3, 0, 2, 2);
        x.change(1, 3, 1);
        evening("1 is not below 1", 1, 1, 1, 2, 1, 0, 2, 2);
    }

    // ---- the way ----

    private static void late() {
        Says.says("It begins in MINUTE 0.");
        Says.says("in a MINUTE no more than UNTIL (else it ends ahead of that way)");
        String sure = "in 0 16;in 1 16;in 2 16;rings 0 16;rings 1 16;rings 2 16;";
        x = Calls.of("door 9 1 1;door 19 2 2;door 19 4 4;" + sure + "start 4;");
        Calls.plan(x, "0 0 first;1 0 first;2 0 first;");
        // 5 and a ring, 10 and a ring, a ring
        int[][] by = {{4, 0, 0}, {5, 6, 1}, {15, 6, 1}, {16, 17, 2}, {17, 18, 3}, {480, 18, 3}};
        for (int[] b : by) {
            x.until(b[0]);
            int pence = (1 << b[2]) - 1;
            evening("until " + b[0], 3, pence, pence, b[1], pence, 0, b[2], b[2]);
        }
        x.until(0);
        evening("too far", 3, 0, 0, 0, 0, 0, 0, 0);
        x.swap(0, 1);
        x.until(14);
        evening("a nearer one behind it is not come to", 3, 0, 0, 0, 0, 0, 0, 0);
        x = Calls.of("door 4 1 1;in 0 16;rings 0 16;start 4;until 0;");
        Calls.plan(x, "0 0 first;");
        evening("until 0, no way", 3, 1, 1, 1, 1, 0, 1, 1);
        Says.says("(along the street, ahead of a drive)");
        x = Calls.of("door 4 1 1;in 0 16;rings 0 16;drive 0 20;pies 0 30;until 4;");
        Calls.plan(x, "0 0 first;");
        evening("the drive, a ring, pies, the drive back", 3, 1, 1, 75, 1, 0, 1, 1);
        x.change(0, 3, 0);
        evening("nobody in, no pies", 3, 0, 0, 45, 0, 0, 1, 1);
        x.sing(0, 0, 0);
        evening("no step", 3, 0, 0, 44, 0, 0, 0, 1);
        Says.says("along the street");
        x = Calls.of("door 50 1 1;door 20 2 2;in 0 0;in 1 0;start 99;until 480;");
        Calls.plan(x, "1 0;0 0;");
        evening("down and up", 3, 0, 0, 79 + 30, 0, 0, 0, 2);
        Calls.plan(x, "");
        evening("no plan", 3, 0, 0, 0, 0, 0, 0, 0);
        evening("a new object", 3, 0, 0, 0, 0, 0, 0, 0);
    }

    private static void steps() {
        Says.says("then STEP by STEP (each verse by ON, asked ahead of it in that MINUTE, or as the PLAN says)");
        x = Calls.of("door 0 1 1;in 0 16;hears 0 0;rings 0 0;verse 9;until 0;");
        int[][] plans = {{0, 0}, {5, 0}, {0, 1}, {5, 1}, {0, 2}, {5, 2}};
        Calls.plan(x, "0 0;");
        for (int[] p : plans) {
            x.sing(0, p[0], p[1]);
            int ring = p[1] > 0 ? 1 : 0;
            evening("as the plan says " + p[0] + " " + p[1], 7, 0, 0, 9 * p[0] + ring, 0, p[0], ring, 1);
        }
        x.change(0, 5, 16);
        evening("the last ring", 7, 1, 1, 46, 1, 5, 1, 1);
        x.sing(0, 5, 1);
        evening("no verse behind the first ring", 7, 1, 1, 1, 1, 0, 1, 1);
        x.change(0, 4, 16);
        x.sing(0, 5, 2);
        evening("one verse, no ring", 7, 1, 1, 9, 1, 1, 0, 1);
        x.change(0, 3, 0);
        evening("nobody in: all steps", 7, 0, 0, 46, 0, 5, 1, 1);
    }

    // ---- ON ----

    private static void on(String law, String what, int verses) {
        Calls.due("law '" + law + "'", Calls.law(x, 1, law), 1);
        Calls.due(law + ", " + what + ": verses", x.evening(5, 4), verses);
    }

    private static void sungOn() {
        Says.says("ON (without: as the PLAN says): in an EVENING another verse is sung at a DOOR, if it is above 0 (5 at most there).");
        x = Calls.of("door 0 9 9;in 0 16;hears 0 0;rings 0 0;verse 2;until 480;");
        Calls.plan(x, "0 3 last;");
        Calls.due("as the plan says", x.evening(5, 4), 3);
        on("1", "above 0", 5);
        on("999", "above 0", 5);
        on("0", "not above 0", 0);
        on("0-1", "below 0", 0);
        on("256*256*256*128", "below 0", 0);
        on("256*256*256*128-1", "above 0", 5);
        on("5-verses", "five", 5);
        on("4-verses", "four", 4);
        on("verses", "none is sung by now", 0);
        on("1-verses", "one", 1);
        Calls.due("the ring comes behind it", x.evening(5, 5), 1);
        x.sing(0, 0, 1);
        Calls.due("one verse, though the plan says none", x.evening(5, 4), 1);
        x.change(0, 5, 16);
        Calls.due("they came by the ring", x.evening(5, 4), 0);
        Calls.due("means are as the plan says", x.planned(3, 0), 1);
        x.sing(0, 5, 0);
        Calls.due("longest is as the plan says", x.longest(), 10);
        x = Calls.of("door 0 9 9;door 0 9 9;in 0 0;in 1 0;until 480;");
        Calls.plan(x, "1 0;0 0;");
        on("1", "five at each", 10);
        on("2-verses", "two at each", 4);
    }

    private static void namesOfOn() {
        Says.says("\"told\" (verses the PLAN says; 0 for GIVE)");
        x = Calls.of("door 0 9 4;door 0 3 2;in 0 16;in 1 16;hears 0 0;hears 1 0;rings 0 16;rings 1 16;drive 1 1;pies 1 4;"
                + "singer 1 0;singer 1 0;singer 1 0;home 0 0;verse 3;until 480;");
        Calls.plan(x, "0 1;1 4 first;");
        on("told-verses", "one: they open at the second", 1);
        x.sing(1, 4, 2);
        on("told-verses", "one and four", 5);
        Says.says("\"place\" (how many lines of the PLAN are ahead of it)");
        on("place-verses", "one at the second", 1);
        on("1-place", "five at the first", 5);
        on("if[singers-2,1,0]-verses", "one at each", 2);
        on("if[singers-3,1,0]-verses", "none", 0);
        on("pence-8-verses", "one at the first", 1);
        on("joy-2-verses", "two at the first", 2);
        on("drive-verses", "one at the second", 1);
        on("pies-verses", "four at the second", 4);
        Says.says("asked ahead of it in that MINUTE");
        // nothing at the first until minute 15, then the drive: 16, 19, 22
        on("if[place,22,99]-minute", "five and two", 7);
        on("if[place,23,99]-minute", "five and three", 8);
        on("1-minute", "one and none, for the drive is ahead of it", 1);
        Says.says("\"box\" (pence by now");
        x.swap(0, 1);
        on("box", "none at the first, five behind 3 pence", 5);
        on("3-box", "five at the first", 5);
        on("4-box", "five and five", 10);
        // a drive, a ring, pies, a drive are 7 minutes, for 3 pence
        on("minute-box-3-verses*9", "one", 1);
        on("minute-box-4-verses*9", "none", 0);
    }

    private static void given() {
        Says.says("both 0 for GIVE");
        x = Calls.of("door 5 9 4;door 5 3 2;in 0 16;in 1 16;hears 0 16;hears 1 0;rings 0 16;rings 1 16;until 480;");
        Calls.plan(x, "0 3;1 4 last;");
        Calls.law(x, 0, "verses*100+place*10+minute+box+told");
        evening("by verses and place", 5, 100 + 410, 6, 5 + 2 + 8 + 1, 3, 5, 1, 2);
        Calls.law(x, 0, "verses-1");
        evening("0 at least", 5, 0 + 3, 6);
        Calls.law(x, 0, "999*verses");
        evening("999 at most", 5, 999 + 999, 6);
        Calls.law(x, 0, "0-verses");
        evening("0 at least", 5, 0, 6, 16, 3);
        Says.says(35, "0 pence, 1 joy, 2 MINUTES in the end, 3 DOORS that opened (bits), 4 verses sung, 5 rings, 6 lines");
        Calls.bounds("evening's what", 0, 6, v -> x.evening(0, v));
        for (int seed : new int[] {Integer.MIN_VALUE, -1, 0, Integer.MAX_VALUE}) {
            evening("any seed", seed, 0, 6, 16, 3, 5, 1, 2);
        }
        x = Calls.of("door 0 1 1;".repeat(10) + "in 9 16;rings 9 16;in 0 0;in 1 0;in 2 0;in 3 0;in 4 0;in 5 0;in 6 0;in 7 0;in 8 0;");
        Calls.plan(x, "9 0 first;0 0;1 0;2 0;3 0;4 0;5 0;6 0;7 0;8 0;");
        evening("the tenth door's bit", 1, 1, 1, 1, 512, 0, 1, 10);
    }

    private static void spans() {
        Says.says(36, "Of so many SEEDS (1 to 40; seed, seed and 1, ..): 0 the least pence, 1 the most, 2 all, 3 at how many a DOOR opens");
        x = Calls.of("door 0 5 3;door 0 7 4;in 0 8;in 1 16;hears 0 0;hears 1 0;rings 0 16;rings 1 4;");
        Calls.plan(x, "0 0 first;1 0 first;");
        int[] firsts = {0, -20, Integer.MAX_VALUE - 3, Integer.MAX_VALUE};
        int[] manys = {1, 2, 39, 40};
        for (int first : firsts) {
            for (int many : manys) {
                x = fresh();
                int[] want = {Integer.MAX_VALUE, -1, 0, 0, 0};
                for (int i = 0; i < many; i++) {
                    int box = x.evening(first + i, 0);
                    want[0] = Math.min(want[0], box);
                    want[1] = Math.max(want[1], box);
                    want[2] += box;
                    want[3] += x.evening(first + i, 3) & 1;
                    want[4] += x.evening(first + i, 3) >> 1;
                }
                for (int what = 0; what < 3; what++) {
                    Calls.due("span " + first + " " + many + " " + what, x.span(first, many, what, 0), want[what]);
                    Calls.due("span " + first + " " + many + " " + what, x.span(first, many, what, 1), want[what]);
                }
                Calls.due("span " + first + " " + many + " opens", x.span(first, many, 3, 0), want[3]);
                Calls.due("span " + first + " " + many + " opens", x.span(first, many, 3, 1), want[4]);
            }
        }
        Calls.bounds("span's many", 1, 40, v -> x.span(0, v, 0, 0));
        Calls.bounds("span's what", 0, 3, v -> x.span(0, 1, v, 0));
        Says.says(36, "(IllegalArgumentException: no such DOOR, also for 0 to 2)");
        for (int what = 0; what < 4; what++) {
            int kind = what;
            Calls.bounds("span's door for " + what, 0, 1, v -> x.span(0, 1, kind, v));
        }
        Calls.due("no NoSuchElementException", x.status(0), 0);
        x = new CarolDoors();
        Calls.refused("no doors", 'A', () -> x.span(0, 1, 2, 0));
        x = Calls.of("door 0 5 3;");
        for (int what = 0; what < 4; what++) {
            Calls.due("no plan", x.span(0, 40, what, 0), 0);
        }
    }

    private static CarolDoors fresh() {
        CarolDoors fresh = Calls.of("door 0 5 3;door 0 7 4;in 0 8;in 1 16;hears 0 0;hears 1 0;rings 0 16;rings 1 4;");
        Calls.plan(fresh, "0 0 first;1 0 first;");
        return fresh;
    }

    private static void finest() {
        Says.says(37, "The SEED, of so many (as above), of the most joy (the first).");
        x = Calls.of("door 0 5 3;in 0 1;rings 0 16;");
        Calls.plan(x, "0 0 first;");
        int[] firsts = {0, 1, 100, -1, Integer.MAX_VALUE - 8, Integer.MAX_VALUE, Integer.MIN_VALUE};
        for (int first : firsts) {
            for (int many : new int[] {1, 2, 40}) {
                int want = first;
                for (int i = many - 1; i >= 0; i--) {
                    want = draw(first + i, 1) == 0 ? first + i : want;
                }
                Calls.due("finest " + first + " " + many, x.finest(first, many), want);
            }
        }
        x.change(0, 3, 0);
        Calls.due("of no joy at all the first", x.finest(-9, 40), -9);
        x.change(0, 3, 16);
        Calls.due("of alike ones the first", x.finest(-9, 40), -9);
        Calls.bounds("finest's many", 1, 40, v -> x.finest(0, v));
        Calls.due("of no doors the first", new CarolDoors().finest(Integer.MIN_VALUE, 40), Integer.MIN_VALUE);
    }

    // ---- changes ----

    private static final int[] MOST = {99, 240, 99, 16, 16, 16, 16, 16, 20, 30};

    private static void change() {
        Says.says(38, "A DOOR is told anew (what and values as in door(), 1 to 9): what it was");
        for (int what = 1; what < 10; what++) {
            int kind = what;
            x = Calls.of("door 7 8 9;door 1 2 3;");
            int was = x.door(1, what);
            Calls.due("change", x.change(1, what, MOST[what]), was);
            Calls.due("told anew", x.door(1, what), MOST[what]);
            Calls.due("change", x.change(1, what, 0), MOST[what]);
            Calls.due("told anew", x.door(1, what), 0);
            Calls.due("two changes", x.count(2), 2);
            Calls.bounds("change " + what + " to", 0, MOST[what], v -> x.change(1, kind, v));
            Calls.due("four changes", x.count(2), 4);
            for (int other = 0; other < 10; other++) {
                Calls.due("others stay", x.door(0, other), new int[] {7, 8, 9, 12, 6, 10, 12, 4, 0, 0}[other]);
            }
        }
        Calls.bounds("change's what", 1, 9, v -> x.change(1, v, 0));
        Calls.refused("X never", 'A', () -> x.change(0, 0, 7));
        Calls.numbers("change's door", 2, v -> x.change(v, 1, 1));
        Calls.refused("door ahead of what", 'N', () -> x.change(2, 10, -1));
        Calls.due("the same again is a change", x.change(0, 1, 1), 1);
        Calls.due("changes", x.count(2), 9);
    }

    private static void sing() {
        Says.says(39, "A line of the PLAN is told anew: N, ring: 1");
        x = Calls.of("door 7 8 9;door 1 2 3;");
        Calls.plan(x, "1 0;0 5 last;");
        Calls.due("sing", x.sing(0, 5, 2), 1);
        Calls.due("its door stays", x.line(0, 0) * 100 + x.line(0, 1) * 10 + x.line(0, 2), 152);
        Calls.due("the other stays", x.line(1, 0) * 100 + x.line(1, 1) * 10 + x.line(1, 2), 52);
        Calls.due("sing", x.sing(1, 0, 0), 1);
        Calls.due("told anew", x.line(1, 0) * 100 + x.line(1, 1) * 10 + x.line(1, 2), 0);
        Calls.bounds("sing's n", 0, 5, v -> x.sing(0, v, 0));
        Calls.bounds("sing's ring", 0, 2, v -> x.sing(0, 0, v));
        Calls.numbers("sing's line", 2, v -> x.sing(v, 0, 0));
        Calls.refused("line ahead of n", 'N', () -> x.sing(2, 6, 3));
        Calls.due("changes", x.count(2), 8);
    }

    private static void rows(String what, int... doors) {
        Calls.due(what + ": lines", x.told(2), doors.length);
        for (int i = 0; i < doors.length; i++) {
            Calls.due(what + ": door of line " + i, x.line(i, 0), doors[i]);
            Calls.due(what + ": verses of line " + i, x.line(i, 1), doors[i]);
        }
    }

    private static void swapAndSkip() {
        Says.says(40, "Two lines of the PLAN change places: 1; 0: they are one");
        x = Calls.of("door 7 8 9;door 1 2 3;door 4 4 4;");
        Calls.plan(x, "0 0;1 1;2 2;");
        Calls.due("swap", x.swap(2, 0), 1);
        rows("the first and the last", 2, 1, 0);
        Calls.due("swap", x.swap(1, 2), 1);
        rows("the second and the last", 2, 0, 1);
        Calls.due("one", x.swap(1, 1), 0);
        rows("one", 2, 0, 1);
        Calls.due("which is no change", x.count(2), 2);
        Calls.numbers("swap's line", 3, v -> x.swap(v, v));
        for (int none : new int[] {-1, 3, Integer.MIN_VALUE, Integer.MAX_VALUE}) {
            Calls.refused("swap with " + none, 'N', () -> x.swap(0, none));
            Calls.refused("swap of " + none, 'N', () -> x.swap(none, 0));
        }
        Says.says(41, "A line of the PLAN is left out: how many are left");
        Calls.due("skip", x.skip(1), 2);
        rows("the middle", 2, 1);
        for (int none : new int[] {-1, 2, Integer.MIN_VALUE, Integer.MAX_VALUE}) {
            Calls.refused("skip of " + none, 'N', () -> x.skip(none));
        }
        Calls.due("skip", x.skip(1), 1);
        rows("the last", 2);
        Calls.due("skip", x.skip(0), 0);
        rows("all");
        Calls.refused("none left", 'N', () -> x.skip(0));
        Calls.refused("none left", 'N', () -> x.line(0, 0));
        Calls.due("changes", x.count(2), 5);
        x = Calls.of("door 0 1 1;".repeat(10));
        Calls.plan(x, "0 0;1 1;2 2;3 3;4 4;5 5;9 0;8 0;7 0;6 0;");
        Calls.due("skip of ten", x.skip(9), 9);
        Calls.due("skip of nine", x.skip(0), 8);
        Calls.due("the first is the second", x.line(0, 0), 1);
        Calls.due("undo", x.undo(), 1);
        Calls.due("undo", x.undo(), 0);
        Calls.due("the tenth is back", x.line(9, 0), 6);
        Calls.due("the first is back", x.line(0, 0), 0);
    }

    private static void until() {
        Says.says(42, "UNTIL is another MINUTE (0 to 480): what it was");
        x = Calls.of("");
        Calls.due("until", x.until(480), 120);
        Calls.due("until", x.until(0), 480);
        Calls.due("until the same", x.until(0), 0);
        Calls.due("changes", x.count(2), 3);
        Calls.bounds("until", 0, 480, v -> x.until(v));
        Calls.due("told", x.told(6), 480);
    }

    private static void twenty() {
        Says.says(38, "-1: there are 20 changes");
        x = Calls.of("door 7 8 9;door 1 2 3;");
        Calls.plan(x, "1 0;0 5 last;");
        for (int i = 0; i < 19; i++) {
            Calls.due("change " + i, x.change(0, 1, i), i == 0 ? 8 : i - 1);
        }
        Calls.due("the twentieth", x.change(0, 1, 77), 18);
        Calls.due("the 21st", x.change(0, 1, 78), -1);
        Calls.due("does nothing", x.door(0, 1), 77);
        Says.says(39, "-1: 20 changes");
        Calls.due("sing", x.sing(0, 5, 1), -1);
        Calls.due("does nothing", x.line(0, 1), 0);
        Says.says(40, "-1: 20 changes");
        Calls.due("swap", x.swap(0, 1), -1);
        Calls.due("does nothing", x.line(0, 0), 1);
        Says.says(41, "-1: 20 changes");
        Calls.due("skip", x.skip(0), -1);
        Calls.due("does nothing", x.told(2), 2);
        Says.says(42, "-1: 20 changes");
        Calls.due("until", x.until(3), -1);
        Calls.due("does nothing", x.told(6), 120);
        Calls.due("still 20", x.count(2), 20);
        Calls.refused("change of none", 'N', () -> x.change(2, 1, 1));
        Calls.refused("change to none", 'A', () -> x.change(0, 1, 241));
        Calls.refused("sing of none", 'N', () -> x.sing(2, 1, 1));
        Calls.refused("sing none", 'A', () -> x.sing(0, 6, 1));
        Calls.refused("swap of none", 'N', () -> x.swap(0, 2));
        Calls.refused("skip of none", 'N', () -> x.skip(2));
        Calls.refused("until none", 'A', () -> x.until(481));
        Calls.due("undo", x.undo(), 19);
        Calls.due("room for one: what it was", x.until(3), 120);
        Calls.due("and no more", x.until(4), -1);
        for (int left = 19; left >= 0; left--) {
            Calls.due("undo", x.undo(), left);
        }
        Calls.due("no more", x.undo(), -1);
        Calls.due("pence are back", x.door(0, 1), 8);
        Calls.due("until is back", x.told(6), 120);
    }

    private static void undo() {
        Says.says(43, "The latest change that was not undone is undone: how many are left; -1: there is none.");
        x = Calls.of("door 7 8 9;door 1 2 3;door 2 2 2;");
        Calls.due("none", x.undo(), -1);
        Calls.plan(x, "0 0;1 1;2 2;");
        x.skip(0);
        x.swap(0, 1);
        x.sing(1, 5, 1);
        x.change(1, 9, 30);
        x.until(7);
        Calls.due("undo", x.undo(), 4);
        Calls.due("until", x.told(6), 120);
        Calls.due("pies stay", x.door(1, 9), 30);
        Calls.due("another change", x.until(8), 120);
        Calls.due("undo", x.undo(), 4);
        Calls.due("undo", x.undo(), 3);
        Calls.due("pies", x.door(1, 9), 0);
        Calls.due("the line stays", x.line(1, 1) * 10 + x.line(1, 2), 51);
        Calls.due("undo", x.undo(), 2);
        rows("the swap stays", 2, 1);
        Calls.due("undo", x.undo(), 1);
        rows("the skip stays", 1, 2);
        Calls.due("undo", x.undo(), 0);
        rows("all is back", 0, 1, 2);
        Calls.due("none", x.undo(), -1);
        rows("none does nothing", 0, 1, 2);
        Calls.plan(x, "0 5 first;1 0 last;2 3;");
        x.skip(0);
        x.skip(0);
        x.skip(0);
        for (int left = 2; left >= 0; left--) {
            Calls.due("undo", x.undo(), left);
        }
        int[][] lines = {{0, 5, 1}, {1, 0, 2}, {2, 3, 0}};
        for (int i = 0; i < 3; i++) {
            for (int what = 0; what < 3; what++) {
                Calls.due("line " + i + " " + what, x.line(i, what), lines[i][what]);
            }
        }
        Says.says(43, "(plan() forgets all changes.)");
        x.until(9);
        x.change(0, 1, 5);
        Calls.due("a faulty plan", Calls.plan(x, "0 0;1 6;"), -8);
        Calls.due("forgets none", x.count(2), 2);
        Calls.feed(x, "0 0;");
        Calls.refused("a refused plan", 'A', () -> x.plan(-1));
        Calls.due("forgets none", x.count(2), 2);
        Calls.due("plan", x.plan(0), 0);
        Calls.due("forgets all", x.count(2), 0);
        Calls.due("nothing to undo", x.undo(), -1);
        Calls.due("what was changed stays", x.told(6) * 10 + x.door(0, 1), 95);
        x.until(10);
        Calls.law(x, 0, "1");
        Calls.law(x, 1, "1");
        Calls.book(x, "0=1;");
        Calls.due("others forget none", x.count(2), 1);
    }

    // ---- images and counts ----

    private static void images() {
        Says.says(44, "how many there are; -1: there are 3");
        x = Calls.of("door 7 8 9;");
        Calls.plan(x, "0 1;");
        for (int i = 1; i <= 3; i++) {
            x.until(i);
            Calls.due("image", x.image(), i);
        }
        x.until(4);
        Calls.due("a fourth", x.image(), -1);
        Calls.due("three", x.count(0), 3);
        for (int i = 3; i >= 1; i--) {
            Says.says(45, "All is as in the latest IMAGE, which is gone: how many are left; -1: there is none.");
            Calls.due("restore", x.restore(), i - 1);
            Calls.due("until", x.told(6), i);
            Calls.due("changes", x.count(2), i);
        }
        Calls.due("none", x.restore(), -1);
        Calls.due("which does nothing", x.told(6), 1);
        Calls.due("room again", x.image(), 1);
    }

    private static void restores() {
        Says.says(44, "An IMAGE of DOORS, the PLAN, UNTIL, changes that can be undone");
        x = Calls.of("door 7 8 9;door 1 1 1;singer 5 0;");
        Calls.plan(x, "0 0;1 1;");
        Calls.law(x, 0, "3");
        Calls.law(x, 1, "2-verses");
        Calls.book(x, "0=3;");
        x.change(0, 1, 80);
        Calls.due("image", x.image(), 1);
        x.change(0, 1, 90);
        x.until(9);
        Calls.due("another plan", Calls.plan(x, "1 5 last;"), 1);
        Calls.due("keeps the image", x.count(0), 1);
        Calls.law(x, 0, "4");
        Calls.law(x, 1, "1");
        Calls.book(x, "0=3;0=4;");
        x.change(1, 3, 0);
        Calls.due("a faulty text", Calls.book(x, "0=3;0=4;x"), -9);
        Calls.feed(x, "0=3;");
        Calls.due("restore", x.restore(), 0);
        Calls.due("pence", x.door(0, 1), 80);
        Calls.due("in", x.door(1, 3), 12);
        Calls.due("until", x.told(6), 120);
        rows("the plan", 0, 1);
        Calls.due("changes", x.count(2), 1);
        Calls.due("the law stays", x.gives(0, 0, 0), 4);
        x.change(0, 3, 0);
        x.change(1, 3, 0);
        Calls.due("the other law stays", x.evening(1, 4), 10);
        Calls.due("the book stays", x.told(3), 2);
        Calls.due("the fault stays", x.fault(), 8);
        Calls.due("the tape stays", x.count(1), 20);
        Calls.due("undo", x.undo(), 2);
        Calls.due("undo", x.undo(), 1);
        Calls.due("undo", x.undo(), 0);
        Calls.due("ahead of the image", x.door(0, 1), 8);
        Calls.due("none", x.undo(), -1);
    }

    private static void status() {
        Says.says(46, "How many calls were refused: 0 NoSuchElementException, 1 IllegalArgumentException, 2 IllegalStateException; NONE for others.");
        x = Calls.of("door 0 1 1;".repeat(6));
        for (int none : new int[] {-1, 3, Integer.MIN_VALUE, Integer.MAX_VALUE}) {
            Calls.due("status " + none, x.status(none), -1);
        }
        x.image();
        Calls.refused("N", 'N', () -> x.door(6, 0));
        Calls.refused("S", 'S', () -> x.best(0, 0));
        Calls.refused("A", 'A', () -> x.best(-1, 0));
        Calls.refused("A", 'A', () -> x.village(1));
        Calls.refused("S", 'S', () -> x.bestLong(0));
        Calls.refused("A", 'A', () -> x.span(0, 1, 0, 6));
        Calls.refused("A", 'A', () -> x.right(64));
        counted("refused", 1, 4, 2);
        Says.says(46, "(No IMAGE keeps it.)");
        x.restore();
        counted("behind restore", 1, 4, 2);
        Calls.due("a fault is no refusal", Calls.village(x, "x"), -9);
        Calls.due("none to undo is none", x.undo(), -1);
        Calls.due("no image is none", x.restore(), -1);
        counted("no refusals", 1, 4, 2);
        x.village(0);
        x.plan(0);
        counted("behind village and plan", 1, 4, 2);
        for (int i = 0; i < 31; i++) {
            x.feed(0, 0, 0, 0, 0);
        }
        counted("a full tape is no refusal", 1, 4, 2);
    }

    private static void counted(String what, int noSuch, int unfit, int tooBig) {
        Calls.due(what + ": status 0", x.status(0), noSuch);
        Calls.due(what + ": status 1", x.status(1), unfit);
        Calls.due(what + ": status 2", x.status(2), tooBig);
    }

    private static void counts() {
        Says.says(47, "0 IMAGES, 1 bytes of the TAPE, 2 changes that can be undone; NONE for others.");
        x = Calls.of("door 0 1 1;");
        for (int none : new int[] {-1, 3, Integer.MIN_VALUE, Integer.MAX_VALUE}) {
            Calls.due("count " + none, x.count(none), -1);
        }
        x.image();
        x.image();
        x.until(1);
        x.feed(0, 0, 0, 0, 0);
        x.feed(0, 0, 0, 0, 0);
        x.feed(0, 0, 0, 0, 0);
        Calls.due("images", x.count(0), 2);
        Calls.due("bytes", x.count(1), 60);
        Calls.due("changes", x.count(2), 1);
    }
}
