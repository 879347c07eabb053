/** Sections 2 and 3 (but for evenings) and promises 8 to 34: each sentence that names a boundary. */
public final class BoundsOfAnswersTest {
    private static CarolDoors x;

    public static void main(String[] args) {
        facts();
        steps();
        minutes();
        meanBounds();
        plans();
        sure();
        best();
        bestOfAlike();
        bestBounds();
        lights();
        lines();
        rings();
        pays();
        stops();
        voices();
        parts();
        home();
        solos();
        party();
        gave();
        Calls.end();
    }

    private static void mean(String what, int door, int n, int ring, int kind, long above, long below) {
        Calls.fraction(what, x.mean(door, n, ring, kind, 0), x.mean(door, n, ring, kind, 1), above, below);
    }

    // ---- what was told: promises 8 to 12 ----

    private static void facts() {
        x = Calls.of("door 1 2 3;door 4 5 6;singer 7 1;singer 8 2;solo 1 9;");
        Calls.plan(x, "1 5 last;0 4;");
        Calls.book(x, "0=1;1=2;=3;");
        Says.says(8, "0 DOORS, 1 SINGERS, 2 lines of the PLAN, 3 of the BOOK, 4 the start, 5 minutes of a verse, 6 UNTIL.");
        int[] told = {2, 2, 2, 3, 0, 2, 120};
        for (int what = 0; what < 7; what++) {
            Calls.due("told " + what, x.told(what), told[what]);
        }
        Says.says(8, "IllegalArgumentException: another what (so below)");
        Calls.bounds("told", 0, 6, v -> x.told(v));
        Calls.bounds("door's what", 0, 9, v -> x.door(1, v));
        Calls.bounds("singer's what", 0, 3, v -> x.singer(1, v));
        Calls.bounds("line's what", 0, 3, v -> x.line(1, v));
        Says.says(9, "no such DOOR, SINGER, line (so below, ahead of others)");
        Calls.numbers("door", 2, v -> x.door(v, 0));
        Calls.numbers("singer", 2, v -> x.singer(v, 0));
        Calls.numbers("line", 2, v -> x.line(v, 3));
        Calls.refused("door ahead of what", 'N', () -> x.door(2, 10));
        Calls.refused("singer ahead of what", 'N', () -> x.singer(2, 4));
        Calls.refused("line ahead of what", 'N', () -> x.line(2, 4));
        Says.says(10, "2 the MINUTE of going home (NONE: none), 3 solos");
        Calls.due("never home", x.singer(1, 2), -1);
        Calls.due("solos", x.singer(1, 3), 9);
        Says.says(11, "3 minutes on the street to it");
        Calls.due("from the start", x.line(0, 3), 4);
        Calls.due("back from the other door", x.line(1, 3), 3);
        Says.says(12, "GIVE at a DOOR for so many verses (0 to 60), as the place-th (0 to 9).");
        Calls.law(x, 0, "verses*10+place");
        Calls.due("gives", x.gives(0, 60, 9), 609);
        Calls.due("gives", x.gives(0, 0, 0), 0);
        Calls.bounds("gives by verses", 0, 60, v -> x.gives(0, v, 0));
        Calls.bounds("gives by place", 0, 9, v -> x.gives(0, 0, v));
        Calls.numbers("gives at a door", 2, v -> x.gives(v, 0, 0));
        Calls.refused("door ahead of verses", 'N', () -> x.gives(2, 61, 10));
    }

    // ---- section 2, promises 13 to 16 ----

    private static void steps() {
        Says.says("the ring, if it is first; N verses; the ring, if it is last: each a STEP");
        x = Calls.of("door 0 0 1;in 0 16;hears 0 8;rings 0 4;verse 9;");
        Calls.law(x, 0, "most[1,verses*100]");
        // by the ring 1 of 4 for 1 penny, or behind a verse 1 of 8 for 100
        mean("first", 0, 1, 1, 1, 151, 4);
        mean("last", 0, 1, 2, 1, 125, 2);
        mean("none", 0, 1, 0, 1, 50, 1);
        mean("a ring alone", 0, 0, 1, 1, 1, 4);
        mean("a ring alone", 0, 0, 2, 1, 1, 4);
        Says.says("they come at a STEP by its odds, if they have not yet; if not, nobody comes");
        mean("both", 0, 1, 1, 0, 5, 8);
        mean("nothing", 0, 0, 0, 0, 0, 1);
        mean("five verses", 0, 5, 0, 0, 31, 32);
        x.change(0, 3, 0);
        mean("nobody is in", 0, 5, 1, 0, 0, 1);
        x.change(0, 3, 1);
        mean("1 of 16 is in", 0, 5, 0, 0, 31, 512);
        x.change(0, 4, 16);
        mean("who is in comes at once", 0, 1, 0, 0, 1, 16);
        mean("and but once", 0, 5, 2, 0, 1, 16);
        x.change(0, 3, 16);
        mean("sure", 0, 1, 0, 0, 1, 1);
        Says.says("they give GIVE by verses sung by then, and have J joy");
        mean("one verse", 0, 5, 0, 1, 100, 1);
        x.change(0, 5, 16);
        mean("none ahead of the ring", 0, 5, 1, 1, 1, 1);
        x.change(0, 4, 0);
        mean("all ahead of the ring", 0, 5, 2, 1, 500, 1);
        x.change(0, 2, 99);
        mean("joy", 0, 5, 2, 2, 99, 1);
    }

    private static void minutes() {
        Says.says("Behind the STEP at which they come (none without) one goes on");
        x = Calls.of("door 0 7 1;in 0 16;hears 0 16;rings 0 16;drive 0 20;pies 0 30;verse 9;");
        mean("behind the first verse", 0, 5, 2, 3, 79, 1);
        mean("behind the ring", 0, 5, 1, 3, 71, 1);
        x.change(0, 4, 0);
        mean("the ring behind all verses", 0, 5, 2, 3, 116, 1);
        x.change(0, 3, 0);
        mean("nobody is in: all steps, no pies", 0, 5, 2, 3, 86, 1);
        Says.says("a drive both ways, each STEP done (a verse as told, a ring 1), pies, if they come");
        mean("no step", 0, 0, 0, 3, 40, 1);
        mean("a ring", 0, 0, 1, 3, 41, 1);
        mean("a verse", 0, 1, 0, 3, 49, 1);
        x.change(0, 3, 8);
        mean("half of them have pies", 0, 0, 1, 3, 56, 1);
    }

    private static void meanBounds() {
        Says.says(13, "At a DOOR by N (0 to 5), ring (0 to 2), place 0: on the mean 0 how likely they come");
        x = Calls.of("door 0 8 4;in 0 8;rings 0 8;door 0 1 1;");
        Calls.law(x, 0, "4+place*100");
        mean("place 0", 0, 0, 1, 1, 1, 1);
        Calls.numbers("mean's door", 2, v -> x.mean(v, 0, 0, 0, 0));
        Calls.bounds("mean's n", 0, 5, v -> x.mean(0, v, 0, 0, 0));
        Calls.bounds("mean's ring", 0, 2, v -> x.mean(0, 0, v, 0, 0));
        Calls.bounds("mean's what", 0, 3, v -> x.mean(0, 0, 0, v, 0));
        Calls.bounds("mean's part", 0, 1, v -> x.mean(0, 0, 0, 0, v));
        Calls.refused("door ahead of n", 'N', () -> x.mean(2, 6, 3, 4, 2));
        Says.says(13, "above (part 0), below (part 1), in least terms (so below)");
        mean("1 by 4", 0, 0, 1, 0, 1, 4);
        mean("a whole number is by 1", 0, 0, 1, 2, 1, 1);
        mean("none is 0 by 1", 0, 0, 0, 2, 0, 1);
        x = Calls.of("door 0 1 1;in 0 1;hears 0 1;rings 0 1;");
        long all = 1L << 28;
        mean("the least odds", 0, 5, 2, 0, (1L << 24) - 15L * 15 * 15 * 15 * 15 * 15, all);
        x = Calls.of("door 0 1 1;in 0 1;hears 0 15;rings 0 1;");
        for (int what = 0; what < 3; what++) {
            mean("five good odds and the least", 0, 5, 2, what, (1L << 24) - 15, all);
        }
        x = Calls.of("door 0 240 99;in 0 15;hears 0 15;rings 0 15;");
        Calls.law(x, 0, "999");
        mean("the greatest odds", 0, 5, 1, 1, 999L * 15 * ((1L << 24) - 1), all);
    }

    private static void plans() {
        Says.says("By a PLAN: from the start along the street to each DOOR in order; its mean pence, joy and minutes are sums");
        x = Calls.of("door 10 16 8;door 4 32 4;door 99 8 2;in 0 16;in 1 8;in 2 16;rings 0 8;rings 1 16;rings 2 16;"
                + "drive 1 3;pies 0 4;start 6;verse 5;");
        Calls.plan(x, "1 0 first;0 0 last;");
        Says.says(14, "Of the PLAN, on the mean: 0 DOORS that open, 1 pence, 2 joy, 3 minutes.");
        // 2 on the street, 3, a ring, 3; 6 on the street, a ring, 2 for pies on the mean
        long[] want = {1, 24, 6, 18};
        for (int what = 0; what < 4; what++) {
            Calls.fraction("planned " + what, x.planned(what, 0), x.planned(what, 1), want[what], 1);
        }
        Says.says("LONGEST: all STEPS done at all DOORS, and pies at all");
        Says.says(15, "LONGEST of the PLAN.");
        Calls.due("longest", x.longest(), 20);
        x.sing(0, 5, 1);
        Calls.due("longest by five verses more", x.longest(), 45);
        Calls.fraction("they never come to them", x.planned(3, 0), x.planned(3, 1), 61, 2);
        x.sing(1, 0, 0);
        Calls.due("pies at all, by no step too", x.longest(), 44);
        x.change(0, 8, 20);
        Calls.plan(x, "1 0 first;");
        Calls.fraction("no drive to another door", x.planned(3, 0), x.planned(3, 1), 9, 1);
        Calls.plan(x, "");
        for (int what = 0; what < 4; what++) {
            Calls.fraction("planned nothing", x.planned(what, 0), x.planned(what, 1), 0, 1);
        }
        Calls.due("longest of nothing", x.longest(), 0);
        Calls.bounds("planned's what", 0, 3, v -> x.planned(v, 0));
        Calls.bounds("planned's part", 0, 1, v -> x.planned(0, v));
        // each line's own place
        Calls.law(x, 0, "place*100+8");
        Calls.plan(x, "2 0 first;1 0 first;0 0 first;");
        Calls.fraction("pence by places", x.planned(1, 0), x.planned(1, 1), 8 + 108 / 2 + 208 / 2, 1);
    }

    private static void sure() {
        Says.says(16, "How many lines of the PLAN, from the first on, are over by UNTIL, if all take longest.");
        x = Calls.of("door 5 1 1;door 9 1 1;door 9 1 1;drive 0 2;pies 0 3;start 3;");
        Calls.plan(x, "0 1 first;1 1;2 0;");
        // 2 and 4 and 2 and 1 and 3: 12; 4 and 2: 18; nothing at the third
        int[][] by = {{0, 0}, {11, 0}, {12, 1}, {17, 1}, {18, 3}, {480, 3}};
        for (int[] b : by) {
            x.until(b[0]);
            Calls.due("by " + b[0], x.sure(), b[1]);
        }
        x.until(17);
        x.swap(1, 2);
        // 4 to the second, where nothing is done, fit in
        Calls.due("from the first on", x.sure(), 2);
        x.swap(0, 1);
        x.swap(1, 2);
        // 6 to the third door, then 2 verses' minutes at the second, then 4 and 10 are too long
        Calls.due("a later one that is too long", x.sure(), 2);
        Calls.plan(x, "");
        Calls.due("of none", x.sure(), 0);
    }

    // ---- BEST: promises 17 to 19 ----

    private static void found(String what, int w, long above, long below, int minutes, int... at) {
        Calls.fraction(what + ": best", x.best(w, 0), x.best(w, 1), above, below);
        Calls.due(what + ": bestLong", x.bestLong(w), minutes);
        for (int door = 0; door < at.length; door++) {
            Calls.due(what + ": bestAt " + door, x.bestAt(w, door), at[door]);
        }
    }

    private static void best() {
        Says.says("is no more than UNTIL");
        x = Calls.of("door 7 16 4;in 0 16;hears 0 16;rings 0 8;drive 0 2;pies 0 3;verse 5;until 19;start 7;");
        // 7 and a ring or a verse: 8 or 12
        found("in time", 0, 16, 1, 12, 10);
        x.until(12);
        found("just in time", 0, 16, 1, 12, 10);
        x.until(11);
        found("a ring alone", 0, 8, 1, 8, 1);
        x.until(8);
        found("a ring just in time", 0, 8, 1, 8, 1);
        x.until(7);
        found("nothing in time", 0, 0, 1, 0, -1);
        x.until(0);
        found("no time", 0, 0, 1, 0, -1);
        Says.says("of the most mean pence and w times joy");
        x = Calls.of("door 0 10 0;door 0 1 2;in 0 16;in 1 16;rings 0 16;rings 1 16;hears 0 0;hears 1 0;until 1;");
        found("by pence alone", 0, 10, 1, 1, 1, -1);
        found("by less joy", 4, 10, 1, 1, 1, -1);
        found("by joy", 5, 11, 1, 1, -1, 1);
        found("by most joy", 9, 19, 1, 1, -1, 1);
        Says.says("the shorter way over its DOORS from the start (to the least X first, or to the greatest first)");
        String ways = "door 20 9 0;door 60 9 0;in 0 16;in 1 16;rings 0 16;rings 1 16;hears 0 0;hears 1 0;until 480;";
        int[][] starts = {{39, 19 + 40}, {40, 20 + 40}, {41, 19 + 40}, {0, 60}, {20, 40}, {60, 40}, {99, 79}, {70, 50}, {10, 50}};
        for (int[] start : starts) {
            x = Calls.of(ways + "start " + start[0] + ";");
            found("from " + start[0], 0, 18, 1, start[1] + 2, 1, 1);
            x.until(start[1] + 2);
            found("just from " + start[0], 0, 18, 1, start[1] + 2, 1, 1);
            x.until(start[1] + 1);
            Calls.fraction("but one from " + start[0], x.best(0, 0), x.best(0, 1), 9, 1);
        }
        x = Calls.of("door 60 9 0;door 20 9 0;door 40 9 0;in 0 16;in 1 16;in 2 16;rings 0 16;rings 1 16;rings 2 16;"
                + "start 50;until 480;");
        found("down to the least and up", 0, 27, 1, 10 + 40 + 3, 1, 1, 1);
        Says.says("\"place\" is 0 in it for all");
        x = Calls.of(ways);
        Calls.law(x, 0, "5-place");
        found("place 0", 0, 10, 1, 62, 1, 1);
        Calls.law(x, 0, "place");
        found("place 0", 0, 0, 1, 0, -1, -1);
    }

    private static void bestOfAlike() {
        Says.says("of alike ones the first (DOOR by DOOR: left out ahead of N rising, of one N no ring ahead of first, of last)");
        String sure = "door 0 9 0;door 0 9 0;in 0 16;in 1 16;";
        x = Calls.of(sure + "rings 0 16;rings 1 16;hears 0 16;hears 1 16;verse 1;until 1;");
        found("one of two: the first is left out; no verse is ahead of one", 0, 9, 1, 1, -1, 1);
        x.until(2);
        found("both by a ring", 0, 18, 1, 2, 1, 1);
        x.change(0, 5, 0);
        found("one verse, no ring", 0, 18, 1, 2, 10, 1);
        x = Calls.of("door 0 9 0;in 0 16;rings 0 8;hears 0 8;until 480;verse 1;");
        // five verses and a ring: first or last alike
        found("first ahead of last", 0, 9 * 63, 64, 6, 51);
        x.until(5);
        found("four verses and a ring ahead of five verses", 0, 9 * 31, 32, 5, 41);
        x = Calls.of("door 0 0 0;door 0 9 0;in 0 16;in 1 16;rings 1 16;hears 1 0;");
        found("who gives nothing is left out", 9, 9, 1, 1, -1, 1);
        x.change(1, 3, 0);
        found("all left out", 9, 0, 1, 0, -1, -1);
        x = Calls.of("door 0 4 0;door 0 2 0;door 0 2 0;in 0 16;in 1 16;in 2 16;rings 0 16;rings 1 16;rings 2 16;"
                + "pies 0 1;until 2;");
        found("of one worth the first door is left out", 0, 4, 1, 2, -1, 1, 1);
        x = Calls.of("door 0 2 0;door 0 2 0;door 0 4 0;in 0 16;in 1 16;in 2 16;rings 0 16;rings 1 16;rings 2 16;"
                + "pies 2 1;until 2;");
        found("of one worth the first doors are left out", 0, 4, 1, 2, -1, -1, 1);
        x = Calls.of("door 0 1 0;door 0 2 0;door 0 4 0;in 0 16;in 1 16;in 2 16;rings 0 16;rings 1 16;rings 2 16;until 2;");
        found("the two that give most", 0, 6, 1, 2, -1, 1, 1);
        x = Calls.of("door 0 4 0;door 0 1 0;door 0 2 0;in 0 16;in 1 16;in 2 16;rings 0 16;rings 1 16;rings 2 16;until 2;");
        found("the two that give most", 0, 6, 1, 2, 1, -1, 1);
    }

    private static void bestBounds() {
        Says.says("BEST by w (5 DOORS at most)");
        Says.says(17, "IllegalStateException: more than 5 DOORS (behind others; so below)");
        String door = "door 0 1 0;";
        x = Calls.of(door.repeat(6));
        Calls.refused("best of six", 'S', () -> x.best(0, 0));
        Calls.refused("bestLong of six", 'S', () -> x.bestLong(9));
        Calls.refused("bestAt of six", 'S', () -> x.bestAt(9, 5));
        Calls.refused("w ahead of six", 'A', () -> x.best(10, 0));
        Calls.refused("part ahead of six", 'A', () -> x.best(0, 2));
        Calls.refused("w ahead of six", 'A', () -> x.bestLong(-1));
        Calls.refused("w ahead of six", 'A', () -> x.bestAt(10, 5));
        Calls.refused("door ahead of six", 'N', () -> x.bestAt(10, 6));
        Calls.due("counted", x.status(2), 3);
        x = Calls.of(door.repeat(10));
        Calls.refused("best of ten", 'S', () -> x.best(0, 0));
        x = Calls.of(door.repeat(5) + "in 4 16;rings 4 16;");
        Calls.due("the fifth of five", x.bestAt(0, 4) >= 0, true);
        Says.says(17, "BEST by w (0 to 9): its pence and w times joy.");
        Calls.bounds("best's w", 0, 9, v -> x.best(v, 0));
        Calls.bounds("best's part", 0, 1, v -> x.best(0, v));
        Calls.bounds("bestLong's w", 0, 9, v -> x.bestLong(v));
        Calls.bounds("bestAt's w", 0, 9, v -> x.bestAt(v, 0));
        Calls.numbers("bestAt's door", 5, v -> x.bestAt(0, v));
        Calls.refused("door ahead of w", 'N', () -> x.bestAt(10, 5));
        x = Calls.of("door 0 9 0;in 0 16;rings 0 16;");
        Calls.due("bestAt ahead of all others", x.bestAt(0, 0), 1);
        x.change(0, 5, 0);
        Calls.due("bestAt behind a change", x.bestAt(0, 0), 50);
        x = Calls.of("door 9 9 0;in 0 16;rings 0 16;");
        Calls.due("bestLong ahead of all others", x.bestLong(0), 10);
        x.until(9);
        Calls.due("bestLong behind a change", x.bestLong(0), 0);
        x = Calls.of("door 0 240 0;in 0 16;hears 0 8;rings 0 8;verse 1;until 480;");
        found("many ways", 0, 945, 4, 6, 51);
        x.change(0, 1, 16);
        x.change(0, 4, 16);
        found("few ways behind many", 0, 16, 1, 1, 10);
        x.change(0, 5, 0);
        x.change(0, 4, 0);
        found("no way behind few", 0, 0, 1, 0, -1);
        Says.says("by N and ring; DOORS as they lie");
        x = Calls.of("door 0 64 0;in 0 16;hears 0 8;rings 0 0;until 480;");
        found("five verses at most", 0, 62, 1, 10, 50);
        x = Calls.of("door 0 16 0;in 0 16;hears 0 16;rings 0 8;verse 1;until 1;");
        found("a verse is as long as a ring", 0, 16, 1, 1, 10);
        x = Calls.of("door 0 16 0;in 0 16;hears 0 8;rings 0 16;verse 1;until 1;");
        found("a ring is as long as a verse", 0, 16, 1, 1, 1);
        x = Calls.of("door 0 16 0;in 0 16;hears 0 0;rings 0 16;verse 1;until 2;");
        Calls.law(x, 0, "1+verses");
        found("last is as long as first", 0, 2, 1, 2, 12);
        Calls.law(x, 0, "2-verses");
        found("first alone", 0, 2, 1, 1, 1);
        Says.says(18, "10 times N, and the ring; NONE: left out");
        x = Calls.of("door 0 9 0;door 0 0 0;in 0 8;hears 0 8;rings 0 8;in 1 0;verse 9;until 480;");
        found("all steps", 0, 9 * 63, 128, 46, 51, -1);
        // "verses" counts but by a ring behind them
        Calls.law(x, 0, "least[verses/5,1]*9");
        x.change(0, 4, 0);
        found("last", 0, 9, 4, 46, 52, -1);
        x = new CarolDoors();
        found("no doors", 9, 0, 1, 0);
        Calls.refused("bestAt of none", 'N', () -> x.bestAt(0, 0));
    }

    // ---- lights, verses in vain: promises 20 to 22 ----

    private static void home(int seen, int v, long above, long below) {
        Calls.fraction("home " + seen + " " + v, x.home(0, seen, v, 0), x.home(0, seen, v, 1), above, below);
    }

    private static void another(int seen, int v, long above, long below) {
        Calls.fraction("another " + seen + " " + v, x.another(0, seen, v, 0), x.another(0, seen, v, 1), above, below);
    }

    private static void lights() {
        Says.says("SEEN of a light: 0 dark, 1 lit, 2 not looked at.");
        x = Calls.of("door 0 9 9;in 0 8;hears 0 8;light 0 12 4;door 0 9 9;");
        home(0, 0, 1, 4);
        home(1, 0, 3, 4);
        home(2, 0, 1, 2);
        Says.says("HOME by SEEN and v verses in vain: how likely it is that somebody is in");
        home(2, 1, 1, 3);
        home(1, 1, 3, 5);
        home(0, 2, 1, 13);
        home(2, 10, 1, 1025);
        CarolDoors other = x;
        x = Calls.of("door 0 9 9;in 0 1;hears 0 15;light 0 1 1;");
        home(1, 3, 1, 1 + 15 * 4096);
        home(1, 10, 1, 1 + 15 * (1L << 40));
        x.change(0, 7, 0);
        home(1, 0, 1, 1);
        home(1, 10, 1, 1);
        x.change(0, 7, 1);
        another(1, 10, 15, (1 + 15 * (1L << 40)) * 16);
        x = other;
        Says.says("ANOTHER: how likely it is then that they come by the next verse");
        another(2, 0, 1, 4);
        another(2, 1, 1, 6);
        another(1, 1, 3, 10);
        another(2, 10, 1, 2050);
        x = Calls.of("door 0 9 9;in 0 1;hears 0 1;light 0 1 15;door 0 9 9;");
        // 15 to the 10th, if somebody is in, 15 by 15 of 16 to the 10th, if not: both by 225
        long vain = 2562890625L;
        home(1, 10, vain, vain + (1L << 40));
        another(1, 10, vain, (vain + (1L << 40)) * 16);
        Says.says(20, "0 by 1, if it can't be so");
        x = Calls.of("door 0 9 9;in 0 16;hears 0 16;light 0 16 0;door 0 9 9;");
        home(0, 0, 0, 1);
        home(1, 0, 1, 1);
        home(2, 0, 1, 1);
        home(2, 1, 0, 1);
        home(1, 10, 0, 1);
        another(0, 0, 0, 1);
        another(2, 0, 1, 1);
        another(2, 1, 0, 1);
        x.change(0, 3, 0);
        home(1, 0, 0, 1);
        home(0, 10, 0, 1);
        home(2, 10, 0, 1);
        another(2, 10, 0, 1);
        x.change(0, 3, 15);
        home(2, 0, 15, 16);
        home(2, 1, 0, 1);
        home(0, 0, 0, 1);
        home(1, 0, 1, 1);
        home(1, 1, 0, 1);
        Says.says(20, "HOME: SEEN (0 to 2), v (0 to 10)");
        Calls.numbers("home's door", 2, v -> x.home(v, 0, 0, 0));
        Calls.bounds("home's seen", 0, 2, v -> x.home(0, v, 0, 0));
        Calls.bounds("home's v", 0, 10, v -> x.home(0, 0, v, 0));
        Calls.bounds("home's part", 0, 1, v -> x.home(0, 0, 0, v));
        Calls.refused("door ahead of seen", 'N', () -> x.home(2, 3, 11, 2));
        Says.says(21, "ANOTHER likewise.");
        Calls.numbers("another's door", 2, v -> x.another(v, 0, 0, 0));
        Calls.bounds("another's seen", 0, 2, v -> x.another(0, v, 0, 0));
        Calls.bounds("another's v", 0, 10, v -> x.another(0, 0, v, 0));
        Calls.bounds("another's part", 0, 1, v -> x.another(0, 0, 0, v));
        Calls.refused("door ahead of seen", 'N', () -> x.another(2, 3, 11, 2));
    }

    private static void lines() {
        Says.says("LINE by x: the least v (0 to 10) by which ANOTHER times GIVE (by v and 1 verses, place 0) is less than x.");
        x = Calls.of("door 0 24 9;in 0 8;hears 0 8;door 0 9 9;");
        // 1 by 4, by 6, by 10, by 18 ..: 6, 4, 2.4, 1.3
        int[][] by = {{7, 0}, {6, 1}, {5, 1}, {4, 2}, {3, 2}, {2, 3}, {999, 0}};
        for (int[] b : by) {
            Calls.due("line by " + b[0], x.lineAt(0, 2, b[0]), b[1]);
        }
        Calls.law(x, 0, "if[verses-10,20,999]");
        // at v = 9, the tenth verse, still 999; at 10 20 pence by 1 of 2050
        Calls.due("behind ten in vain", x.lineAt(0, 2, 1), 9);
        Calls.law(x, 0, "verses*90+place*900");
        // 22.5, 30, 27, 20, 13.2 ..
        Calls.due("by v and 1 verses", x.lineAt(0, 2, 23), 0);
        Calls.due("by v and 1 verses", x.lineAt(0, 2, 22), 3);
        Calls.due("by v and 1 verses", x.lineAt(0, 2, 20), 4);
        x.change(0, 3, 16);
        x.change(0, 4, 1);
        Calls.law(x, 0, "if[verses-10,15,16]");
        Calls.due("the tenth in vain alone", x.lineAt(0, 2, 1), 10);
        Calls.law(x, 0, "16");
        Says.says(22, "LINE by x (0 to 999); NONE: by none.");
        Calls.due("by none", x.lineAt(0, 2, 1), -1);
        Calls.due("at once", x.lineAt(0, 2, 2), 0);
        Calls.due("never less than 0", x.lineAt(0, 2, 0), -1);
        x.change(0, 3, 0);
        Calls.due("nobody in", x.lineAt(0, 1, 1), 0);
        Calls.due("nobody in", x.lineAt(0, 1, 0), -1);
        x.change(0, 3, 16);
        x.change(0, 4, 16);
        x.change(0, 6, 16);
        Calls.due("can't be so", x.lineAt(0, 0, 1), 0);
        Calls.due("can't be so", x.lineAt(0, 0, 0), -1);
        Calls.due("can't be so behind one in vain", x.lineAt(0, 1, 1), 1);
        Calls.law(x, 0, "999");
        Calls.due("999 is not less than 999", x.lineAt(0, 1, 999), 1);
        Calls.law(x, 0, "998");
        Calls.due("998 is", x.lineAt(0, 1, 999), 0);
        Calls.numbers("lineAt's door", 2, v -> x.lineAt(v, 0, 0));
        Calls.bounds("lineAt's seen", 0, 2, v -> x.lineAt(0, v, 0));
        Calls.bounds("lineAt's x", 0, 999, v -> x.lineAt(0, 0, v));
        Calls.refused("door ahead of seen", 'N', () -> x.lineAt(2, 3, 1000));
    }

    // ---- rings, on or home: promises 23 to 25 ----

    private static void rings() {
        Says.says("of the most mean pence (place 0), of alike ones the fewest mean minutes, then the least");
        x = Calls.of("door 0 9 9;in 0 16;hears 0 0;rings 0 16;verse 1;door 0 0 0;");
        Calls.due("the one of fewer minutes", x.ring(0, 1), 1);
        Calls.due("of one kind the least", x.ring(0, 0), 1);
        x.change(0, 5, 0);
        Calls.due("a ring in vain costs a minute", x.ring(0, 3), 0);
        Calls.due("no steps", x.ring(0, 0), 0);
        x.change(0, 4, 8);
        x.change(0, 5, 8);
        // a verse is as long and as likely as a ring: alike in all
        Calls.due("alike in pence and minutes", x.ring(0, 1), 1);
        x.change(0, 4, 9);
        Calls.due("the better step first is sooner over", x.ring(0, 1), 2);
        x.change(0, 4, 7);
        Calls.due("the better step first is sooner over", x.ring(0, 1), 1);
        Calls.law(x, 0, "verses*9");
        Calls.due("more pence behind verses", x.ring(0, 1), 2);
        Calls.due("no verses, no pence", x.ring(0, 0), 0);
        Calls.law(x, 0, "10-verses*2");
        Calls.due("more pence ahead of them", x.ring(0, 4), 1);
        Calls.law(x, 0, "if[verses,9,0]");
        x.change(0, 4, 16);
        // a ring ahead takes what the verse would bring
        Calls.due("none: what comes behind is in vain", x.ring(0, 1), 0);
        Calls.law(x, 0, "place");
        Calls.due("place 0: no pence by any", x.ring(0, 1), 0);
        x.change(0, 5, 0);
        for (String law : new String[] {"1-place", "1+place"}) {
            Calls.law(x, 0, law);
            Calls.due("a ring adds nothing", x.ring(0, 1), 0);
        }
        x.change(0, 4, 0);
        x.change(0, 5, 16);
        for (String law : new String[] {"1-place", "1+place"}) {
            Calls.law(x, 0, law);
            Calls.due("the first ring is the sooner", x.ring(0, 1), 1);
        }
        x.change(0, 3, 0);
        Calls.due("nobody in", x.ring(0, 5), 0);
        x = Calls.of("door 0 0 9;in 0 16;hears 0 0;rings 0 16;verse 9;door 0 0 0;");
        Calls.due("no pence: a ring saves a verse's minutes", x.ring(0, 5), 1);
        x.change(0, 9, 30);
        Calls.due("no pence: pies take three verses", x.ring(0, 2), 0);
        Says.says(23, "RING by N (0 to 5).");
        Calls.numbers("ring's door", 2, v -> x.ring(v, 0));
        Calls.bounds("ring's n", 0, 5, v -> x.ring(0, v));
        Calls.refused("door ahead of n", 'N', () -> x.ring(2, 6));
    }

    private static void pays() {
        Says.says("PAYS by x: mean pence are no less than x times mean minutes there (place 0).");
        x = Calls.of("door 50 24 9;in 0 16;hears 0 16;drive 0 1;pies 0 4;verse 2;door 0 0 0;");
        Calls.due("24 for 8 by 3", x.pays(0, 1, 0, 3), true);
        Calls.due("24 for 8 by 4", x.pays(0, 1, 0, 4), false);
        Calls.due("by 0", x.pays(0, 1, 0, 0), true);
        Calls.due("nothing for no minutes", x.pays(1, 0, 0, 99), true);
        Calls.due("nothing for a verse", x.pays(1, 1, 0, 1), false);
        Calls.due("nothing for a verse, by 0", x.pays(1, 1, 0, 0), true);
        x.change(0, 8, 0);
        x.change(0, 9, 0);
        x.change(0, 1, 198);
        Calls.due("198 for 2 by 99", x.pays(0, 1, 0, 99), true);
        x.change(0, 1, 197);
        Calls.due("197 for 2 by 99", x.pays(0, 1, 0, 99), false);
        x.change(0, 3, 8);
        x.change(0, 1, 240);
        x.change(0, 5, 16);
        Calls.due("120 for 1 by 99, by a ring", x.pays(0, 0, 1, 99), true);
        Calls.law(x, 0, "198+place");
        Calls.due("99 for 1 by 99, place 0", x.pays(0, 0, 2, 99), true);
        Calls.law(x, 0, "197+place");
        Calls.due("98.5 for 1 by 99, place 0", x.pays(0, 0, 2, 99), false);
        Says.says(24, "PAYS by N, ring, x (0 to 99).");
        Calls.numbers("pays' door", 2, v -> x.pays(v, 0, 0, 0));
        Calls.bounds("pays' n", 0, 5, v -> x.pays(0, v, 0, 0));
        Calls.bounds("pays' ring", 0, 2, v -> x.pays(0, 0, v, 0));
        Calls.bounds("pays' x", 0, 99, v -> x.pays(0, 0, 0, v));
        Calls.refused("door ahead of n", 'N', () -> x.pays(2, 6, 3, 100));
    }

    private static void stops() {
        Says.says("the first line of the PLAN, from which on the mean pence of all (by their places) are less than x times");
        x = Calls.of("door 6 70 9;door 8 5 0;in 0 16;in 1 16;rings 0 16;rings 1 16;");
        Calls.plan(x, "0 0 first;1 0 first;");
        // 75 for 7 and 3 minutes, then 5 for 3
        int[][] by = {{0, -1}, {1, -1}, {2, 1}, {7, 1}, {8, 0}, {99, 0}};
        for (int[] b : by) {
            Calls.due("stop by " + b[0], x.stop(b[0]), b[1]);
        }
        x.change(1, 1, 6);
        Calls.due("6 for 3 by 2 is no less", x.stop(2), -1);
        Calls.due("6 for 3 by 3", x.stop(3), 1);
        x.change(0, 1, 64);
        Calls.due("70 for 10 by 7", x.stop(7), 1);
        x.change(1, 1, 60);
        x.change(0, 1, 0);
        Calls.due("60 for 10 by 6 is no less", x.stop(6), -1);
        Calls.due("60 for 10 by 7: the first, but not the one behind", x.stop(7), 0);
        Calls.law(x, 0, "place*40");
        Calls.due("40 for 10 by 4, by places", x.stop(4), -1);
        Calls.due("40 for 10 by 5", x.stop(5), 0);
        Says.says(25, "STOP by x (0 to 99); NONE: by none.");
        Calls.bounds("stop's x", 0, 99, v -> x.stop(v));
        Calls.plan(x, "");
        Calls.due("no line", x.stop(99), -1);
        x = Calls.of("door 0 0 0;");
        Calls.plan(x, "0 0;");
        Calls.due("nothing for nothing is no less", x.stop(99), -1);
    }

    // ---- voices: promises 26 to 29 ----

    private static void voices() {
        Says.says("if at each some of the SINGERS who are there (not home yet) sing");
        x = Calls.of("singer 5 0;singer 9 0;home 0 30;home 1 480;");
        Calls.due("both", x.lasts(1, 29), 14);
        Calls.due("one has gone", x.lasts(1, 30), 9);
        Calls.due("one is there", x.lasts(1, 479), 9);
        Calls.due("all have gone", x.lasts(1, 480), 0);
        Calls.due("all have gone, but one must sing", x.lasts(0, 480), 0);
        Says.says("m at least");
        Calls.due("two at once", x.lasts(2, 0), 5);
        Calls.due("three at once", x.lasts(3, 0), 0);
        Calls.due("one of the part without m", x.lasts(0, 0), 14);
        x = Calls.of("singer 4 0;singer 4 0;singer 4 0;");
        Calls.due("two of three", x.lasts(2, 0), 6);
        Calls.due("three of three", x.lasts(3, 0), 4);
        Calls.due("four of three", x.lasts(4, 0), 0);
        x = Calls.of("singer 1 0;singer 1 0;singer 9 0;");
        Calls.due("one may not sing twice at once", x.lasts(2, 0), 2);
        x = Calls.of("singer 3 0;".repeat(8));
        Calls.due("all eight", x.lasts(8, 0), 3);
        Calls.due("seven", x.lasts(7, 0), 3);
        Calls.due("five of eight", x.lasts(5, 0), 4);
        x = Calls.of("singer 1 0;singer 9 1;singer 9 1;");
        Calls.due("one verse", x.lasts(0, 0), 1);
        Calls.due("one verse", x.lasts(3, 0), 1);
        x = Calls.of("singer 9 0;singer 1 1;singer 9 0;");
        Calls.due("one verse", x.lasts(0, 0), 1);
        x = Calls.of("singer 9 0;singer 9 0;singer 1 1;");
        Calls.due("one verse", x.lasts(0, 0), 1);
        Says.says("nobody sings more than V (99 at most; also 99, if nobody need sing)");
        x = Calls.of("singer 98 0;");
        Calls.due("98", x.lasts(1, 0), 98);
        x = Calls.of("singer 99 0;");
        Calls.due("99", x.lasts(1, 0), 99);
        x = Calls.of("singer 99 0;singer 99 0;");
        Calls.due("99 at most", x.lasts(1, 0), 99);
        Calls.due("99 of two", x.lasts(2, 0), 99);
        x = Calls.of("singer 50 0;singer 49 0;singer 0 1;");
        Calls.due("one who can't", x.lasts(0, 0), 0);
        Calls.due("99 by two", x.without(1, 1, 0), 99);
        Calls.due("49 by two at once", x.without(1, 2, 0), 49);
        x = new CarolDoors();
        Calls.due("nobody need sing", x.lasts(0, 480), 99);
        Calls.due("one must", x.lasts(1, 0), 0);
        Calls.due("eight must", x.lasts(8, 0), 0);
        Says.says(26, "LASTS by m (0 to 8) in a MINUTE (0 to 480).");
        Calls.bounds("lasts' m", 0, 8, v -> x.lasts(v, 0));
        Calls.bounds("lasts' minute", 0, 480, v -> x.lasts(0, v));
    }

    private static void parts() {
        Says.says("one at least of each part that one of all SINGERS has");
        x = Calls.of("singer 6 0;singer 4 1;singer 9 3;home 1 60;");
        Calls.due("one of each", x.lasts(0, 59), 4);
        Calls.due("three at once anyway", x.lasts(3, 59), 4);
        Calls.due("four", x.lasts(4, 59), 0);
        Calls.due("a part has gone home", x.lasts(0, 60), 0);
        Calls.due("a part has gone home", x.lasts(1, 60), 0);
        Says.says(27, "LASTS, were a part (0 to 3) needed by nobody.");
        Calls.due("without it", x.without(1, 0, 60), 6);
        Calls.due("without it, two", x.without(1, 2, 60), 6);
        Calls.due("without it, three", x.without(1, 3, 60), 0);
        Calls.due("who is not needed may sing", x.without(1, 3, 0), 4);
        Calls.due("without another", x.without(0, 0, 0), 4);
        Calls.due("without one that none has", x.without(2, 0, 0), 4);
        x = Calls.of("singer 6 2;");
        Calls.due("nobody need sing", x.without(2, 0, 480), 99);
        Calls.due("one need", x.without(2, 1, 480), 6);
        Calls.bounds("without's part", 0, 3, v -> x.without(v, 0, 0));
        Calls.bounds("without's m", 0, 8, v -> x.without(0, v, 0));
        Calls.bounds("without's minute", 0, 480, v -> x.without(0, 0, v));
    }

    private static void home() {
        Says.says(28, "SINGERS who are there in a MINUTE, as bits.");
        x = Calls.of("singer 1 0;".repeat(8) + "home 0 0;home 7 480;home 3 200;");
        int[][] by = {{0, 254}, {199, 254}, {200, 246}, {479, 246}, {480, 118}};
        for (int[] b : by) {
            Calls.due("there " + b[0], x.there(b[0]), b[1]);
        }
        Calls.bounds("there's minute", 0, 480, v -> x.there(v));
        x = Calls.of("singer 1 0;singer 1 0;home 1 5;");
        Calls.due("the first is there", x.there(5), 1);
        Calls.due("both are there", x.there(4), 3);
        Calls.due("of no singers", new CarolDoors().there(0), 0);
        Says.says(29, "The MINUTE from which on a part that one of all SINGERS has is missing (the first); NONE: never.");
        Calls.due("never", x.flat(), -1);
        x = Calls.of("singer 1 0;singer 1 0;singer 1 3;home 0 7;home 1 90;");
        Calls.due("the latest of a part", x.flat(), 90);
        x = Calls.of("singer 1 0;singer 1 0;singer 1 3;home 0 7;home 1 90;home 2 89;");
        Calls.due("the first of two parts", x.flat(), 89);
        x = Calls.of("singer 1 0;singer 1 0;singer 0 3;home 0 90;home 1 7;home 2 91;");
        Calls.due("the first of two parts", x.flat(), 90);
        x = Calls.of("singer 0 2;home 0 480;");
        Calls.due("in the last minute", x.flat(), 480);
        x = Calls.of("singer 0 2;home 0 0;");
        Calls.due("from the beginning", x.flat(), 0);
        x = Calls.of("singer 0 2;singer 9 2;home 0 0;");
        Calls.due("never", x.flat(), -1);
        Calls.due("of no singers", new CarolDoors().flat(), -1);
    }

    // ---- solos, the party, boxes: promises 30 to 34 ----

    private static void solos() {
        Says.says("SOLOS: at as many DOORS of the PLAN as all solos together are (one each)");
        String sure = "in 0 16;in 1 16;in 2 16;rings 0 16;rings 1 16;rings 2 16;";
        x = Calls.of("door 0 1 5;door 0 1 6;door 0 1 7;" + sure + "singer 1 1;singer 1 1;solo 0 1;solo 1 1;");
        Calls.due("no plan", x.solos(), 0);
        Calls.fraction("no joy", x.soloJoy(0), x.soloJoy(1), 0, 1);
        Calls.plan(x, "2 0 first;0 0 first;");
        Says.says(30, "SOLOS: at which DOORS, as bits.");
        Calls.due("at both", x.solos(), 5);
        Calls.plan(x, "2 0 first;0 0 first;1 0 first;");
        Calls.due("at two of three", x.solos(), 6);
        Says.says(31, "SOLOS: joy more.");
        Calls.fraction("joy", x.soloJoy(0), x.soloJoy(1), 13, 1);
        Says.says("of alike ones the least bits");
        x.change(2, 2, 5);
        Calls.due("of two alike", x.solos(), 3);
        x.change(0, 2, 6);
        Calls.due("the best two are first", x.solos(), 3);
        x.change(2, 2, 6);
        Calls.due("three alike", x.solos(), 3);
        Says.says("J times how likely they come there more");
        x.change(1, 3, 8);
        Calls.due("half of it is less", x.solos(), 5);
        x.change(0, 3, 0);
        Calls.due("nobody in", x.solos(), 6);
        Calls.fraction("joy", x.soloJoy(0), x.soloJoy(1), 9, 1);
        x.sing(0, 0, 0);
        Calls.due("one brings 3, two bring nothing: the least bits", x.solos(), 3);
        Calls.fraction("joy", x.soloJoy(0), x.soloJoy(1), 3, 1);
        Calls.bounds("soloJoy's part", 0, 1, v -> x.soloJoy(v));
        Calls.plan(x, "2 0;");
        Calls.due("of the plan alone", x.solos(), 4);
        Calls.fraction("no joy", x.soloJoy(0), x.soloJoy(1), 0, 1);
        Calls.plan(x, "1 0;2 0;");
        Calls.due("of the plan alone", x.solos(), 6);
        x = Calls.of("door 0 1 5;door 0 1 6;door 0 1 7;" + sure + "singer 1 1;solo 0 1;");
        Calls.plan(x, "2 0 first;0 0 first;1 0 first;");
        Calls.fraction("joy, asked ahead of where", x.soloJoy(0), x.soloJoy(1), 7, 1);
        x.skip(0);
        Calls.fraction("joy, asked ahead of where", x.soloJoy(0), x.soloJoy(1), 6, 1);
        x.change(1, 2, 3);
        Calls.plan(x, "1 0 first;");
        Calls.due("no door of an earlier plan", x.solos(), 2);
        Calls.fraction("no door of an earlier plan", x.soloJoy(0), x.soloJoy(1), 3, 1);
        x = Calls.of("door 0 1 5;".repeat(10) + "singer 1 0;solo 0 9;");
        Calls.plan(x, "9 1;8 1;7 1;6 1;5 1;4 1;3 1;2 1;1 1;0 1;");
        Calls.due("nine of ten", x.solos(), 511);
        x = Calls.of("door 0 1 5;".repeat(10) + "singer 1 0;solo 0 9;singer 1 0;solo 1 9;");
        Calls.plan(x, "9 1;8 1;7 1;6 1;5 1;4 1;3 1;2 1;1 1;0 1;");
        Calls.due("eighteen of ten", x.solos(), 1023);
        x = Calls.of("door 0 1 5;singer 1 0;home 0 0;solo 0 1;");
        Calls.plan(x, "0 1;");
        Calls.due("of who goes home too", x.solos(), 1);
        x = Calls.of("door 0 1 5;singer 1 0;");
        Calls.plan(x, "0 1;");
        Calls.due("no solos", x.solos(), 0);
    }

    private static void party() {
        Says.says("take the DOOR that is first or last (by X, of one X by number) of those left");
        x = Calls.of("door 9 10 0;door 3 2 0;door 3 7 0;door 3 1 0;");
        // in the row: 1 (2), 2 (7), 3 (1), 0 (10)
        Calls.due("takes", x.party(1), 0);
        Calls.due("ahead", x.party(0), 10 - 2 + 7 - 1);
        x = Calls.of("door 3 2 0;door 3 100 0;door 3 1 0;");
        Calls.due("of one X by number: behind", x.party(0), 2 - 100 + 1);
        Calls.due("takes", x.party(1), 0);
        Says.says("each wants the most P more than the other one");
        x = Calls.of("door 1 3 0;door 2 100 0;door 3 1 0;door 4 2 0;");
        // by the first the other one comes to the hundred; by the last a penny is left to take, and then the hundred
        Calls.due("the last, though it gives less", x.party(1), 3);
        Calls.due("ahead", x.party(0), 2 - 3 + 100 - 1);
        Says.says(32, "(the first in the row ahead of the last; NONE: there are none)");
        x = Calls.of("door 8 4 0;door 2 4 0;");
        Calls.due("of alike ones the first in the row", x.party(1), 1);
        Calls.due("ahead", x.party(0), 0);
        x = Calls.of("door 8 0 0;".repeat(10));
        Calls.due("of ten alike", x.party(1), 0);
        x = Calls.of("door 8 240 0;");
        Calls.due("one", x.party(1), 0);
        Calls.due("ahead by all", x.party(0), 240);
        x = new CarolDoors();
        Calls.due("none", x.party(1), -1);
        Calls.due("none ahead", x.party(0), 0);
        Calls.bounds("party's what", 0, 1, v -> x.party(v));
        x = Calls.of("door 40 1 0;door 30 2 0;door 20 4 0;door 10 8 0;door 0 16 0;");
        // in the row 16, 8, 4, 2, 1: by turns the greatest that is left
        Calls.due("of five, by X", x.party(1), 4);
        Calls.due("ahead", x.party(0), 16 - 8 + 4 - 2 + 1);
        x = Calls.of("door 40 5 0;door 40 9 0;door 30 1 0;door 0 7 0;door 30 6 0;door 10 0 0;");
        // in the row 3 (7), 5 (0), 2 (1), 4 (6), 0 (5), 1 (9)
        Calls.due("of six, by X and number", x.party(1), 1);
        Calls.due("ahead", x.party(0), 9 - 7 + 5 - 6 + 1 - 0);
        StringBuilder ten = new StringBuilder();
        for (int i = 0; i < 10; i++) {
            ten.append("door ").append(99 - 11 * i).append(i % 2 == 0 ? " 240 0;" : " 0 0;");
        }
        x = Calls.of(ten.toString());
        // in the row 9 (0), 8 (240), ..: who begins can take all that give
        Calls.due("of ten", x.party(1), 0);
        Calls.due("ahead", x.party(0), 1200);
    }

    private static void sets(String what, int sets, int first, int all, int none) {
        int[] want = {sets, first, all, none};
        for (int kind = 0; kind < 4; kind++) {
            Calls.due(what + ": gave " + kind, x.gave(kind), want[kind]);
        }
    }

    private static void gave() {
        Says.says("GAVE: sets of DOORS (each gave all its P in all years, or nothing) by which all the BOOK is right.");
        x = Calls.of("door 0 5 0;door 0 5 0;door 0 0 0;");
        sets("no book", 8, 0, 0, 0);
        Calls.book(x, "0 1=5;");
        sets("one of two", 4, 1, 0, 0);
        Calls.book(x, "0 1=5;0=5;");
        sets("the first", 2, 1, 1, 2);
        Calls.book(x, "0 1=5;0=0;");
        sets("the second", 2, 2, 2, 1);
        Calls.book(x, "0 1=10;");
        sets("both", 2, 3, 3, 0);
        Calls.book(x, "0 1 2=0;");
        sets("neither", 2, 0, 0, 3);
        Says.says(33, "1 the first (least bits; NONE), 2 DOORS in all of them, 3 DOORS in none (bits; 0, if there are no sets)");
        Calls.book(x, "0 1=6;");
        sets("no sets", 0, -1, 0, 0);
        Calls.book(x, "=0;=1;");
        sets("no doors gave a penny", 0, -1, 0, 0);
        Calls.bounds("gave's what", 0, 3, v -> x.gave(v));
        Says.says(34, "How many lines of the BOOK are right, from the first on, if told DOORS (bits) gave.");
        Calls.book(x, "0=5;1=0;0 1=9;0=5;");
        Calls.due("until a wrong one", x.right(1), 2);
        Calls.due("the first is wrong", x.right(2), 0);
        Calls.due("the second is wrong", x.right(3), 1);
        Calls.due("the third door gives nothing", x.right(5), 2);
        Says.says(34, "IllegalArgumentException: bits of no DOORS.");
        Calls.bounds("right's doors", 0, 7, v -> x.right(v));
        x = Calls.of("door 0 1 0;".repeat(10));
        Calls.bounds("right's doors", 0, 1023, v -> x.right(v));
        Calls.due("all sets", x.gave(0), 1024);
        Calls.book(x, "0 1 2 3 4 5 6 7 8 9=10;");
        sets("all ten", 1, 1023, 1023, 0);
        x = new CarolDoors();
        Calls.bounds("right's doors", 0, 0, v -> x.right(v));
        sets("no doors", 1, 0, 0, 0);
    }
}
