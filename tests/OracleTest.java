import java.math.BigInteger;
import java.util.ArrayList;
import java.util.List;
import java.util.Random;

/** Promises 9 to 37 on many villages, against slow and plain ways to reckon the same. */
public final class OracleTest {
    /** A law's value by its names. */
    private interface Worth {
        int of(int[] named);
    }

    private record Text(String text, Worth worth) {
    }

    private record Part(BigInteger above, BigInteger below) implements Comparable<Part> {
        static Part of(long above, long below) {
            return new Part(BigInteger.valueOf(above), BigInteger.valueOf(below));
        }

        Part plus(Part o) {
            return new Part(above.multiply(o.below).add(o.above.multiply(below)), below.multiply(o.below)).least();
        }

        Part times(Part o) {
            return new Part(above.multiply(o.above), below.multiply(o.below)).least();
        }

        Part times(long n) {
            return times(of(n, 1));
        }

        Part least() {
            BigInteger common = above.gcd(below);
            return new Part(above.divide(common), below.divide(common));
        }

        @Override
        public int compareTo(Part o) {
            return above.multiply(o.below).compareTo(o.above.multiply(below));
        }
    }

    private static final Part ZERO = Part.of(0, 1);
    private static final String[] NAMES =
            {"verses", "pence", "joy", "place", "singers", "drive", "pies", "minute", "box", "told"};

    private final Random random;
    private final int run;
    private int doors;
    private int[][] facts;
    private int singers;
    private int[][] voices;
    private int start;
    private int verse;
    private int close;
    private Text give;
    private Text on;
    private final List<int[]> lines = new ArrayList<>();
    private CarolDoors x;

    private OracleTest(int run) {
        this.run = run;
        // seeds that lie side by side begin alike
        random = new Random(run * 0x9E3779B97F4A7C15L);
    }

    public static void main(String[] args) {
        for (int run = 0; run < 1500; run++) {
            OracleTest test = new OracleTest(run);
            test.make();
            test.checkTold();
            test.checkMeans();
            test.checkPlan();
            test.checkLights();
            test.checkVoices();
            test.checkOthers();
            test.checkEvenings();
        }
        for (int run = 0; run < 400; run++) {
            OracleTest test = new OracleTest(run + 5000);
            test.make();
            test.checkBest(0);
            test.checkBest(test.upTo(9));
        }
        Calls.end();
    }

    private int upTo(int most) {
        return random.nextInt(most + 1);
    }

    private void due(String what, long got, long want) {
        Calls.due("run " + run + ": " + what, got, want);
    }

    private void due(String what, long above, long below, Part want) {
        Part least = want.least();
        Calls.fraction("run " + run + ": " + what, above, below,
                least.above.longValueExact(), least.below.longValueExact());
    }

    private void make() {
        doors = run >= 5360 ? 5 : run >= 5300 ? 4 : run >= 5000 ? upTo(3) : upTo(3) == 0 ? 10 : upTo(6);
        facts = new int[doors][];
        StringBuilder text = new StringBuilder();
        int[] most = {99, 240, 99, 16, 16, 16, 16, 16, 20, 30};
        int[] without = {0, 0, 0, 12, 6, 10, 12, 4, 0, 0};
        String[] words = {"", "", "", "in", "hears", "rings", "light", "", "drive", "pies"};
        boolean alike = upTo(3) == 0;
        for (int d = 0; d < doors; d++) {
            facts[d] = without.clone();
            for (int what = 0; what < 3; what++) {
                facts[d][what] = alike ? upTo(2) * 10 : upTo(most[what]);
            }
            text.append("door " + facts[d][0] + " " + facts[d][1] + " " + facts[d][2] + ";");
        }
        int clauses = doors;
        for (int d = 0; d < doors; d++) {
            for (int what = 3; what < 10 && clauses < 45 && text.length() < 480; what++) {
                if (what != 7 && upTo(2) > 0) {
                    facts[d][what] = upTo(4) == 0 ? most[what] : upTo(most[what]);
                    text.append(words[what] + " " + d + " " + facts[d][what]);
                    if (what == 6) {
                        facts[d][7] = upTo(4) == 0 ? 0 : upTo(16);
                        text.append(" " + facts[d][7]);
                    }
                    text.append(";");
                    clauses++;
                }
            }
        }
        makeRest(text, 55 - clauses);
        x = new CarolDoors();
        Calls.feed(x, text.toString());
        due("village " + text, x.village(text.length()), doors);
        makeLaws();
        makePlan();
    }

    private void makeRest(StringBuilder text, int room) {
        singers = 0;
        voices = new int[8][];
        int wanted = upTo(8);
        int voice = upTo(1) == 0 ? 99 : 6;
        while (singers < wanted && text.length() < 560 && room > 3) {
            voices[singers] = new int[] {upTo(voice), upTo(3), -1, 0};
            text.append("singer " + voices[singers][0] + " " + voices[singers][1] + ";");
            room--;
            if (upTo(2) == 0 && text.length() < 550) {
                voices[singers][2] = upTo(480);
                text.append("home " + singers + " " + voices[singers][2] + ";");
                room--;
            }
            if (upTo(3) == 0 && text.length() < 550) {
                voices[singers][3] = upTo(2);
                text.append("solo " + singers + " " + voices[singers][3] + ";");
                room--;
            }
            singers++;
        }
        start = 0;
        verse = 2;
        close = 120;
        if (text.length() < 565 && upTo(1) == 0) {
            start = upTo(99);
            text.append("start " + start + ";");
        }
        if (text.length() < 575 && upTo(1) == 0) {
            verse = 1 + upTo(8);
            text.append("verse " + verse + ";");
        }
        if (text.length() < 585 && upTo(1) == 0) {
            close = upTo(upTo(1) == 0 ? 480 : 150);
            text.append("until " + close + ";");
        }
    }

    private void makeLaws() {
        for (int which = 0; which < 2; which++) {
            Text law = null;
            if (upTo(1) == 0) {
                law = expression(4);
                while (law.text.length() > 150) {
                    law = expression(3);
                }
                due("law " + law.text, Calls.law(x, which, law.text), 1);
            }
            if (which == 0) {
                give = law;
            } else {
                on = law;
            }
        }
    }

    private Text expression(int depth) {
        int kind = depth == 0 ? upTo(1) : upTo(9);
        if (kind == 0) {
            int n = upTo(1) == 0 ? upTo(5) : upTo(999);
            return new Text("" + n, named -> n);
        }
        if (kind <= 2) {
            int which = upTo(9);
            return new Text(NAMES[which], named -> named[which]);
        }
        Text a = expression(depth - 1);
        Text b = expression(depth - 1);
        Text c = expression(depth - 1);
        switch (kind) {
            case 3: return new Text("least[" + a.text + "," + b.text + "]",
                    named -> Math.min(a.worth.of(named), b.worth.of(named)));
            case 4: return new Text("most [" + a.text + " , " + b.text + " ]",
                    named -> Math.max(a.worth.of(named), b.worth.of(named)));
            case 5: return new Text("if[" + a.text + "," + b.text + "," + c.text + "]",
                    named -> a.worth.of(named) > 0 ? b.worth.of(named) : c.worth.of(named));
            case 6: return new Text("(" + a.text + ")+(" + b.text + ")",
                    named -> a.worth.of(named) + b.worth.of(named));
            case 7: return new Text("(" + a.text + ") - 2 - (" + b.text + ") * 3",
                    named -> a.worth.of(named) - 2 - b.worth.of(named) * 3);
            case 8: return new Text("(" + a.text + ")*(" + b.text + ")",
                    named -> a.worth.of(named) * b.worth.of(named));
            default: return new Text("(" + a.text + ")/(" + b.text + ")/2", named -> {
                int by = b.worth.of(named);
                return (by == 0 ? 0 : a.worth.of(named) / by) / 2;
            });
        }
    }

    private void makePlan() {
        List<Integer> left = new ArrayList<>();
        for (int d = 0; d < doors; d++) {
            left.add(d);
        }
        int wanted = upTo(doors);
        StringBuilder text = new StringBuilder();
        String[] rings = {"", " first", " last"};
        for (int i = 0; i < wanted; i++) {
            int d = left.remove(random.nextInt(left.size()));
            int[] line = {d, upTo(5), upTo(2)};
            lines.add(line);
            text.append(d + " " + line[1] + rings[line[2]] + ";");
        }
        due("plan " + text, Calls.plan(x, text.toString()), wanted);
    }

    private int gift(int door, int verses, int place) {
        if (give == null) {
            return facts[door][1];
        }
        int worth = give.worth.of(named(door, verses, place, 0, 0, 0));
        return Math.max(0, Math.min(999, worth));
    }

    private int[] named(int door, int verses, int place, int minute, int box, int told) {
        int[] f = facts[door];
        return new int[] {verses, f[1], f[2], place, singers, f[8], f[9], minute, box, told};
    }

    private void checkTold() {
        int[] told = {doors, singers, lines.size(), 0, start, verse, close};
        for (int what = 0; what < told.length; what++) {
            due("told " + what, x.told(what), told[what]);
        }
        for (int d = 0; d < doors; d++) {
            for (int what = 0; what < 10; what++) {
                due("door " + d + " " + what, x.door(d, what), facts[d][what]);
            }
        }
        for (int i = 0; i < singers; i++) {
            for (int what = 0; what < 4; what++) {
                due("singer " + i + " " + what, x.singer(i, what), voices[i][what]);
            }
        }
    }

    /** How likely they come, pence, joy, minutes. */
    private Part[] mean(int door, int n, int ring, int place) {
        StringBuilder steps = new StringBuilder("v".repeat(n));
        if (ring > 0) {
            steps.insert(ring == 1 ? 0 : n, 'r');
        }
        Part[] sums = {ZERO, ZERO, ZERO, ZERO};
        Part in = Part.of(facts[door][3], 16);
        walk(sums, door, steps.toString(), 0, 0, 0, in, true, place);
        walk(sums, door, steps.toString(), 0, 0, 0, Part.of(16 - facts[door][3], 16), false, place);
        return sums;
    }

    private void walk(Part[] sums, int door, String steps, int at, int verses, int minutes,
            Part likely, boolean in, int place) {
        if (at == steps.length()) {
            sums[3] = sums[3].plus(likely.times(minutes + 2 * facts[door][8]));
            return;
        }
        boolean rings = steps.charAt(at) == 'r';
        int nowVerses = verses + (rings ? 0 : 1);
        int nowMinutes = minutes + (rings ? 1 : verse);
        int odds = in ? facts[door][rings ? 5 : 4] : 0;
        Part comes = likely.times(Part.of(odds, 16));
        sums[0] = sums[0].plus(comes);
        sums[1] = sums[1].plus(comes.times(gift(door, nowVerses, place)));
        sums[2] = sums[2].plus(comes.times(facts[door][2]));
        sums[3] = sums[3].plus(comes.times(nowMinutes + 2 * facts[door][8] + facts[door][9]));
        walk(sums, door, steps, at + 1, nowVerses, nowMinutes, likely.times(Part.of(16 - odds, 16)), in, place);
    }

    private void checkMeans() {
        for (int d = 0; d < doors; d++) {
            int n = upTo(5);
            Part[][] by = new Part[3][];
            for (int ring = 0; ring < 3; ring++) {
                by[ring] = mean(d, n, ring, 0);
                for (int what = 0; what < 4; what++) {
                    due("mean " + d + " " + n + " " + ring + " " + what, x.mean(d, n, ring, what, 0),
                            x.mean(d, n, ring, what, 1), by[ring][what]);
                }
                int at = upTo(9);
                boolean pays = by[ring][1].compareTo(by[ring][3].times(at)) >= 0;
                due("pays " + d + " " + n + " " + ring + " " + at, x.pays(d, n, ring, at) ? 1 : 0, pays ? 1 : 0);
            }
            int best = 0;
            for (int ring = 1; ring < 3; ring++) {
                int more = by[ring][1].compareTo(by[best][1]);
                if (more > 0 || more == 0 && by[ring][3].compareTo(by[best][3]) < 0) {
                    best = ring;
                }
            }
            due("ring " + d + " " + n, x.ring(d, n), best);
            int verses = upTo(60);
            int place = upTo(9);
            due("gives " + d + " " + verses + " " + place, x.gives(d, verses, place), gift(d, verses, place));
        }
    }

    private int way(int line) {
        int from = line == 0 ? start : facts[lines.get(line - 1)[0]][0];
        return Math.abs(facts[lines.get(line)[0]][0] - from);
    }

    private void checkPlan() {
        Part[] sums = {ZERO, ZERO, ZERO, ZERO};
        int longest = 0;
        int sure = 0;
        int stop = -1;
        int at = upTo(20);
        for (int i = lines.size() - 1; i >= 0; i--) {
            int[] line = lines.get(i);
            Part[] mean = mean(line[0], line[1], line[2], i);
            for (int what = 0; what < 4; what++) {
                sums[what] = sums[what].plus(mean[what]);
            }
            sums[3] = sums[3].plus(Part.of(way(i), 1));
            stop = sums[1].compareTo(sums[3].times(at)) < 0 ? i : stop;
        }
        for (int i = 0; i < lines.size(); i++) {
            int[] line = lines.get(i);
            for (int what = 0; what < 3; what++) {
                due("line " + i + " " + what, x.line(i, what), line[what]);
            }
            due("line " + i + " 3", x.line(i, 3), way(i));
            longest += way(i) + longestAt(line[0], line[1], line[2]);
            sure += longest <= close ? 1 : 0;
        }
        for (int what = 0; what < 4; what++) {
            due("planned " + what, x.planned(what, 0), x.planned(what, 1), sums[what]);
        }
        due("longest", x.longest(), longest);
        due("sure", x.sure(), sure);
        due("stop " + at, x.stop(at), stop);
    }

    private int longestAt(int door, int n, int ring) {
        return 2 * facts[door][8] + n * verse + (ring > 0 ? 1 : 0) + facts[door][9];
    }

    private void checkLights() {
        for (int d = 0; d < doors; d++) {
            int[] f = facts[d];
            for (int seen = 0; seen < 3; seen++) {
                int worthIt = upTo(1) == 0 ? upTo(20) : upTo(999);
                int line = -1;
                for (int v = 10; v >= 0; v--) {
                    Part in = seen(seen, f[6]).times(Part.of(f[3], 16));
                    for (int i = 0; i < v; i++) {
                        in = in.times(Part.of(16 - f[4], 16));
                    }
                    Part all = in.plus(seen(seen, f[7]).times(Part.of(16 - f[3], 16)));
                    Part home = all.compareTo(ZERO) == 0 ? ZERO : in.times(new Part(all.below, all.above));
                    Part another = home.times(Part.of(f[4], 16));
                    due("home " + d + " " + seen + " " + v, x.home(d, seen, v, 0), x.home(d, seen, v, 1), home);
                    due("another " + d + " " + seen + " " + v, x.another(d, seen, v, 0),
                            x.another(d, seen, v, 1), another);
                    line = another.times(gift(d, v + 1, 0)).compareTo(Part.of(worthIt, 1)) < 0 ? v : line;
                }
                due("lineAt " + d + " " + seen + " " + worthIt, x.lineAt(d, seen, worthIt), line);
            }
        }
    }

    private static Part seen(int seen, int lit) {
        return Part.of(seen == 0 ? 16 - lit : seen == 1 ? lit : 16, 16);
    }

    private void checkVoices() {
        int minute = upTo(480);
        int bits = 0;
        for (int i = 0; i < singers; i++) {
            bits |= voices[i][2] == -1 || voices[i][2] > minute ? 1 << i : 0;
        }
        due("there " + minute, x.there(minute), bits);
        int flat = -1;
        for (int t = 480; t >= 0; t--) {
            int had = 0;
            int have = 0;
            for (int i = 0; i < singers; i++) {
                had |= 1 << voices[i][1];
                have |= voices[i][2] == -1 || voices[i][2] > t ? 1 << voices[i][1] : 0;
            }
            flat = had != have ? t : flat;
        }
        due("flat", x.flat(), flat);
        int sum = 0;
        for (int i = 0; i < singers; i++) {
            sum += voices[i][0];
        }
        if (sum <= 14 && singers <= 5) {
            for (int m = 0; m <= 4; m++) {
                for (int spared = -1; spared < 4; spared++) {
                    int want = lasting(m, bits, spared);
                    int got = spared < 0 ? x.lasts(m, minute) : x.without(spared, m, minute);
                    due("lasts " + m + " " + minute + " " + spared, got, want);
                }
            }
        }
    }

    private int lasting(int m, int there, int spared) {
        int needed = 0;
        for (int i = 0; i < singers; i++) {
            needed |= voices[i][1] == spared ? 0 : 1 << voices[i][1];
        }
        if (m == 0 && needed == 0) {
            return 99;
        }
        int[] left = new int[singers];
        for (int i = 0; i < singers; i++) {
            left[i] = (there >> i & 1) * voices[i][0];
        }
        return longest(left, m, needed, new java.util.HashMap<>());
    }

    private int longest(int[] left, int m, int needed, java.util.HashMap<String, Integer> known) {
        String key = java.util.Arrays.toString(left);
        Integer before = known.get(key);
        if (before != null) {
            return before;
        }
        int best = 0;
        for (int set = 1; set < 1 << left.length; set++) {
            int parts = 0;
            boolean can = Integer.bitCount(set) >= m;
            for (int i = 0; i < left.length; i++) {
                if ((set >> i & 1) != 0) {
                    can &= left[i] > 0;
                    parts |= 1 << voices[i][1];
                }
            }
            if (can && (parts & needed) == needed) {
                int[] then = left.clone();
                for (int i = 0; i < left.length; i++) {
                    then[i] -= set >> i & 1;
                }
                best = Math.max(best, 1 + longest(then, m, needed, known));
            }
        }
        known.put(key, best);
        return best;
    }

    private void checkOthers() {
        checkSolos();
        checkParty();
        checkGave();
    }

    private void checkSolos() {
        int solos = 0;
        for (int i = 0; i < singers; i++) {
            solos += voices[i][3];
        }
        solos = Math.min(solos, lines.size());
        Part best = null;
        int bestBits = 0;
        Part[] worths = new Part[doors];
        int inPlan = 0;
        for (int i = 0; i < lines.size(); i++) {
            int[] line = lines.get(i);
            worths[line[0]] = mean(line[0], line[1], line[2], i)[2];
            inPlan |= 1 << line[0];
        }
        for (int bits = 0; bits < 1 << doors; bits++) {
            if ((bits & ~inPlan) == 0 && Integer.bitCount(bits) == solos) {
                Part sum = ZERO;
                for (int d = 0; d < doors; d++) {
                    sum = (bits >> d & 1) != 0 ? sum.plus(worths[d]) : sum;
                }
                if (best == null || sum.compareTo(best) > 0) {
                    best = sum;
                    bestBits = bits;
                }
            }
        }
        due("solos", x.solos(), bestBits);
        due("soloJoy", x.soloJoy(0), x.soloJoy(1), best);
    }

    private void checkParty() {
        List<Integer> row = new ArrayList<>();
        for (int d = 0; d < doors; d++) {
            row.add(d);
        }
        row.sort((a, b) -> facts[a][0] != facts[b][0] ? facts[a][0] - facts[b][0] : a - b);
        due("party 0", x.party(0), ahead(row, 0, doors - 1));
        int takes = -1;
        if (doors > 0) {
            int byFirst = facts[row.get(0)][1] - ahead(row, 1, doors - 1);
            int byLast = facts[row.get(doors - 1)][1] - ahead(row, 0, doors - 2);
            takes = byLast > byFirst ? row.get(doors - 1) : row.get(0);
        }
        due("party 1", x.party(1), takes);
    }

    private int ahead(List<Integer> row, int from, int to) {
        if (from > to) {
            return 0;
        }
        return Math.max(facts[row.get(from)][1] - ahead(row, from + 1, to),
                facts[row.get(to)][1] - ahead(row, from, to - 1));
    }

    private void checkGave() {
        int givers = upTo((1 << doors) - 1);
        int years = upTo(4);
        int[] bits = new int[years];
        int[] sums = new int[years];
        StringBuilder text = new StringBuilder();
        for (int i = 0; i < years; i++) {
            bits[i] = upTo((1 << doors) - 1);
            for (int d = 0; d < doors; d++) {
                if ((bits[i] >> d & 1) != 0) {
                    text.append(d + " ");
                    sums[i] += (givers >> d & 1) * facts[d][1];
                }
            }
            sums[i] += upTo(9) == 0 ? 1 : 0;
            text.append("=" + sums[i] + ";");
        }
        due("book " + text, Calls.book(x, text.toString()), years);
        int[] want = {0, -1, (1 << doors) - 1, (1 << doors) - 1};
        for (int set = 0; set < 1 << doors; set++) {
            int right = 0;
            for (int i = 0; i < years && right == i; i++) {
                int sum = 0;
                for (int d = 0; d < doors; d++) {
                    sum += ((set & bits[i]) >> d & 1) * facts[d][1];
                }
                right += sum == sums[i] ? 1 : 0;
            }
            if (set == givers) {
                due("right " + set, x.right(set), right);
            }
            if (right == years) {
                want[1] = want[0] == 0 ? set : want[1];
                want[0]++;
                want[2] &= set;
                want[3] &= ~set;
            }
        }
        for (int what = 0; what < 4; what++) {
            due("gave " + what, x.gave(what), want[0] == 0 && what > 1 ? 0 : want[what]);
        }
    }

    private int[] evening(int seed) {
        int[] is = new int[7];
        int[] seedNow = {seed};
        for (int i = 0; i < lines.size(); i++) {
            int[] line = lines.get(i);
            int[] f = facts[line[0]];
            if (is[2] + way(i) > close) {
                break;
            }
            is[6]++;
            is[2] += way(i) + f[8];
            boolean in = draw(seedNow) < f[3];
            boolean open = false;
            int sung = 0;
            if (line[2] == 1) {
                is[5]++;
                is[2]++;
                open = in && draw(seedNow) < f[5];
            }
            while (!open && sung < 5 && (on == null ? sung < line[1]
                    : on.worth.of(named(line[0], sung, i, is[2], is[0], line[1])) > 0)) {
                sung++;
                is[4]++;
                is[2] += verse;
                open = in && draw(seedNow) < f[4];
            }
            if (!open && line[2] == 2) {
                is[5]++;
                is[2]++;
                open = in && draw(seedNow) < f[5];
            }
            if (open) {
                is[0] += gift(line[0], sung, i);
                is[1] += f[2];
                is[2] += f[9];
                is[3] |= 1 << line[0];
            }
            is[2] += f[8];
        }
        return is;
    }

    private static int draw(int[] seed) {
        long next = (seed[0] * 1103515245L + 12345L) & 0xffffffffL;
        seed[0] = (int) next;
        return (int) ((next >> 16) % 32768 % 16);
    }

    private void checkEvenings() {
        int seed = upTo(3) == 0 ? Integer.MAX_VALUE - 3 : random.nextInt();
        int many = 1 + upTo(39);
        int least = Integer.MAX_VALUE;
        int most = 0;
        int all = 0;
        int joy = -1;
        int finest = seed;
        int[] opens = new int[doors];
        for (int i = 0; i < many; i++) {
            int[] is = evening(seed + i);
            for (int what = 0; what < 7 && i < 3; what++) {
                due("evening " + (seed + i) + " " + what, x.evening(seed + i, what), is[what]);
            }
            least = Math.min(least, is[0]);
            most = Math.max(most, is[0]);
            all += is[0];
            if (is[1] > joy) {
                joy = is[1];
                finest = seed + i;
            }
            for (int d = 0; d < doors; d++) {
                opens[d] += is[3] >> d & 1;
            }
        }
        due("finest", x.finest(seed, many), finest);
        if (doors > 0) {
            due("span least", x.span(seed, many, 0, 0), least);
            due("span most", x.span(seed, many, 1, 0), most);
            due("span all", x.span(seed, many, 2, doors - 1), all);
            for (int d = 0; d < doors; d++) {
                due("span opens " + d, x.span(seed, many, 3, d), opens[d]);
            }
        }
    }

    /** All plans there are, worths as whole numbers: 2 to the power of 28 is divided by all that they are by. */
    private void checkBest(int w) {
        long[][] worth = new long[doors][19];
        for (int d = 0; d < doors; d++) {
            for (int code = 1; code < 19; code++) {
                Part[] mean = mean(d, (code - 1) / 3, (code - 1) % 3, 0);
                Part sum = mean[1].plus(mean[2].times(w));
                worth[d][code] = sum.above.longValueExact() * ((1L << 28) / sum.below.longValueExact());
            }
        }
        long best = -1;
        int[] chosen = new int[doors];
        int[] found = null;
        int longest = 0;
        int all = (int) Math.pow(19, doors);
        for (int plan = 0; plan < all; plan++) {
            int rest = plan;
            long sum = 0;
            for (int d = doors - 1; d >= 0; d--) {
                chosen[d] = rest % 19;
                sum += worth[d][chosen[d]];
                rest /= 19;
            }
            if (sum > best) {
                int minutes = lengthOf(chosen);
                if (minutes <= close) {
                    best = sum;
                    found = chosen.clone();
                    longest = minutes;
                }
            }
        }
        due("best " + w, x.best(w, 0), x.best(w, 1), Part.of(best, 1L << 28));
        due("bestLong " + w, x.bestLong(w), longest);
        for (int d = 0; d < doors; d++) {
            int want = found[d] == 0 ? -1 : (found[d] - 1) / 3 * 10 + (found[d] - 1) % 3;
            due("bestAt " + w + " " + d, x.bestAt(w, d), want);
        }
    }

    private int lengthOf(int[] chosen) {
        int minutes = 0;
        int least = 1000;
        int most = -1;
        for (int d = 0; d < doors; d++) {
            if (chosen[d] > 0) {
                minutes += longestAt(d, (chosen[d] - 1) / 3, (chosen[d] - 1) % 3);
                least = Math.min(least, facts[d][0]);
                most = Math.max(most, facts[d][0]);
            }
        }
        if (most < 0) {
            return 0;
        }
        return minutes + Math.min(Math.abs(start - least) + most - least, Math.abs(start - most) + most - least);
    }
}
