import java.util.ArrayDeque;
import java.util.ArrayList;
import java.util.Deque;
import java.util.List;
import java.util.Random;

/** Promises 38 to 45 and 47 by long runs of changes, against whole copies of what stood before. */
public final class ChangesTest {
    private static final int[] MOST = {99, 240, 99, 16, 16, 16, 16, 16, 20, 30};

    /** What an image keeps; back are the states that undo() goes to. */
    private static final class State {
        int[][] doors;
        List<int[]> lines = new ArrayList<>();
        int close = 120;
        List<State> back = new ArrayList<>();

        State copy() {
            State to = new State();
            to.doors = new int[doors.length][];
            for (int d = 0; d < doors.length; d++) {
                to.doors[d] = doors[d].clone();
            }
            for (int[] line : lines) {
                to.lines.add(line.clone());
            }
            to.close = close;
            to.back = new ArrayList<>(back);
            return to;
        }
    }

    private final Random random;
    private final int run;
    private final CarolDoors x = new CarolDoors();
    private State now = new State();
    private final Deque<State> images = new ArrayDeque<>();

    private ChangesTest(int run) {
        this.run = run;
        random = new Random(run * 0x9E3779B97F4A7C15L);
    }

    public static void main(String[] args) {
        for (int run = 0; run < 400; run++) {
            new ChangesTest(run).pass();
        }
        Calls.end();
    }

    private int upTo(int most) {
        return random.nextInt(most + 1);
    }

    private void due(String what, long got, long want) {
        Calls.due("run " + run + ": " + what, got, want);
    }

    private void pass() {
        int doors = 1 + upTo(9);
        StringBuilder text = new StringBuilder();
        now.doors = new int[doors][];
        for (int d = 0; d < doors; d++) {
            now.doors[d] = new int[] {upTo(99), upTo(240), upTo(99), 12, 6, 10, 12, 4, 0, 0};
            text.append("door " + now.doors[d][0] + " " + now.doors[d][1] + " " + now.doors[d][2] + ";");
        }
        due("village", Calls.village(x, text.toString()), doors);
        replan();
        boolean many = upTo(1) == 0;
        for (int i = 0; i < 60; i++) {
            step(many);
            compare();
        }
    }

    private void step(boolean many) {
        int kind = upTo(many ? 12 : 20);
        if (kind < 3) {
            stepChange();
        } else if (kind < 6) {
            stepSing();
        } else if (kind < 8) {
            stepSwap();
        } else if (kind < 9) {
            stepSkip();
        } else if (kind < 11) {
            int minute = upTo(480);
            boolean full = now.back.size() == 20;
            due("until", x.until(minute), full ? -1 : now.close);
            if (!full) {
                keep();
                now.close = minute;
            }
        } else if (kind == 11) {
            stepImages();
        } else if (kind == 12 && upTo(3) == 0) {
            replan();
        } else {
            boolean none = now.back.isEmpty();
            due("undo", x.undo(), none ? -1 : now.back.size() - 1);
            if (!none) {
                now = now.back.get(now.back.size() - 1).copy();
            }
        }
    }

    private void keep() {
        now.back.add(now.copy());
    }

    private void replan() {
        List<Integer> left = new ArrayList<>();
        for (int d = 0; d < now.doors.length; d++) {
            left.add(d);
        }
        StringBuilder text = new StringBuilder();
        String[] rings = {"", "first", "last"};
        now.lines.clear();
        int wanted = upTo(now.doors.length);
        for (int i = 0; i < wanted; i++) {
            int[] line = {left.remove(random.nextInt(left.size())), upTo(5), upTo(2)};
            now.lines.add(line);
            text.append(line[0] + " " + line[1] + rings[line[2]] + ";");
        }
        due("a faulty plan", Calls.plan(x, text + "x"), -9);
        due("changes behind a faulty plan", x.count(2), now.back.size());
        due("plan", Calls.plan(x, text.toString()), wanted);
        now.back.clear();
    }

    private void stepChange() {
        int door = upTo(now.doors.length - 1);
        int what = 1 + upTo(8);
        int v = upTo(MOST[what]);
        boolean full = now.back.size() == 20;
        due("change", x.change(door, what, v), full ? -1 : now.doors[door][what]);
        if (!full) {
            keep();
            now.doors[door][what] = v;
        }
    }

    private void stepSing() {
        if (now.lines.isEmpty()) {
            Calls.refused("sing", 'N', () -> x.sing(0, 0, 0));
            return;
        }
        int line = upTo(now.lines.size() - 1);
        int n = upTo(5);
        int ring = upTo(2);
        boolean full = now.back.size() == 20;
        due("sing", x.sing(line, n, ring), full ? -1 : 1);
        if (!full) {
            keep();
            now.lines.get(line)[1] = n;
            now.lines.get(line)[2] = ring;
        }
    }

    private void stepSwap() {
        if (now.lines.isEmpty()) {
            Calls.refused("swap", 'N', () -> x.swap(0, 0));
            return;
        }
        int line = upTo(now.lines.size() - 1);
        int other = upTo(now.lines.size() - 1);
        boolean full = now.back.size() == 20;
        due("swap", x.swap(line, other), line == other ? 0 : full ? -1 : 1);
        if (!full && line != other) {
            keep();
            int[] first = now.lines.get(line);
            now.lines.set(line, now.lines.get(other));
            now.lines.set(other, first);
        }
    }

    private void stepSkip() {
        if (now.lines.isEmpty()) {
            Calls.refused("skip", 'N', () -> x.skip(0));
            return;
        }
        int line = upTo(now.lines.size() - 1);
        boolean full = now.back.size() == 20;
        due("skip", x.skip(line), full ? -1 : now.lines.size() - 1);
        if (!full) {
            keep();
            now.lines.remove(line);
        }
    }

    private void stepImages() {
        if (upTo(1) == 0) {
            boolean full = images.size() == 3;
            due("image", x.image(), full ? -1 : images.size() + 1);
            if (!full) {
                images.push(now.copy());
            }
        } else {
            boolean none = images.isEmpty();
            due("restore", x.restore(), none ? -1 : images.size() - 1);
            if (!none) {
                now = images.pop();
            }
        }
    }

    private void compare() {
        due("images", x.count(0), images.size());
        due("changes", x.count(2), now.back.size());
        due("lines", x.told(2), now.lines.size());
        due("until told", x.told(6), now.close);
        for (int i = 0; i < now.lines.size(); i++) {
            for (int what = 0; what < 3; what++) {
                due("line " + i + " " + what, x.line(i, what), now.lines.get(i)[what]);
            }
        }
        for (int d = 0; d < now.doors.length; d++) {
            for (int what = 0; what < 10; what++) {
                due("door " + d + " " + what, x.door(d, what), now.doors[d][what]);
            }
        }
    }
}
