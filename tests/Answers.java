import java.util.ArrayList;
import java.util.List;
import java.util.function.LongSupplier;

/** All that an object answers by calls that change nothing: two objects alike answer the same. */
final class Answers {
    private final List<String> answers = new ArrayList<>();
    private final CarolDoors x;

    private Answers(CarolDoors x) {
        this.x = x;
    }

    /** Some 380 calls, so that an object can be asked once. */
    static List<String> of(CarolDoors x) {
        Answers all = new Answers(x);
        all.told();
        all.doors();
        all.plan();
        all.singers();
        all.others();
        return all.answers;
    }

    /** Whether two objects answer the same; the first call by which they differ is told. */
    static void alike(String what, CarolDoors got, CarolDoors want) {
        List<String> gotAll = of(got);
        List<String> wantAll = of(want);
        for (int i = 0; i < gotAll.size() && i < wantAll.size(); i++) {
            if (!gotAll.get(i).equals(wantAll.get(i))) {
                Calls.wrong++;
                System.out.println(Calls.about + what + ": " + gotAll.get(i) + ", due is " + wantAll.get(i));
                return;
            }
        }
        Calls.due(what + ": answers", gotAll.size(), wantAll.size());
    }

    private void ask(String call, LongSupplier asked) {
        String answer;
        try {
            answer = "" + asked.getAsLong();
        } catch (RuntimeException e) {
            answer = e.getClass().getSimpleName();
        }
        answers.add(call + " = " + answer);
    }

    private void told() {
        for (int i = 0; i < 7; i++) {
            int what = i;
            ask("told " + i, () -> x.told(what));
        }
        ask("images", () -> x.count(0));
        ask("changes", () -> x.count(2));
    }

    private void doors() {
        int doors = x.told(0);
        for (int d = 0; d <= doors; d++) {
            int door = d;
            for (int i = 0; i < (d < doors ? 10 : 1); i++) {
                int what = i;
                ask("door " + d + " " + i, () -> x.door(door, what));
            }
            ask("gives " + d, () -> x.gives(door, 7, 3));
            ask("mean 1 of " + d, () -> x.mean(door, 3, 2, 1, 0));
            ask("mean 3 of " + d, () -> x.mean(door, 2, 1, 3, 0));
            ask("another of " + d, () -> x.another(door, 1, 2, 0));
            ask("line of " + d, () -> x.lineAt(door, 0, 4));
            ask("ring of " + d, () -> x.ring(door, 2));
            ask("bestAt of " + d, () -> x.bestAt(1, door));
        }
        ask("best 0", () -> x.best(0, 0));
        ask("best 9", () -> x.best(9, 0));
        ask("bestLong 1", () -> x.bestLong(1));
    }

    private void plan() {
        int lines = x.told(2);
        for (int i = 0; i <= lines; i++) {
            int line = i;
            for (int k = 0; k < (i < lines ? 4 : 1); k++) {
                int what = k;
                ask("line " + i + " " + k, () -> x.line(line, what));
            }
        }
        for (int i = 0; i < 4; i++) {
            int what = i;
            ask("planned " + i, () -> x.planned(what, 0));
            ask("gave " + i, () -> x.gave(what));
        }
        ask("longest", x::longest);
        ask("sure", x::sure);
        ask("stop 0", () -> x.stop(0));
        ask("stop 1", () -> x.stop(1));
        ask("stop 9", () -> x.stop(9));
        ask("right 0", () -> x.right(0));
        ask("right 1", () -> x.right(1));
    }

    private void singers() {
        int singers = x.told(1);
        for (int i = 0; i <= singers; i++) {
            int singer = i;
            for (int k = 0; k < (i < singers ? 4 : 1); k++) {
                int what = k;
                ask("singer " + i + " " + k, () -> x.singer(singer, what));
            }
        }
        for (int m = 0; m < 4; m++) {
            int many = m;
            ask("lasts " + m, () -> x.lasts(many, 100));
            ask("without " + m, () -> x.without(many, 1, 0));
        }
        ask("there 0", () -> x.there(0));
        ask("there 100", () -> x.there(100));
        ask("flat", x::flat);
    }

    private void others() {
        ask("joy of solos", () -> x.soloJoy(0));
        ask("solos", x::solos);
        ask("party 0", () -> x.party(0));
        ask("party 1", () -> x.party(1));
        for (int i = 0; i < 7; i++) {
            int what = i;
            ask("evening 1 " + i, () -> x.evening(1, what));
            ask("evening -9 " + i, () -> x.evening(-9, what));
        }
        ask("span 2", () -> x.span(5, 40, 2, 0));
        ask("finest", () -> x.finest(5, 40));
    }
}
