import java.util.Random;

/** Any calls with any arguments: nothing but the document's exceptions comes, and each is counted. */
public final class FuzzTest {
    private static final String[] WORDS = {
        "door ", "in ", "hears ", "rings ", "light ", "drive ", "pies ", "singer ", "home ", "solo ", "start ",
        "verse ", "until ", "first", "last", "verses", "pence", "joy", "place", "singers", "drive", "pies",
        "minute", "box", "told", "least[", "most[", "if[", "(", ")", "]", ",", ";", ";", ";", "=", "+", "-", "*",
        "/", "0 ", "1 ", "2 ", "3 ", "5 ", "9 ", "16 ", "99 ", "240 ", "480 ", "1000 ", "99999 ", " ", "x",
        "door 3 40 9;", "door 0 5 5;", "door 60 240 99;", "singer 5 1;", "singer 9 2;", "0 1 first;", "1 5;",
        "0 1=45;", "=0;", "verses*3", "least[pence,9]", "\n", "\u00e9"};

    private final Random random;
    private final CarolDoors x = new CarolDoors();
    private final int[] refusals = new int[3];

    private FuzzTest(int run) {
        random = new Random(run * 0x9E3779B97F4A7C15L);
    }

    public static void main(String[] args) {
        for (int run = 0; run < 3000; run++) {
            new FuzzTest(run).pass(run);
        }
        Calls.end();
    }

    private int any() {
        switch (random.nextInt(12)) {
            case 0: return random.nextInt();
            case 1: return -1;
            case 2: return Integer.MAX_VALUE;
            case 3: return Integer.MIN_VALUE;
            case 4: return random.nextInt(500);
            case 5: return random.nextInt(30);
            default: return random.nextInt(7);
        }
    }

    private void pass(int run) {
        for (int i = 0; i < 200; i++) {
            try {
                call(random.nextInt(46));
            } catch (java.util.NoSuchElementException e) {
                refusals[0]++;
            } catch (IllegalArgumentException e) {
                refusals[1]++;
            } catch (IllegalStateException e) {
                refusals[2]++;
            }
            for (int what = 0; what < 3; what++) {
                Calls.due("run " + run + ": status " + what, x.status(what), refusals[what]);
            }
        }
    }

    private int text() {
        StringBuilder text = new StringBuilder();
        int pieces = random.nextInt(12);
        for (int i = 0; i < pieces; i++) {
            text.append(WORDS[random.nextInt(WORDS.length)]);
        }
        Calls.feed(x, text.toString());
        return random.nextInt(6) == 0 ? any() : text.length();
    }

    private void call(int which) {
        switch (which) {
            case 0: x.feed(any(), any(), any(), any(), any()); break;
            case 1: x.village(text()); break;
            case 2: x.law(random.nextInt(3), text()); break;
            case 3: x.plan(text()); break;
            case 4: x.book(text()); break;
            case 5: x.fault(); break;
            case 6: x.told(any()); break;
            case 7: x.door(any(), any()); break;
            case 8: x.singer(any(), any()); break;
            case 9: x.line(any(), any()); break;
            case 10: x.gives(any(), any(), any()); break;
            case 11: x.mean(any(), any(), any(), any(), any()); break;
            case 12: x.planned(any(), any()); break;
            case 13: x.longest(); break;
            case 14: x.sure(); break;
            case 15: x.best(any(), any()); break;
            case 16: x.bestAt(any(), any()); break;
            case 17: x.bestLong(any()); break;
            case 18: x.home(any(), any(), any(), any()); break;
            case 19: x.another(any(), any(), any(), any()); break;
            case 20: x.lineAt(any(), any(), any()); break;
            case 21: x.ring(any(), any()); break;
            case 22: x.pays(any(), any(), any(), any()); break;
            case 23: x.stop(any()); break;
            case 24: x.lasts(any(), any()); break;
            case 25: x.without(any(), any(), any()); break;
            case 26: x.there(any()); break;
            default: callMore(which); break;
        }
    }

    private void callMore(int which) {
        switch (which) {
            case 27: x.flat(); break;
            case 28: x.solos(); break;
            case 29: x.soloJoy(any()); break;
            case 30: x.party(any()); break;
            case 31: x.gave(any()); break;
            case 32: x.right(any()); break;
            case 33: x.evening(any(), any()); break;
            case 34: x.span(any(), any(), any(), any()); break;
            case 35: x.finest(any(), any()); break;
            case 36: x.change(any(), any(), any()); break;
            case 37: x.sing(any(), any(), any()); break;
            case 38: x.swap(any(), any()); break;
            case 39: x.skip(any()); break;
            case 40: x.until(any()); break;
            case 41: x.undo(); break;
            case 42: x.image(); break;
            case 43: x.restore(); break;
            case 44: x.count(any()); break;
            default: Calls.feed(x, "door 3 40 9;door 8 20 2;"); x.village(24); break;
        }
    }
}
