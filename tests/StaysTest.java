/** What stays and what goes: texts, faults, refusals, changes, images; by all that objects answer. */
public final class StaysTest {
    private static final String LARGE = "door 90 200 90;door 10 100 50;door 30 7 9;door 44 33 22;door 2 9 1;"
            + "in 0 16;in 1 16;in 2 16;in 3 16;in 4 16;rings 0 16;rings 1 15;hears 0 15;hears 4 16;drive 2 4;pies 3 6;"
            + "singer 9 3;singer 8 2;singer 7 1;singer 6 0;singer 90 0;singer 91 1;singer 92 2;singer 93 3;"
            + "home 5 60;home 0 70;solo 0 2;solo 7 1;start 40;verse 1;until 480;";
    private static final String SMALL = "door 20 30 5;in 0 12;singer 5 0;home 0 300;";
    private static final String[] VILLAGES = {"", SMALL, "door 5 5 5;door 1 50 5;singer 3 3;", LARGE,
        "door 0 0 0;door 9 1 1;door 3 3 3;", "door 1 2 3;".repeat(10), "singer 1 0;singer 2 1;solo 1 9;until 7;",
        "door 7 7 7;singer 5 0;singer 9 0;solo 1 3;"};

    public static void main(String[] args) {
        villages();
        plans();
        lawsAndBooks();
        faults();
        refusals();
        nothingDone();
        changes();
        images();
        Calls.end();
    }

    /** A large village with all there is; few calls, so that all can be asked once. */
    private static CarolDoors full() {
        CarolDoors x = Calls.of(LARGE);
        Calls.law(x, 0, "pence-verses+place");
        Calls.law(x, 1, "most[1,told]-verses");
        Calls.plan(x, "0 3 first;1 2 last;4 1;2 5;3 0 first;");
        Calls.book(x, "0 1=200;2 3 4=40;=0;");
        return x;
    }

    private static void villages() {
        Says.says(3, "are the VILLAGE (no LAWS, PLAN, BOOK, IMAGES, nothing to undo)");
        for (String before : VILLAGES) {
            for (String now : VILLAGES) {
                CarolDoors x = before.equals(LARGE) ? full() : Calls.of(before);
                x.until(99);
                x.image();
                // what the searches keep in rows must not come back either
                Calls.refused("best", x.told(0) > 5 ? 'S' : '-', () -> x.best(9, 0));
                x.solos();
                x.party(0);
                x.gave(0);
                Calls.village(x, now);
                CarolDoors y = Calls.of(now);
                plan(x);
                plan(y);
                Answers.alike("'" + now + "' behind '" + before + "'", x, y);
            }
        }
        CarolDoors x = full();
        x.image();
        Calls.village(x, SMALL);
        Answers.alike("without a plan", x, Calls.of(SMALL));
    }

    /** A plan by which the last door is the first. */
    private static void plan(CarolDoors x) {
        StringBuilder text = new StringBuilder();
        for (int door = x.told(0) - 1; door >= 0; door--) {
            text.append(door).append(" 2 last;");
        }
        Calls.plan(x, text.toString());
    }

    private static void plans() {
        Says.says(5, "Likewise the PLAN (n to 150): how many lines.");
        String[] plans = {"", "2 1;", "0 5 last;3 0;", "4 1 first;3 2;2 3;1 4;0 5;", "1 1;4 0 first;2 0 first;"};
        for (String before : plans) {
            for (String now : plans) {
                CarolDoors x = Calls.of(LARGE);
                Calls.plan(x, before);
                x.solos();
                x.change(0, 1, 9);
                x.evening(3, 0);
                Calls.plan(x, now);
                CarolDoors y = Calls.of(LARGE);
                y.change(0, 1, 9);
                Calls.plan(y, now);
                Answers.alike("'" + now + "' behind '" + before + "'", x, y);
            }
        }
    }

    private static void lawsAndBooks() {
        Says.says(4, "Likewise a LAW");
        String[] laws = {"0", "if[place,verses,pence]*2", "verses+pence+joy+place+singers+drive+pies+minute-box+told"};
        for (String before : laws) {
            for (String now : laws) {
                CarolDoors x = full();
                CarolDoors y = full();
                Calls.law(x, 0, before);
                Calls.law(x, 1, before);
                x.evening(8, 0);
                Calls.law(x, 0, now);
                Calls.law(y, 0, now);
                Calls.law(x, 1, now);
                Calls.law(y, 1, now);
                Answers.alike("'" + now + "' behind '" + before + "'", x, y);
            }
        }
        Says.says(6, "Likewise the BOOK");
        CarolDoors x = full();
        CarolDoors y = full();
        x.gave(0);
        Calls.book(x, "0=200;");
        Calls.book(y, "0=200;");
        Answers.alike("a shorter book", x, y);
    }

    private static void faults() {
        Says.says(3, "or the FAULT less 10 (all but the TAPE stays)");
        String[] faulty = {SMALL + "x", SMALL + "in 1 5;", "verse 1;".repeat(60) + "door 1 1 1;", "start 3;verse 9;until 4"};
        for (String text : faulty) {
            CarolDoors x = changed();
            Calls.due("a faulty village", Calls.village(x, text) < 0, true);
            Answers.alike("behind the village '" + text + "'", x, changed());
        }
        Says.says(4, "Likewise a LAW");
        for (String text : new String[] {"", "1+1+1000", "7 7", "((((((((1"}) {
            for (int which = 0; which < 2; which++) {
                CarolDoors x = changed();
                Calls.due("a faulty law", Calls.law(x, which, text) < 0, true);
                Answers.alike("behind the law '" + text + "'", x, changed());
            }
        }
        Says.says(5, "Likewise the PLAN");
        for (String text : new String[] {"3 3 first;2 2;9 9;", "3 3 first;3 2;", "3 3 first;2", "0 0 middle;"}) {
            CarolDoors x = changed();
            Calls.due("a faulty plan", Calls.plan(x, text) < 0, true);
            Answers.alike("behind the plan '" + text + "'", x, changed());
        }
        Says.says(6, "Likewise the BOOK");
        for (String text : new String[] {"0=1;1=2;5=3;", "0=1;=10000;", "0=1;=", "=1;".repeat(9)}) {
            CarolDoors x = changed();
            Calls.due("a faulty book", Calls.book(x, text) < 0, true);
            Answers.alike("behind the book '" + text + "'", x, changed());
        }
    }

    private static CarolDoors changed() {
        CarolDoors x = full();
        x.change(3, 1, 77);
        x.image();
        x.skip(1);
        x.until(300);
        return x;
    }

    private static void refusals() {
        Says.says("Nothing is promised beyond the answers and state changes described above");
        CarolDoors x = changed();
        Calls.feed(x, "door 1 1 1;");
        Calls.refused("village", 'A', () -> x.village(21));
        Calls.refused("law", 'A', () -> x.law(2, 0));
        Calls.refused("plan", 'A', () -> x.plan(-1));
        Calls.refused("book", 'A', () -> x.book(201));
        Calls.refused("change", 'N', () -> x.change(5, 1, 1));
        Calls.refused("change", 'A', () -> x.change(0, 0, 1));
        Calls.refused("change", 'A', () -> x.change(0, 10, 1));
        Calls.refused("change", 'A', () -> x.change(0, 1, 241));
        Calls.refused("sing", 'N', () -> x.sing(4, 1, 1));
        Calls.refused("sing", 'A', () -> x.sing(0, 6, 1));
        Calls.refused("sing", 'A', () -> x.sing(0, 1, 3));
        Calls.refused("swap", 'N', () -> x.swap(0, 4));
        Calls.refused("swap", 'N', () -> x.swap(4, 0));
        Calls.refused("skip", 'N', () -> x.skip(4));
        Calls.refused("until", 'A', () -> x.until(481));
        Calls.due("the tape stays", x.count(1), 20);
        Answers.alike("behind refusals", x, changed());
    }

    private static CarolDoors twenty() {
        CarolDoors x = full();
        for (int i = 0; i < 20; i++) {
            x.change(i % 5, 1 + i % 9, i % 7);
        }
        x.image();
        x.image();
        x.image();
        return x;
    }

    private static void nothingDone() {
        Says.says(38, "-1: there are 20 changes");
        CarolDoors x = twenty();
        Calls.due("change", x.change(0, 1, 1), -1);
        Calls.due("sing", x.sing(0, 0, 0), -1);
        Calls.due("swap", x.swap(0, 1), -1);
        Calls.due("skip", x.skip(0), -1);
        Calls.due("until", x.until(0), -1);
        Says.says(44, "-1: there are 3");
        Calls.due("image", x.image(), -1);
        Answers.alike("behind -1", x, twenty());
        Says.says(40, "0: they are one");
        CarolDoors y = changed();
        Calls.due("swap of one", y.swap(2, 2), 0);
        Answers.alike("behind a swap of one", y, changed());
        Says.says(43, "-1: there is none");
        CarolDoors z = full();
        Calls.due("undo", z.undo(), -1);
        Calls.due("restore", z.restore(), -1);
        Answers.alike("behind -1", z, full());
    }

    private static void change(CarolDoors x, int which) {
        switch (which) {
            case 0: x.change(0, 1, 99); break;
            case 1: x.change(4, 9, 30); break;
            case 2: x.sing(1, 5, 1); break;
            case 3: x.sing(0, 0, 2); break;
            case 4: x.swap(0, 2); break;
            case 5: x.swap(1, 0); break;
            case 6: x.skip(0); break;
            case 7: x.skip(2); break;
            case 8: x.until(5); break;
            default: x.skip(x.told(2) - 1); break;
        }
    }

    private static void changes() {
        Says.says(43, "The latest change that was not undone is undone: how many are left");
        for (int first = 0; first < 10; first++) {
            for (int second = 0; second < 10; second++) {
                CarolDoors x = full();
                change(x, first);
                change(x, second);
                Calls.due("changes", x.count(2), 2);
                Calls.due("undo", x.undo(), 1);
                CarolDoors y = full();
                change(y, first);
                Answers.alike("change " + second + " undone behind " + first, x, y);
                CarolDoors z = full();
                change(z, first);
                change(z, second);
                z.undo();
                Calls.due("undo", z.undo(), 0);
                Answers.alike("both undone: " + first + " and " + second, z, full());
            }
        }
    }

    private static void images() {
        Says.says(45, "All is as in the latest IMAGE, which is gone: how many are left");
        for (int first = 0; first < 10; first++) {
            for (int second = 0; second < 10; second++) {
                CarolDoors x = full();
                change(x, first);
                x.image();
                change(x, second);
                x.undo();
                x.undo();
                x.until(77);
                Calls.plan(x, "3 3;");
                change(x, 8);
                Calls.due("restore", x.restore(), 0);
                CarolDoors y = full();
                change(y, first);
                Answers.alike("change " + first + " is in the image, " + second + " is not", x, y);
            }
        }
        CarolDoors x = twenty();
        for (int i = 0; i < 20; i++) {
            x.undo();
            x.until(i);
        }
        for (int i = 2; i >= 0; i--) {
            Calls.due("restore", x.restore(), i);
        }
        for (int i = 19; i >= 0; i--) {
            Calls.due("a change of the image is undone", x.undo(), i);
        }
        Answers.alike("all twenty undone", x, full());
    }
}
