/** What all tests use: feeding texts, and counting answers that are not the ones that are due. */
final class Calls {
    static int wrong = 0;
    /** What the answers that come are about, to be printed ahead of a wrong one. */
    static String about = "";

    private Calls() {
    }

    static void feed(CarolDoors x, String text) {
        for (int from = 0; from < text.length(); from += 20) {
            int[] numbers = new int[5];
            for (int i = 0; i < 20; i++) {
                int sign = from + i < text.length() ? text.charAt(from + i) & 255 : 0;
                numbers[i / 4] = numbers[i / 4] << 8 | sign;
            }
            x.feed(numbers[0], numbers[1], numbers[2], numbers[3], numbers[4]);
        }
    }

    static int village(CarolDoors x, String text) {
        feed(x, text);
        return x.village(text.length());
    }

    static int plan(CarolDoors x, String text) {
        feed(x, text);
        return x.plan(text.length());
    }

    static int book(CarolDoors x, String text) {
        feed(x, text);
        return x.book(text.length());
    }

    static int law(CarolDoors x, int which, String text) {
        feed(x, text);
        return x.law(which, text.length());
    }

    static CarolDoors of(String village) {
        CarolDoors x = new CarolDoors();
        if (village(x, village) < 0) {
            wrong++;
            System.out.println("fault " + x.fault() + " in " + village);
        }
        return x;
    }

    static void due(String what, long got, long want) {
        if (got != want) {
            wrong++;
            System.out.println(about + what + " answered " + got + ", due is " + want);
        }
    }

    static void due(String what, boolean got, boolean want) {
        due(what, got ? 1 : 0, want ? 1 : 0);
    }

    static void fraction(String what, long above, long below, long wantAbove, long wantBelow) {
        if (above != wantAbove || below != wantBelow) {
            wrong++;
            System.out.println(about + what + " answered " + above + "/" + below + ", due is " + wantAbove + "/" + wantBelow);
        }
    }

    /** An argument from least to most is answered; one less, one more and the ends of all numbers are refused. */
    static void bounds(String what, int least, int most, java.util.function.IntConsumer call) {
        int[] within = {least, most};
        int[] without = {least - 1, most + 1, Integer.MIN_VALUE, Integer.MAX_VALUE};
        for (int v : within) {
            refused(what + " " + v, '-', () -> call.accept(v));
        }
        for (int v : without) {
            refused(what + " " + v, 'A', () -> call.accept(v));
        }
    }

    /** Likewise of the numbers of doors, singers or lines, of which there are so many. */
    static void numbers(String what, int many, java.util.function.IntConsumer call) {
        int[] without = {-1, many, Integer.MIN_VALUE, Integer.MAX_VALUE};
        for (int v = 0; v < many; v++) {
            int number = v;
            refused(what + " " + v, '-', () -> call.accept(number));
        }
        for (int v : without) {
            refused(what + " " + v, 'N', () -> call.accept(v));
        }
    }

    /** 'N' NoSuchElementException, 'A' IllegalArgumentException, 'S' IllegalStateException, '-' nothing. */
    static void refused(String what, char want, Runnable call) {
        char got = '-';
        try {
            call.run();
        } catch (java.util.NoSuchElementException e) {
            got = 'N';
        } catch (IllegalArgumentException e) {
            got = 'A';
        } catch (IllegalStateException e) {
            got = 'S';
        } catch (RuntimeException e) {
            got = '?';
        }
        if (got != want) {
            wrong++;
            System.out.println(about + what + " was refused by " + got + ", due is " + want);
        }
    }

    static void end() {
        System.out.println(wrong == 0 ? "all answers are as due" : wrong + " answers are not as due");
        if (wrong != 0) {
            System.exit(1);
        }
    }
}
