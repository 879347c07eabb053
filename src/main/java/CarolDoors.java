import java.util.NoSuchElementException;

/** From door to door with carols: what a village, its laws, plans, books and evenings come to. */
public final class CarolDoors {
    public static final int NONE = -1;

    private static final int TAPE = 600;
    private static final int CLAUSES = 60;
    private static final int LAW_BYTES = 150;
    private static final int PLAN_BYTES = 150;
    private static final int BOOK_BYTES = 200;
    private static final int DOORS = 10;
    private static final int SINGERS = 8;
    private static final int PARTS = 4;
    private static final int LINES = 10;
    private static final int YEARS = 8;
    private static final int CHANGES = 20;
    private static final int IMAGES = 3;
    private static final int BEST_DOORS = 5;
    private static final int OPEN_AT_ONCE = 6;
    private static final int VERSES = 5;
    private static final int VAIN = 10;
    private static final int LAST_MINUTE = 480;
    private static final int SEEDS = 40;
    private static final int SUNG_AT_MOST = 99;

    // what is told of a door, in the numbers of door()
    private static final int FACTS = 10;
    private static final int STREET = 0;
    private static final int PENCE = 1;
    private static final int JOY = 2;
    private static final int IN = 3;
    private static final int HEARS = 4;
    private static final int RINGS = 5;
    private static final int LIT_IN = 6;
    private static final int LIT_OUT = 7;
    private static final int DRIVE = 8;
    private static final int PIES = 9;
    private static final int[] FACT_MOST = {99, 240, 99, 16, 16, 16, 16, 16, 20, 30};

    // what is told of a line of the plan, in the numbers of line()
    private static final int LINE_FACTS = 3;
    private static final int LINE_DOOR = 0;
    private static final int LINE_VERSES = 1;
    private static final int LINE_RING = 2;
    private static final int RING_FIRST = 1;
    private static final int RING_LAST = 2;

    private static final int CANNOT_STAND = 1;
    private static final int NO_SUCH_NUMBER = 2;
    private static final int TOO_MANY = 3;

    // a ring and five verses divide by 16 six times, and who is in divides once
    private static final long WHOLE = 1L << 28;

    private final Tape tape;
    private final Round round;
    private final Round[] images;
    private final Choir choir;
    private final Law give;
    private final Law on;
    private final Book years;
    private final Reader reader;
    private final LawReader lawReader;
    private final Visit visit;
    private final Tour tour;
    private final Search search;
    private final Evening night;
    private int imageCount;
    private int noSuch;
    private int unfit;
    private int tooBig;

    public CarolDoors() {
        tape = new Tape();
        round = new Round();
        images = new Round[IMAGES];
        for (int i = 0; i < images.length; i++) {
            images[i] = new Round();
        }
        choir = new Choir();
        give = new Law();
        on = new Law();
        years = new Book();
        reader = new Reader(tape);
        lawReader = new LawReader(tape);
        visit = new Visit(round, choir, give);
        tour = new Tour(round, choir, visit);
        search = new Search(round, visit);
        night = new Evening(round, visit, on);
    }

    // ---- texts ----

    public int feed(int a, int b, int c, int d, int e) {
        if (!tape.hasRoom()) {
            return NONE;
        }
        tape.put(a);
        tape.put(b);
        tape.put(c);
        tape.put(d);
        tape.put(e);
        return tape.held;
    }

    public int village(int n) throws IllegalArgumentException {
        needText(n, TAPE);
        tape.begin(n);
        if (!reader.readsVillage()) {
            return tape.kind - 10;
        }
        round.copy(reader.round);
        choir.copy(reader.choir);
        give.clear();
        on.clear();
        years.clear();
        imageCount = 0;
        return round.doorCount;
    }

    public int law(int which, int n) throws IllegalArgumentException {
        need(within(which, 0, 1));
        needText(n, LAW_BYTES);
        tape.begin(n);
        if (!lawReader.reads()) {
            return tape.kind - 10;
        }
        Law told = which == 0 ? give : on;
        told.copy(lawReader.law);
        return 1;
    }

    public int plan(int n) throws IllegalArgumentException {
        needText(n, PLAN_BYTES);
        tape.begin(n);
        reader.round.copy(round);
        if (!reader.readsPlan()) {
            return tape.kind - 10;
        }
        round.copy(reader.round);
        return round.lineCount;
    }

    public int book(int n) throws IllegalArgumentException {
        needText(n, BOOK_BYTES);
        tape.begin(n);
        if (!reader.readsBook(round.doorCount)) {
            return tape.kind - 10;
        }
        years.copy(reader.book);
        return years.lineCount;
    }

    public int fault() {
        return tape.place;
    }

    // ---- what was told ----

    public int told(int what) throws IllegalArgumentException {
        switch (what) {
            case 0: return round.doorCount;
            case 1: return choir.singerCount;
            case 2: return round.lineCount;
            case 3: return years.lineCount;
            case 4: return round.start;
            case 5: return round.verse;
            default: break;
        }
        need(what == 6);
        return round.close;
    }

    public int door(int door, int what) throws NoSuchElementException, IllegalArgumentException {
        needDoor(door);
        need(within(what, 0, FACTS - 1));
        return round.of(door, what);
    }

    public int singer(int singer, int what) throws NoSuchElementException, IllegalArgumentException {
        needFound(within(singer, 0, choir.singerCount - 1));
        need(within(what, 0, 3));
        return choir.of(singer, what);
    }

    public int line(int line, int what) throws NoSuchElementException, IllegalArgumentException {
        needLine(line);
        need(within(what, 0, 3));
        return what == 3 ? round.way(line) : round.ofLine(line, what);
    }

    // ---- means ----

    public int gives(int door, int verses, int place) throws NoSuchElementException, IllegalArgumentException {
        needDoor(door);
        need(within(verses, 0, 60) && within(place, 0, LINES - 1));
        return visit.gift(door, verses, place);
    }

    public long mean(int door, int n, int ring, int what, int part)
            throws NoSuchElementException, IllegalArgumentException {
        needDoor(door);
        need(within(n, 0, VERSES) && within(ring, 0, RING_LAST));
        need(within(what, 0, 3) && within(part, 0, 1));
        visit.reckon(door, n, ring, 0);
        return leastTerms(visit.timesWhole(what), WHOLE, part);
    }

    public long planned(int what, int part) throws IllegalArgumentException {
        need(within(what, 0, 3) && within(part, 0, 1));
        tour.reckon(0);
        return leastTerms(tour.timesWhole(what), WHOLE, part);
    }

    public int longest() {
        return tour.allMinutes();
    }

    public int sure() {
        return tour.linesInTime();
    }

    // ---- the best plan ----

    public long best(int w, int part) throws IllegalArgumentException, IllegalStateException {
        need(within(w, 0, 9) && within(part, 0, 1));
        needFewDoors();
        search.seek(w);
        return leastTerms(search.foundValue, WHOLE, part);
    }

    public int bestAt(int w, int door)
            throws NoSuchElementException, IllegalArgumentException, IllegalStateException {
        needDoor(door);
        need(within(w, 0, 9));
        needFewDoors();
        search.seek(w);
        return search.foundAt(door);
    }

    public int bestLong(int w) throws IllegalArgumentException, IllegalStateException {
        need(within(w, 0, 9));
        needFewDoors();
        search.seek(w);
        return search.foundLength;
    }

    // ---- lights, verses in vain, rings ----

    public long home(int door, int seen, int v, int part)
            throws NoSuchElementException, IllegalArgumentException {
        needDoor(door);
        need(within(seen, 0, 2) && within(v, 0, VAIN) && within(part, 0, 1));
        return leastTerms(visit.inAndVain(door, seen, v), visit.allVain(door, seen, v), part);
    }

    public long another(int door, int seen, int v, int part)
            throws NoSuchElementException, IllegalArgumentException {
        needDoor(door);
        need(within(seen, 0, 2) && within(v, 0, VAIN) && within(part, 0, 1));
        long above = visit.inAndVain(door, seen, v) * round.of(door, HEARS);
        return leastTerms(above, visit.allVain(door, seen, v) * 16, part);
    }

    public int lineAt(int door, int seen, int x) throws NoSuchElementException, IllegalArgumentException {
        needDoor(door);
        need(within(seen, 0, 2) && within(x, 0, 999));
        for (int v = 0; v <= VAIN; v++) {
            if (visit.bringsLess(door, seen, v, x)) {
                return v;
            }
        }
        return NONE;
    }

    public int ring(int door, int n) throws NoSuchElementException, IllegalArgumentException {
        needDoor(door);
        need(within(n, 0, VERSES));
        int best = 0;
        visit.reckon(door, n, 0, 0);
        long pence = visit.pence;
        long minutes = visit.minutes;
        for (int ring = 1; ring <= RING_LAST; ring++) {
            visit.reckon(door, n, ring, 0);
            if (visit.pence > pence || visit.pence == pence && visit.minutes < minutes) {
                best = ring;
                pence = visit.pence;
                minutes = visit.minutes;
            }
        }
        return best;
    }

    public boolean pays(int door, int n, int ring, int x)
            throws NoSuchElementException, IllegalArgumentException {
        needDoor(door);
        need(within(n, 0, VERSES) && within(ring, 0, RING_LAST) && within(x, 0, 99));
        visit.reckon(door, n, ring, 0);
        return visit.pence >= x * visit.minutes;
    }

    public int stop(int x) throws IllegalArgumentException {
        need(within(x, 0, 99));
        for (int line = 0; line < round.lineCount; line++) {
            tour.reckon(line);
            if (tour.pence < x * tour.minutes) {
                return line;
            }
        }
        return NONE;
    }

    // ---- voices ----

    public int lasts(int m, int minute) throws IllegalArgumentException {
        need(within(m, 0, SINGERS) && within(minute, 0, LAST_MINUTE));
        return choir.mostVerses(m, minute, NONE);
    }

    public int without(int part, int m, int minute) throws IllegalArgumentException {
        need(within(part, 0, PARTS - 1));
        need(within(m, 0, SINGERS) && within(minute, 0, LAST_MINUTE));
        return choir.mostVerses(m, minute, part);
    }

    public int there(int minute) throws IllegalArgumentException {
        need(within(minute, 0, LAST_MINUTE));
        return choir.notHome(minute);
    }

    public int flat() {
        return choir.firstMissing();
    }

    public int solos() {
        tour.chooseSolos();
        return tour.soloDoors;
    }

    public long soloJoy(int part) throws IllegalArgumentException {
        need(within(part, 0, 1));
        tour.chooseSolos();
        return leastTerms(tour.soloWorth, WHOLE, part);
    }

    // ---- the other party, boxes of years ----

    public int party(int what) throws IllegalArgumentException {
        need(within(what, 0, 1));
        tour.playParty();
        return what == 0 ? tour.partyAhead : tour.partyDoor;
    }

    public int gave(int what) throws IllegalArgumentException {
        need(within(what, 0, 3));
        years.findSets(round);
        switch (what) {
            case 0: return years.sets;
            case 1: return years.firstSet;
            case 2: return years.inAll;
            default: return years.inNone;
        }
    }

    public int right(int doors) throws IllegalArgumentException {
        need(within(doors, 0, round.allDoors()));
        return years.rightLines(round, doors);
    }

    // ---- evenings ----

    public int evening(int seed, int what) throws IllegalArgumentException {
        need(within(what, 0, 6));
        night.pass(seed);
        switch (what) {
            case 0: return night.box;
            case 1: return night.joy;
            case 2: return night.minute;
            case 3: return night.opened;
            case 4: return night.verses;
            case 5: return night.rings;
            default: return night.lines;
        }
    }

    public int span(int seed, int many, int what, int door) throws IllegalArgumentException {
        need(within(many, 1, SEEDS) && within(what, 0, 3) && within(door, 0, round.doorCount - 1));
        int least = 0;
        int most = 0;
        int all = 0;
        int opens = 0;
        for (int i = 0; i < many; i++) {
            night.pass(seed + i);
            least = i == 0 || night.box < least ? night.box : least;
            most = i == 0 || night.box > most ? night.box : most;
            all += night.box;
            opens += night.opened >> door & 1;
        }
        switch (what) {
            case 0: return least;
            case 1: return most;
            case 2: return all;
            default: return opens;
        }
    }

    public int finest(int seed, int many) throws IllegalArgumentException {
        need(within(many, 1, SEEDS));
        int finest = seed;
        int joy = NONE;
        for (int i = 0; i < many; i++) {
            night.pass(seed + i);
            if (night.joy > joy) {
                joy = night.joy;
                finest = seed + i;
            }
        }
        return finest;
    }

    // ---- changes ----

    public int change(int door, int what, int v) throws NoSuchElementException, IllegalArgumentException {
        needDoor(door);
        need(within(what, 1, FACTS - 1));
        need(within(v, 0, mostOf(what)));
        if (round.isFull()) {
            return NONE;
        }
        int was = round.of(door, what);
        round.note(Round.OF_DOOR, door, what, was, 0);
        round.setDoor(door, what, v);
        return was;
    }

    public int sing(int line, int n, int ring) throws NoSuchElementException, IllegalArgumentException {
        needLine(line);
        need(within(n, 0, VERSES) && within(ring, 0, RING_LAST));
        if (round.isFull()) {
            return NONE;
        }
        round.note(Round.OF_LINE, line, round.ofLine(line, LINE_VERSES), round.ofLine(line, LINE_RING), 0);
        round.setLine(line, round.ofLine(line, LINE_DOOR), n, ring);
        return 1;
    }

    public int swap(int line, int other) throws NoSuchElementException {
        needLine(line);
        needLine(other);
        if (line == other) {
            return 0;
        }
        if (round.isFull()) {
            return NONE;
        }
        round.note(Round.OF_PLACES, line, other, 0, 0);
        round.exchange(line, other);
        return 1;
    }

    public int skip(int line) throws NoSuchElementException {
        needLine(line);
        if (round.isFull()) {
            return NONE;
        }
        round.note(Round.OF_SKIP, line, round.ofLine(line, LINE_DOOR),
                round.ofLine(line, LINE_VERSES), round.ofLine(line, LINE_RING));
        round.takeOut(line);
        return round.lineCount;
    }

    public int until(int minute) throws IllegalArgumentException {
        need(within(minute, 0, LAST_MINUTE));
        if (round.isFull()) {
            return NONE;
        }
        int was = round.close;
        round.note(Round.OF_CLOSE, was, 0, 0, 0);
        round.close = minute;
        return was;
    }

    public int undo() {
        if (round.changeCount < 1) {
            return NONE;
        }
        round.takeBack();
        return round.changeCount;
    }

    public int image() {
        Round free = imageAt(imageCount);
        if (free == null) {
            return NONE;
        }
        free.copy(round);
        imageCount++;
        return imageCount;
    }

    public int restore() {
        Round latest = imageAt(imageCount - 1);
        if (latest == null) {
            return NONE;
        }
        imageCount--;
        round.copy(latest);
        return imageCount;
    }

    public int status(int what) {
        switch (what) {
            case 0: return noSuch;
            case 1: return unfit;
            case 2: return tooBig;
            default: return NONE;
        }
    }

    public int count(int what) {
        switch (what) {
            case 0: return imageCount;
            case 1: return tape.held;
            case 2: return round.changeCount;
            default: return NONE;
        }
    }

    private Round imageAt(int index) {
        return index >= 0 && index < images.length ? images[index] : null;
    }

    // ---- refusals ----

    private void needFound(boolean found) {
        if (!found) {
            noSuch++;
            throw new NoSuchElementException("there is no such door, singer or line");
        }
    }

    private void needDoor(int door) {
        needFound(within(door, 0, round.doorCount - 1));
    }

    private void needLine(int line) {
        needFound(within(line, 0, round.lineCount - 1));
    }

    private void need(boolean fits) {
        if (!fits) {
            unfit++;
            throw new IllegalArgumentException("an argument is not within its bounds");
        }
    }

    private void needText(int n, int most) {
        need(within(n, 0, most) && n <= tape.held);
    }

    private void needFewDoors() {
        if (round.doorCount > BEST_DOORS) {
            tooBig++;
            throw new IllegalStateException("the best plan is for five doors at most");
        }
    }

    // ---- small helps ----

    private static boolean within(int v, int least, int most) {
        return v >= least && v <= most;
    }

    private static int mostOf(int fact) {
        return fact >= 0 && fact < FACT_MOST.length ? FACT_MOST[fact] : 0;
    }

    private static int apart(int a, int b) {
        return a > b ? a - b : b - a;
    }

    /** The upper (0) or lower (1) part of a fraction in least terms; 0 by 1 where nothing can be. */
    private static long leastTerms(long above, long below, int part) {
        if (above == 0 || below == 0) {
            return part;
        }
        long common = commonDivisor(above, below);
        if (common == 0) {
            return part;
        }
        return part == 0 ? above / common : below / common;
    }

    private static long commonDivisor(long a, long b) {
        // Euclid needs fewer than 100 rounds for any two numbers of 63 bits
        for (int i = 0; i < 100 && b != 0; i++) {
            long rest = a % b;
            a = b;
            b = rest;
        }
        return a;
    }

    /** The bytes that came, and how far the text that they are has been read. */
    private static final class Tape {
        private static final int END = -1;
        private static final int TOO_GREAT = 100000;

        private final byte[] bytes = new byte[TAPE];
        private int held;
        private int end;
        private int at;
        private int from;
        private int kind;
        private int place = NONE;

        boolean hasRoom() {
            return held + 20 <= bytes.length;
        }

        void put(int number) {
            for (int shift = 24; shift >= 0; shift -= 8) {
                if (held >= 0 && held < bytes.length) {
                    bytes[held] = (byte) (number >> shift);
                    held++;
                }
            }
        }

        /** The first n bytes are a text now, and the tape is empty for what comes. */
        void begin(int n) {
            end = n;
            at = 0;
            kind = 0;
            place = NONE;
            held = 0;
        }

        boolean isFaulty() {
            return kind != 0;
        }

        void fail(int faultKind, int faultPlace) {
            if (kind == 0) {
                kind = faultKind;
                place = faultPlace;
            }
        }

        private int byteAt(int index) {
            return index >= 0 && index < end && index < bytes.length ? bytes[index] & 255 : END;
        }

        /** The next sign behind blanks, which stays to be read. */
        int look() {
            for (int i = 0; i < TAPE && byteAt(at) == ' '; i++) {
                at++;
            }
            return byteAt(at);
        }

        void step() {
            if (at < end) {
                at++;
            }
        }

        boolean isOver() {
            return look() == END;
        }

        boolean isDigit() {
            int c = look();
            return c >= '0' && c <= '9';
        }

        boolean isLetter() {
            int c = look();
            return c >= 'a' && c <= 'z';
        }

        void sign(int wanted) {
            if (look() == wanted) {
                at++;
            } else {
                fail(CANNOT_STAND, at);
            }
        }

        /** What is no number, or behind a fault, counts 0. */
        int number(int least, int most) {
            int c = look();
            from = at;
            int value = 0;
            for (int i = 0; i < TAPE && c >= '0' && c <= '9'; i++) {
                value = value * 10 + c - '0';
                value = value > TOO_GREAT ? TOO_GREAT : value;
                at++;
                c = byteAt(at);
            }
            if (at == from) {
                fail(CANNOT_STAND, from);
            }
            if (value < least || value > most) {
                fail(NO_SUCH_NUMBER, from);
            }
            return kind == 0 ? value : 0;
        }

        /** Which of the listed words comes; NONE, with the fault told, if it is none of them. */
        int word(String list) {
            int c = look();
            from = at;
            for (int i = 0; i < TAPE && c >= 'a' && c <= 'z'; i++) {
                at++;
                c = byteAt(at);
            }
            int which = at == from ? NONE : indexIn(list);
            if (which == NONE) {
                fail(CANNOT_STAND, from);
            }
            return which;
        }

        private int indexIn(String list) {
            int index = 0;
            int first = 0;
            int length = list.length();
            for (int i = 0; i <= length; i++) {
                if (i == length || list.charAt(i) == ' ') {
                    if (isWord(list, first, i)) {
                        return index;
                    }
                    index++;
                    first = i + 1;
                }
            }
            return NONE;
        }

        private boolean isWord(String list, int first, int behind) {
            if (behind - first != at - from) {
                return false;
            }
            for (int i = first; i < behind && i < list.length(); i++) {
                if (list.charAt(i) != byteAt(from + i - first)) {
                    return false;
                }
            }
            return true;
        }
    }

    /** Doors, plan, closing time and changes: all that an image keeps. */
    private static final class Round {
        private static final int OF_DOOR = 0;
        private static final int OF_LINE = 1;
        private static final int OF_PLACES = 2;
        private static final int OF_SKIP = 3;
        private static final int OF_CLOSE = 4;
        private static final int NOTED = 5;

        private final int[] doors = new int[DOORS * FACTS];
        private final int[] lines = new int[LINES * LINE_FACTS];
        private final int[] changes = new int[CHANGES * NOTED];
        private int doorCount;
        private int lineCount;
        private int changeCount;
        private int start;
        private int verse = 2;
        private int close = 120;

        void clear() {
            doorCount = 0;
            lineCount = 0;
            changeCount = 0;
            start = 0;
            verse = 2;
            close = 120;
        }

        void copy(Round other) {
            System.arraycopy(other.doors, 0, doors, 0, DOORS * FACTS);
            System.arraycopy(other.lines, 0, lines, 0, LINES * LINE_FACTS);
            System.arraycopy(other.changes, 0, changes, 0, CHANGES * NOTED);
            doorCount = other.doorCount;
            lineCount = other.lineCount;
            changeCount = other.changeCount;
            start = other.start;
            verse = other.verse;
            close = other.close;
        }

        int allDoors() {
            return (1 << doorCount) - 1;
        }

        int of(int door, int fact) {
            int at = door * FACTS + fact;
            return at >= 0 && at < doors.length ? doors[at] : 0;
        }

        void setDoor(int door, int fact, int value) {
            int at = door * FACTS + fact;
            if (at >= 0 && at < doors.length) {
                doors[at] = value;
            }
        }

        void addDoor(int street, int pence, int joy) {
            int door = doorCount;
            setDoor(door, STREET, street);
            setDoor(door, PENCE, pence);
            setDoor(door, JOY, joy);
            setDoor(door, IN, 12);
            setDoor(door, HEARS, 6);
            setDoor(door, RINGS, 10);
            setDoor(door, LIT_IN, 12);
            setDoor(door, LIT_OUT, 4);
            setDoor(door, DRIVE, 0);
            setDoor(door, PIES, 0);
            doorCount++;
        }

        int ofLine(int line, int fact) {
            int at = line * LINE_FACTS + fact;
            return at >= 0 && at < lines.length ? lines[at] : 0;
        }

        void setLine(int line, int door, int verses, int ring) {
            if (within(line, 0, LINES - 1)) {
                lines[line * LINE_FACTS + LINE_DOOR] = door;
                lines[line * LINE_FACTS + LINE_VERSES] = verses;
                lines[line * LINE_FACTS + LINE_RING] = ring;
            }
        }

        boolean hasLineAt(int door) {
            for (int line = 0; line < lineCount; line++) {
                if (ofLine(line, LINE_DOOR) == door) {
                    return true;
                }
            }
            return false;
        }

        int way(int line) {
            int from = line == 0 ? start : of(ofLine(line - 1, LINE_DOOR), STREET);
            return apart(of(ofLine(line, LINE_DOOR), STREET), from);
        }

        int longestAt(int door, int verses, int ring) {
            return 2 * of(door, DRIVE) + verses * verse + (ring == 0 ? 0 : 1) + of(door, PIES);
        }

        boolean isFull() {
            return changeCount >= CHANGES;
        }

        void note(int kind, int a, int b, int c, int d) {
            if (within(changeCount, 0, CHANGES - 1)) {
                int from = changeCount * NOTED;
                changes[from] = kind;
                changes[from + 1] = a;
                changes[from + 2] = b;
                changes[from + 3] = c;
                changes[from + 4] = d;
                changeCount++;
            }
        }

        void exchange(int line, int other) {
            int door = ofLine(line, LINE_DOOR);
            int verses = ofLine(line, LINE_VERSES);
            int ring = ofLine(line, LINE_RING);
            copyLine(other, line);
            setLine(other, door, verses, ring);
        }

        private void copyLine(int from, int to) {
            setLine(to, ofLine(from, LINE_DOOR), ofLine(from, LINE_VERSES), ofLine(from, LINE_RING));
        }

        void takeOut(int line) {
            for (int i = line; i < lineCount - 1; i++) {
                copyLine(i + 1, i);
            }
            lineCount--;
        }

        private void putIn(int line, int door, int verses, int ring) {
            for (int i = lineCount; i > line; i--) {
                copyLine(i - 1, i);
            }
            setLine(line, door, verses, ring);
            lineCount++;
        }

        void takeBack() {
            if (!within(changeCount, 1, CHANGES)) {
                return;
            }
            changeCount--;
            int from = changeCount * NOTED;
            int a = changes[from + 1];
            int b = changes[from + 2];
            int c = changes[from + 3];
            switch (changes[from]) {
                case OF_DOOR:
                    setDoor(a, b, c);
                    break;
                case OF_LINE:
                    setLine(a, ofLine(a, LINE_DOOR), b, c);
                    break;
                case OF_PLACES:
                    exchange(a, b);
                    break;
                case OF_SKIP:
                    putIn(a, b, c, changes[from + 4]);
                    break;
                default:
                    close = a;
                    break;
            }
        }
    }

    /** The singers: voices, parts, when they go home, solos. */
    private static final class Choir {
        private static final int FACTS_OF_ONE = 4;
        private static final int VOICE = 0;
        private static final int PART = 1;
        private static final int GOES_HOME = 2;
        private static final int SOLOS = 3;

        private final int[] facts = new int[SINGERS * FACTS_OF_ONE];
        private int singerCount;

        void clear() {
            singerCount = 0;
        }

        void copy(Choir other) {
            System.arraycopy(other.facts, 0, facts, 0, SINGERS * FACTS_OF_ONE);
            singerCount = other.singerCount;
        }

        int of(int singer, int fact) {
            int at = singer * FACTS_OF_ONE + fact;
            return at >= 0 && at < facts.length ? facts[at] : 0;
        }

        void set(int singer, int fact, int value) {
            int at = singer * FACTS_OF_ONE + fact;
            if (at >= 0 && at < facts.length) {
                facts[at] = value;
            }
        }

        void add(int voice, int part) {
            int singer = singerCount;
            set(singer, VOICE, voice);
            set(singer, PART, part);
            set(singer, GOES_HOME, NONE);
            set(singer, SOLOS, 0);
            singerCount++;
        }

        int allSolos() {
            int all = 0;
            for (int i = 0; i < singerCount; i++) {
                all += of(i, SOLOS);
            }
            return all;
        }

        private boolean isThere(int singer, int minute) {
            int goes = of(singer, GOES_HOME);
            return goes == NONE || minute < goes;
        }

        int notHome(int minute) {
            int bits = 0;
            for (int i = 0; i < singerCount; i++) {
                bits |= isThere(i, minute) ? 1 << i : 0;
            }
            return bits;
        }

        private boolean isNeeded(int part) {
            for (int i = 0; i < singerCount; i++) {
                if (of(i, PART) == part) {
                    return true;
                }
            }
            return false;
        }

        int firstMissing() {
            int first = NONE;
            for (int part = 0; part < PARTS; part++) {
                int gone = isNeeded(part) ? goneFrom(part) : NONE;
                if (gone != NONE && (first == NONE || gone < first)) {
                    first = gone;
                }
            }
            return first;
        }

        private int goneFrom(int part) {
            int latest = NONE;
            for (int i = 0; i < singerCount; i++) {
                if (of(i, PART) == part) {
                    int goes = of(i, GOES_HOME);
                    if (goes == NONE) {
                        return NONE;
                    }
                    latest = goes > latest ? goes : latest;
                }
            }
            return latest;
        }

        int mostVerses(int m, int minute, int spared) {
            for (int verses = SUNG_AT_MOST; verses > 0; verses--) {
                if (canSing(verses, m, minute, spared)) {
                    return verses;
                }
            }
            return 0;
        }

        /**
         * Whether so many verses can be sung. It is enough to count: let one singer after the other, part by
         * part, take the next verses in a ring; then no verse has two singers more than another one, neither
         * of a part nor of all.
         */
        private boolean canSing(int verses, int m, int minute, int spared) {
            int all = 0;
            for (int part = 0; part < PARTS; part++) {
                int sung = sungIn(part, verses, minute);
                if (sung < verses && part != spared && isNeeded(part)) {
                    return false;
                }
                all += sung;
            }
            return all >= m * verses;
        }

        private int sungIn(int part, int verses, int minute) {
            int sung = 0;
            for (int i = 0; i < singerCount; i++) {
                if (of(i, PART) == part && isThere(i, minute)) {
                    int voice = of(i, VOICE);
                    sung += voice < verses ? voice : verses;
                }
            }
            return sung;
        }
    }

    /** Reads villages, plans and books into things of its own: a faulty text must leave all others alone. */
    private static final class Reader {
        private static final String CLAUSE_WORDS =
                "door in hears rings light drive pies singer home solo start verse until";

        private final Tape tape;
        private final Round round = new Round();
        private final Choir choir = new Choir();
        private final Book book = new Book();

        Reader(Tape tape) {
            this.tape = tape;
        }

        boolean readsVillage() {
            round.clear();
            choir.clear();
            for (int i = 0; i <= CLAUSES && !tape.isFaulty() && !tape.isOver(); i++) {
                readClause(i);
            }
            return !tape.isFaulty();
        }

        private void readClause(int ahead) {
            int word = tape.word(CLAUSE_WORDS);
            if (ahead >= CLAUSES) {
                tape.fail(TOO_MANY, tape.from);
            }
            switch (word) {
                case 0: readDoor(); break;
                case 1: readFact(IN); break;
                case 2: readFact(HEARS); break;
                case 3: readFact(RINGS); break;
                case 4: readLight(); break;
                case 5: readFact(DRIVE); break;
                case 6: readFact(PIES); break;
                case 7: readSinger(); break;
                case 8: readOfSinger(Choir.GOES_HOME, LAST_MINUTE); break;
                case 9: readOfSinger(Choir.SOLOS, 9); break;
                case 10: round.start = tape.number(0, 99); break;
                case 11: round.verse = tape.number(1, 9); break;
                case 12: round.close = tape.number(0, LAST_MINUTE); break;
                default: break;
            }
            tape.sign(';');
        }

        private void readDoor() {
            if (round.doorCount >= DOORS) {
                tape.fail(TOO_MANY, tape.from);
            }
            int street = tape.number(0, mostOf(STREET));
            int pence = tape.number(0, mostOf(PENCE));
            int joy = tape.number(0, mostOf(JOY));
            if (!tape.isFaulty()) {
                round.addDoor(street, pence, joy);
            }
        }

        private void readFact(int fact) {
            int door = tape.number(0, round.doorCount - 1);
            int value = tape.number(0, mostOf(fact));
            if (!tape.isFaulty()) {
                round.setDoor(door, fact, value);
            }
        }

        private void readLight() {
            int door = tape.number(0, round.doorCount - 1);
            int litIn = tape.number(0, mostOf(LIT_IN));
            int litOut = tape.number(0, mostOf(LIT_OUT));
            if (!tape.isFaulty()) {
                round.setDoor(door, LIT_IN, litIn);
                round.setDoor(door, LIT_OUT, litOut);
            }
        }

        private void readSinger() {
            if (choir.singerCount >= SINGERS) {
                tape.fail(TOO_MANY, tape.from);
            }
            int voice = tape.number(0, SUNG_AT_MOST);
            int part = tape.number(0, PARTS - 1);
            if (!tape.isFaulty()) {
                choir.add(voice, part);
            }
        }

        private void readOfSinger(int fact, int most) {
            int singer = tape.number(0, choir.singerCount - 1);
            int value = tape.number(0, most);
            if (!tape.isFaulty()) {
                choir.set(singer, fact, value);
            }
        }

        /** The doors must stand in the round already. */
        boolean readsPlan() {
            round.lineCount = 0;
            round.changeCount = 0;
            for (int i = 0; i <= LINES && !tape.isFaulty() && !tape.isOver(); i++) {
                readLine(i);
            }
            return !tape.isFaulty();
        }

        private void readLine(int ahead) {
            int door = tape.number(0, round.doorCount - 1);
            if (round.hasLineAt(door)) {
                tape.fail(NO_SUCH_NUMBER, tape.from);
            }
            if (ahead >= LINES) {
                tape.fail(TOO_MANY, tape.from);
            }
            int verses = tape.number(0, VERSES);
            int ring = tape.isLetter() ? tape.word("first last") + 1 : 0;
            tape.sign(';');
            if (!tape.isFaulty()) {
                round.setLine(round.lineCount, door, verses, ring);
                round.lineCount++;
            }
        }

        boolean readsBook(int doorCount) {
            book.clear();
            for (int i = 0; i <= YEARS && !tape.isFaulty() && !tape.isOver(); i++) {
                readYear(i, doorCount);
            }
            return !tape.isFaulty();
        }

        private void readYear(int ahead, int doorCount) {
            int doors = 0;
            // an eleventh door is none such, or stands there twice: ten rounds and one more are enough
            for (int i = 0; i <= DOORS && tape.isDigit() && !tape.isFaulty(); i++) {
                int door = tape.number(0, doorCount - 1);
                if ((doors >> door & 1) != 0) {
                    tape.fail(NO_SUCH_NUMBER, tape.from);
                }
                if (ahead >= YEARS) {
                    tape.fail(TOO_MANY, tape.from);
                }
                doors |= 1 << door;
            }
            if (ahead >= YEARS && tape.look() == '=') {
                tape.fail(TOO_MANY, tape.at);
            }
            tape.sign('=');
            int pence = tape.number(0, 9999);
            tape.sign(';');
            if (!tape.isFaulty()) {
                book.add(doors, pence);
            }
        }
    }

    /** A law, as steps on a stack. */
    private static final class Law {
        private static final int NUMBER = 0;
        private static final int NAME = 1;
        private static final int PLUS = 2;
        private static final int MINUS = 3;
        private static final int TIMES = 4;
        private static final int BY = 5;
        private static final int LEAST = 6;
        private static final int MOST = 7;
        private static final int IF = 8;

        private final int[] kinds = new int[LAW_BYTES];
        private final int[] values = new int[LAW_BYTES];
        // two more, for what an operator looks at above the top
        private final int[] stack = new int[LAW_BYTES + 2];
        private int size;

        void clear() {
            size = 0;
        }

        boolean stands() {
            return size > 0;
        }

        void copy(Law other) {
            System.arraycopy(other.kinds, 0, kinds, 0, LAW_BYTES);
            System.arraycopy(other.values, 0, values, 0, LAW_BYTES);
            size = other.size;
        }

        void add(int kind, int value) {
            if (within(size, 0, LAW_BYTES - 1)) {
                kinds[size] = kind;
                values[size] = value;
                size++;
            }
        }

        int worth(int[] named) {
            int top = 0;
            for (int i = 0; i < size && i < LAW_BYTES; i++) {
                int kind = kinds[i];
                top -= kind == IF ? 3 : kind > NAME ? 2 : 0;
                if (top < 0 || top + 2 >= stack.length) {
                    return 0;
                }
                if (kind == NUMBER) {
                    stack[top] = values[i];
                } else if (kind == NAME) {
                    stack[top] = values[i] >= 0 && values[i] < named.length ? named[values[i]] : 0;
                } else if (kind == IF) {
                    stack[top] = stack[top] > 0 ? stack[top + 1] : stack[top + 2];
                } else {
                    stack[top] = join(kind, stack[top], stack[top + 1]);
                }
                top++;
            }
            return stack[0];
        }

        private static int join(int kind, int left, int right) {
            switch (kind) {
                case PLUS: return left + right;
                case MINUS: return left - right;
                case TIMES: return left * right;
                case BY: return right == 0 ? 0 : left / right;
                case LEAST: return left < right ? left : right;
                default: return left > right ? left : right;
            }
        }
    }

    /** Reads a law, likewise. */
    private static final class LawReader {
        private static final String WORDS =
                "verses pence joy place singers drive pies minute box told least most if";
        private static final int NAMES = 10;

        private final Tape tape;
        private final Law law = new Law();

        LawReader(Tape tape) {
            this.tape = tape;
        }

        boolean reads() {
            law.clear();
            readSum(0);
            if (!tape.isFaulty() && !tape.isOver()) {
                tape.fail(CANNOT_STAND, tape.at);
            }
            return !tape.isFaulty();
        }

        private void readSum(int open) {
            readProduct(open);
            for (int i = 0; i < LAW_BYTES && !tape.isFaulty(); i++) {
                int sign = tape.look();
                if (sign != '+' && sign != '-') {
                    return;
                }
                tape.step();
                readProduct(open);
                law.add(sign == '+' ? Law.PLUS : Law.MINUS, 0);
            }
        }

        private void readProduct(int open) {
            readUnit(open);
            for (int i = 0; i < LAW_BYTES && !tape.isFaulty(); i++) {
                int sign = tape.look();
                if (sign != '*' && sign != '/') {
                    return;
                }
                tape.step();
                readUnit(open);
                law.add(sign == '*' ? Law.TIMES : Law.BY, 0);
            }
        }

        private void readUnit(int open) {
            if (tape.isDigit()) {
                law.add(Law.NUMBER, tape.number(0, 999));
            } else if (tape.look() == '(') {
                if (open >= OPEN_AT_ONCE) {
                    tape.fail(TOO_MANY, tape.at);
                    return;
                }
                tape.step();
                readPart(open + 1, ')');
            } else {
                readWord(open);
            }
        }

        /** An expression and the sign that ends it. */
        private void readPart(int open, int sign) {
            readSum(open);
            if (!tape.isFaulty()) {
                tape.sign(sign);
            }
        }

        private void readWord(int open) {
            int word = tape.word(WORDS);
            if (tape.isFaulty()) {
                return;
            }
            if (word < NAMES) {
                law.add(Law.NAME, word);
                return;
            }
            if (open >= OPEN_AT_ONCE) {
                tape.fail(TOO_MANY, tape.from);
                return;
            }
            tape.sign('[');
            int kind = word == NAMES ? Law.LEAST : word == NAMES + 1 ? Law.MOST : Law.IF;
            int parts = kind == Law.IF ? 3 : 2;
            for (int i = 1; i <= parts && !tape.isFaulty(); i++) {
                readPart(open + 1, i == parts ? ']' : ',');
            }
            law.add(kind, 0);
        }
    }

    /** The boxes of the years. */
    private static final class Book {
        private final int[] doors = new int[YEARS];
        private final int[] pence = new int[YEARS];
        private int lineCount;
        private int sets;
        private int firstSet;
        private int inAll;
        private int inNone;

        void clear() {
            lineCount = 0;
        }

        void copy(Book other) {
            System.arraycopy(other.doors, 0, doors, 0, YEARS);
            System.arraycopy(other.pence, 0, pence, 0, YEARS);
            lineCount = other.lineCount;
        }

        void add(int lineDoors, int linePence) {
            if (within(lineCount, 0, YEARS - 1)) {
                doors[lineCount] = lineDoors;
                pence[lineCount] = linePence;
                lineCount++;
            }
        }

        int rightLines(Round round, int givers) {
            for (int line = 0; line < lineCount && line < YEARS; line++) {
                if (boxOf(round, givers & doors[line]) != pence[line]) {
                    return line;
                }
            }
            return lineCount;
        }

        private int boxOf(Round round, int givers) {
            int box = 0;
            int left = givers;
            for (int door = 0; door < DOORS && left != 0; door++) {
                box += (left & 1) * round.of(door, PENCE);
                left >>= 1;
            }
            return box;
        }

        void findSets(Round round) {
            int all = round.allDoors();
            int some = 0;
            sets = 0;
            firstSet = NONE;
            inAll = all;
            for (int givers = 0; givers <= all; givers++) {
                if (rightLines(round, givers) == lineCount) {
                    firstSet = sets == 0 ? givers : firstSet;
                    inAll &= givers;
                    some |= givers;
                    sets++;
                }
            }
            inNone = sets == 0 ? 0 : all & ~some;
            inAll = sets == 0 ? 0 : inAll;
        }
    }

    /** What one door brings on the mean. */
    private static final class Visit {
        private final Round round;
        private final Choir choir;
        private final Law give;
        private final int[] named = new int[LawReader.NAMES];
        private long come;
        private long pence;
        private long joy;
        private long minutes;

        Visit(Round round, Choir choir, Law give) {
            this.round = round;
            this.choir = choir;
            this.give = give;
        }

        int gift(int door, int verses, int place) {
            if (!give.stands()) {
                return round.of(door, PENCE);
            }
            int worth = give.worth(names(door, verses, place, 0, 0, 0));
            return worth < 0 ? 0 : worth > 999 ? 999 : worth;
        }

        /** The values of a law's names, in the order of its words. */
        int[] names(int door, int verses, int place, int minute, int box, int told) {
            named[0] = verses;
            named[1] = round.of(door, PENCE);
            named[2] = round.of(door, JOY);
            named[3] = place;
            named[4] = choir.singerCount;
            named[5] = round.of(door, DRIVE);
            named[6] = round.of(door, PIES);
            named[7] = minute;
            named[8] = box;
            named[9] = told;
            return named;
        }

        /** The means, each times WHOLE. */
        void reckon(int door, int n, int ring, int place) {
            long waiting = WHOLE / 16 * round.of(door, IN);
            int steps = ring == 0 ? n : n + 1;
            int verses = 0;
            come = 0;
            pence = 0;
            minutes = WHOLE * 2 * round.of(door, DRIVE);
            for (int i = 0; i < steps; i++) {
                boolean rings = ring == RING_FIRST && i == 0 || ring == RING_LAST && i == n;
                verses += rings ? 0 : 1;
                minutes += (WHOLE - come) * (rings ? 1 : round.verse);
                long odds = round.of(door, rings ? RINGS : HEARS);
                long now = waiting / 16 * odds;
                waiting = waiting / 16 * (16 - odds);
                come += now;
                pence += now == 0 ? 0 : now * gift(door, verses, place);
            }
            joy = come * round.of(door, JOY);
            minutes += come * round.of(door, PIES);
        }

        long timesWhole(int what) {
            switch (what) {
                case 0: return come;
                case 1: return pence;
                case 2: return joy;
                default: return minutes;
            }
        }

        /** That somebody is in, it looks as seen and v verses are in vain: times 16 by 16, and by 16 a verse. */
        long inAndVain(int door, int seen, int v) {
            return round.of(door, IN) * asSeen(round.of(door, LIT_IN), seen) * power(16 - round.of(door, HEARS), v);
        }

        /** Likewise, whether somebody is in or not. */
        long allVain(int door, int seen, int v) {
            long out = (16 - round.of(door, IN)) * asSeen(round.of(door, LIT_OUT), seen) * power(16, v);
            return inAndVain(door, seen, v) + out;
        }

        private static long asSeen(int lit, int seen) {
            return seen == 0 ? 16 - lit : seen == 1 ? lit : 16;
        }

        private static long power(long base, int exponent) {
            long power = 1;
            for (int i = 0; i < exponent; i++) {
                power *= base;
            }
            return power;
        }

        /** Whether another verse brings less than x behind v in vain. */
        boolean bringsLess(int door, int seen, int v, int x) {
            long all = allVain(door, seen, v) * 16;
            if (all == 0) {
                return x > 0;
            }
            long hears = inAndVain(door, seen, v) * round.of(door, HEARS);
            return hears * gift(door, v + 1, 0) < x * all;
        }
    }

    /** What the plan's lines come to together, and who else goes along the street. */
    private static final class Tour {
        private final Round round;
        private final Choir choir;
        private final Visit visit;
        private final long[] worths = new long[DOORS];
        private final int[] row = new int[DOORS];
        private final int[] ahead = new int[DOORS + 1];
        private long come;
        private long pence;
        private long joy;
        private long minutes;
        private int soloDoors;
        private long soloWorth;
        private int partyAhead;
        private int partyDoor;

        Tour(Round round, Choir choir, Visit visit) {
            this.round = round;
            this.choir = choir;
            this.visit = visit;
        }

        /** The sums from a line on, each times WHOLE. */
        void reckon(int first) {
            come = 0;
            pence = 0;
            joy = 0;
            minutes = 0;
            for (int line = first; line < round.lineCount; line++) {
                visitBy(line);
                come += visit.come;
                pence += visit.pence;
                joy += visit.joy;
                minutes += visit.minutes + WHOLE * round.way(line);
            }
        }

        private void visitBy(int line) {
            visit.reckon(round.ofLine(line, LINE_DOOR), round.ofLine(line, LINE_VERSES),
                    round.ofLine(line, LINE_RING), line);
        }

        long timesWhole(int what) {
            switch (what) {
                case 0: return come;
                case 1: return pence;
                case 2: return joy;
                default: return minutes;
            }
        }

        private int minutesAt(int line) {
            return round.way(line) + round.longestAt(round.ofLine(line, LINE_DOOR),
                    round.ofLine(line, LINE_VERSES), round.ofLine(line, LINE_RING));
        }

        int allMinutes() {
            int all = 0;
            for (int line = 0; line < round.lineCount; line++) {
                all += minutesAt(line);
            }
            return all;
        }

        int linesInTime() {
            int all = 0;
            for (int line = 0; line < round.lineCount; line++) {
                all += minutesAt(line);
                if (all > round.close) {
                    return line;
                }
            }
            return round.lineCount;
        }

        void chooseSolos() {
            for (int door = 0; door < DOORS; door++) {
                worths[door] = NONE;
            }
            for (int line = 0; line < round.lineCount; line++) {
                int door = round.ofLine(line, LINE_DOOR);
                if (within(door, 0, DOORS - 1)) {
                    visitBy(line);
                    worths[door] = visit.joy;
                }
            }
            soloDoors = 0;
            soloWorth = 0;
            int solos = choir.allSolos();
            for (int i = 0; i < solos && i < round.lineCount; i++) {
                takeSolo();
            }
        }

        /** The greatest that is left; of alike ones the least door makes the least bits. */
        private void takeSolo() {
            int best = 0;
            for (int door = 1; door < DOORS; door++) {
                best = worths[door] > worths[best] ? door : best;
            }
            if (worths[best] >= 0) {
                soloDoors |= 1 << best;
                soloWorth += worths[best];
                worths[best] = NONE;
            }
        }

        private void standInRow() {
            for (int door = 0; door < round.doorCount && door < DOORS; door++) {
                int place = door;
                for (int i = door; i > 0 && place == i; i--) {
                    if (round.of(row[i - 1], STREET) > round.of(door, STREET)) {
                        row[i] = row[i - 1];
                        place = i - 1;
                    }
                }
                row[place] = door;
            }
        }

        /** By how much who is to take is ahead in each stretch of the row, stretch by longer stretch. */
        void playParty() {
            standInRow();
            partyAhead = 0;
            partyDoor = NONE;
            for (int i = 0; i <= DOORS; i++) {
                ahead[i] = 0;
            }
            for (int length = 1; length <= round.doorCount; length++) {
                for (int i = 0; i + length <= round.doorCount && i + length <= DOORS; i++) {
                    int first = row[i];
                    int last = row[i + length - 1];
                    int byFirst = round.of(first, PENCE) - ahead[i + 1];
                    int byLast = round.of(last, PENCE) - ahead[i];
                    ahead[i] = byFirst >= byLast ? byFirst : byLast;
                    partyDoor = byFirst >= byLast ? first : last;
                }
            }
            partyAhead = ahead[0];
        }
    }

    /** The best plan of a small village. */
    private static final class Search {
        private static final int WAYS = 3 * (VERSES + 1);

        private final Round round;
        private final Visit visit;
        private final long[] values = new long[BEST_DOORS * WAYS];
        private final int[] lengths = new int[BEST_DOORS * WAYS];
        private final int[] codes = new int[BEST_DOORS * WAYS];
        private final int[] sizes = new int[BEST_DOORS];
        private final long[] hopes = new long[BEST_DOORS + 1];
        private final int[] chosen = new int[BEST_DOORS];
        private final int[] found = new int[BEST_DOORS];
        private int doorCount;
        private long foundValue;
        private int foundLength;

        Search(Round round, Visit visit) {
            this.round = round;
            this.visit = visit;
        }

        int foundAt(int door) {
            return within(door, 0, BEST_DOORS - 1) ? found[door] : NONE;
        }

        void seek(int w) {
            doorCount = round.doorCount < BEST_DOORS ? round.doorCount : BEST_DOORS;
            long hope = 0;
            for (int door = BEST_DOORS; door >= 0; door--) {
                hope += door < doorCount ? listWays(door, w) : 0;
                hopes[door] = hope;
            }
            foundValue = NONE;
            foundLength = 0;
            tryDoor(0, 0, 0, NONE, NONE);
        }

        /**
         * The ways to sing at a door that can be best, and the most that one of them brings. They come from the
         * shortest to the longest; one that brings no more than one ahead of it, or than leaving the door out,
         * never is the first of the best.
         */
        private long listWays(int door, int w) {
            long most = 0;
            if (!within(door, 0, BEST_DOORS - 1)) {
                return most;
            }
            sizes[door] = 0;
            for (int way = 0; way < WAYS; way++) {
                visit.reckon(door, way / 3, way % 3, 0);
                long value = visit.pence + w * visit.joy;
                if (value > most) {
                    most = value;
                    addWay(door, way, value);
                }
            }
            return most;
        }

        /** In the place of the way ahead, if that one is as long. */
        private void addWay(int door, int way, long value) {
            int size = door >= 0 && door < sizes.length ? sizes[door] : WAYS;
            if (!within(size, 0, WAYS - 1)) {
                return;
            }
            int length = round.longestAt(door, way / 3, way % 3);
            int at = door * WAYS + size;
            if (size > 0 && lengths[at - 1] == length) {
                at--;
                size--;
            }
            values[at] = value;
            lengths[at] = length;
            codes[at] = way / 3 * 10 + way % 3;
            sizes[door] = size + 1;
        }

        /** From the last of all plans to the first, so that of alike ones the last that is found counts. */
        private void tryDoor(int door, long value, int minutes, int least, int greatest) {
            if (!within(door, 0, BEST_DOORS) || minutes + street(least, greatest) > round.close
                    || value + hopes[door] < foundValue) {
                return;
            }
            if (door >= doorCount || door >= BEST_DOORS) {
                foundValue = value;
                foundLength = minutes + street(least, greatest);
                System.arraycopy(chosen, 0, found, 0, BEST_DOORS);
                return;
            }
            int x = round.of(door, STREET);
            int nowLeast = least == NONE || x < least ? x : least;
            int nowGreatest = greatest == NONE || x > greatest ? x : greatest;
            int size = sizes[door] < WAYS ? sizes[door] : WAYS;
            for (int i = door * WAYS + size - 1; i >= door * WAYS; i--) {
                chosen[door] = codes[i];
                tryDoor(door + 1, value + values[i], minutes + lengths[i], nowLeast, nowGreatest);
            }
            chosen[door] = NONE;
            tryDoor(door + 1, value, minutes, least, greatest);
        }

        private int street(int least, int greatest) {
            if (least == NONE) {
                return 0;
            }
            int toLeast = apart(round.start, least);
            int toGreatest = apart(round.start, greatest);
            return greatest - least + (toLeast < toGreatest ? toLeast : toGreatest);
        }
    }

    /** One evening by a seed. */
    private static final class Evening {
        private final Round round;
        private final Visit visit;
        private final Law on;
        private int seed;
        private int box;
        private int joy;
        private int minute;
        private int opened;
        private int verses;
        private int rings;
        private int lines;
        private int sungHere;

        Evening(Round round, Visit visit, Law on) {
            this.round = round;
            this.visit = visit;
            this.on = on;
        }

        void pass(int firstSeed) {
            seed = firstSeed;
            box = 0;
            joy = 0;
            minute = 0;
            opened = 0;
            verses = 0;
            rings = 0;
            lines = 0;
            for (int line = 0; line < round.lineCount; line++) {
                int reached = minute + round.way(line);
                if (reached > round.close) {
                    return;
                }
                minute = reached;
                lines++;
                stay(line);
            }
        }

        private int draw() {
            seed = seed * 1103515245 + 12345;
            return seed >>> 16 & 15;
        }

        private void stay(int line) {
            int door = round.ofLine(line, LINE_DOOR);
            int ring = round.ofLine(line, LINE_RING);
            minute += round.of(door, DRIVE);
            boolean in = draw() < round.of(door, IN);
            sungHere = 0;
            boolean open = ring == RING_FIRST && ringOpens(door, in);
            for (int i = 0; i < VERSES && !open && singsOn(line, door); i++) {
                open = verseOpens(door, in);
            }
            if (!open && ring == RING_LAST) {
                open = ringOpens(door, in);
            }
            if (open) {
                box += visit.gift(door, sungHere, line);
                joy += round.of(door, JOY);
                opened |= 1 << door;
                minute += round.of(door, PIES);
            }
            minute += round.of(door, DRIVE);
        }

        private boolean ringOpens(int door, boolean in) {
            rings++;
            minute++;
            return in && draw() < round.of(door, RINGS);
        }

        private boolean verseOpens(int door, boolean in) {
            verses++;
            sungHere++;
            minute += round.verse;
            return in && draw() < round.of(door, HEARS);
        }

        private boolean singsOn(int line, int door) {
            int told = round.ofLine(line, LINE_VERSES);
            if (!on.stands()) {
                return sungHere < told;
            }
            return on.worth(visit.names(door, sungHere, line, minute, box, told)) > 0;
        }
    }
}
