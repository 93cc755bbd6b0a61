/**
 * A night over a base that is guarded after dark, as ../shared/DOC.md tells it.
 *
 * <p>A BASE has 64 CELLS at most, so a set of CELLS is one long (bit k stands for the CELL k):
 * light, sight and ways are then asked for all CELLS at once, and nothing is made anew by a call.
 */
public final class NightwatchWall {
    private static final int NONE = -1;

    private static final int GROUND = 0;
    private static final int WALL = 1;
    private static final int HEDGE = 2;
    private static final int GATE = 3;

    private static final int MOST_CELLS = 64;
    private static final int MINUTES = 240;
    private static final int HOUR = 60;
    private static final int HOURS = 4;

    private static final int MOST_GUARDS = 6;
    private static final int MOST_POSTS = 4;
    private static final int MOST_STRIKES = 3;
    private static final int MOST_STEPS = 4;
    private static final int KEYS = 6;

    private final Grid grid = new Grid();
    private final Lamps lamps = new Lamps();
    private final Fogs fogs = new Fogs();
    private final Guards guards = new Guards();
    private final Numbers posts = new Numbers(MOST_POSTS);
    private final Words passwords = new Words();
    private final Numbers keys = new Numbers(KEYS);
    private final Intruders intruders = new Intruders();
    private final Wires wires = new Wires();
    private int refused;

    public NightwatchWall() {
        passwords.tell(0);
        keys.fill(NONE);
    }

    // ---- the base

    public int base(int wide, int high, int seed) throws IllegalArgumentException {
        if (!isIn(wide, 3, 8) || !isIn(high, 3, 8) || !isIn(seed, 0, 100)) {
            throw new IllegalArgumentException("no such BASE");
        }
        grid.build(wide, high, seed);
        lamps.forget();
        fogs.forget();
        guards.forget();
        posts.clear();
        passwords.startAnew();
        keys.fill(NONE);
        intruders.forget();
        wires.forget();
        return Long.bitCount(grid.openCells());
    }

    public int lay(int cell, int kind)
            throws IndexOutOfBoundsException, IllegalArgumentException, IllegalStateException {
        needCell(cell);
        needLet(isIn(kind, GROUND, GATE));
        needPossible(kind != WALL || !isOf(takenCells(), cell));
        int before = grid.kindOf(cell);
        grid.change(cell, kind);
        return before;
    }

    public int gates(int from, int to) throws IllegalArgumentException {
        needLet(isMinute(from) && isMinute(to));
        grid.openGates(from, to);
        return grid.gateCount();
    }

    public int lamp(int cell, int reach)
            throws IndexOutOfBoundsException, IllegalArgumentException, IllegalStateException {
        needCell(cell);
        needLet(isIn(reach, 1, 4));
        needPossible(!lamps.isFull() && !grid.isWall(cell));
        return lamps.putUp(cell, reach);
    }

    public int light(int lamp, boolean isLit) throws IndexOutOfBoundsException {
        needThere(lamp, lamps.count());
        lamps.turn(lamp, isLit);
        return Long.bitCount(brightCells());
    }

    public int fog(int minute, int fog) throws IllegalArgumentException, IllegalStateException {
        needLet(isMinute(minute) && isIn(fog, 0, 5));
        needPossible(!fogs.isFull());
        return fogs.tell(minute, fog);
    }

    // ---- guards and posts

    public int guard(int cell, int from, int to, int stay)
            throws IndexOutOfBoundsException, IllegalArgumentException, IllegalStateException {
        needCell(cell);
        needLet(isMinute(from) && isMinute(to) && from <= to && isIn(stay, 1, 20));
        needPossible(!guards.isFull() && !grid.isWall(cell));
        return guards.enlist(cell, from, to, stay);
    }

    public int round(int guard, int cell) throws IndexOutOfBoundsException, IllegalStateException {
        needThere(guard, guards.count());
        needCell(cell);
        needPossible(!guards.isRoundFull(guard) && !grid.isWall(cell));
        return guards.lengthen(guard, cell);
    }

    public int post(int cell) throws IndexOutOfBoundsException, IllegalStateException {
        needCell(cell);
        needPossible(!posts.isFull() && !grid.isWall(cell));
        posts.add(cell);
        return posts.size() - 1;
    }

    public int place(int guard, int minute)
            throws IndexOutOfBoundsException, IllegalArgumentException {
        needThere(guard, guards.count());
        needLet(isMinute(minute));
        return guards.standAt(guard, minute);
    }

    public boolean sees(int guard, int cell, int minute)
            throws IndexOutOfBoundsException, IllegalArgumentException {
        needNoneOrThere(guard, guards.count());
        needCell(cell);
        needLet(isMinute(minute));
        return isOf(sightOf(guard, minute, brightCells()), cell);
    }

    public int ofCell(int cell, int minute, int what)
            throws IndexOutOfBoundsException, IllegalArgumentException {
        needCell(cell);
        needLet(isMinute(minute) && isIn(what, 0, 4));
        switch (what) {
            case 0:
                return grid.kindOf(cell);
            case 1:
                return isOf(brightCells(), cell) ? 1 : 0;
            case 2:
                return guardsWhoSee(cell, minute);
            case 3:
                return guards.setOn(cell, minute);
            default:
                return isOf(grid.walkable(minute), cell) ? 1 : 0;
        }
    }

    public int ofMinute(int minute, int what) throws IllegalArgumentException {
        needLet(isMinute(minute) && isIn(what, 0, 6));
        switch (what) {
            case 0:
                return fogs.fogAt(minute);
            case 1:
                return Long.bitCount(grid.openCells() & ~watchedCells(minute));
            case 2:
                return guards.countOnDuty(minute);
            case 3:
                return guards.countTired(minute);
            case 4:
                return countEmptyPosts(minute);
            case 5:
                return Long.bitCount(brightCells());
            default:
                return countKeysOffDuty(minute);
        }
    }

    public int empty(int post, boolean isFirst) throws IndexOutOfBoundsException {
        needThere(post, posts.size());
        int first = NONE;
        int many = 0;
        for (int minute = 0; minute < MINUTES; minute++) {
            if (!isOf(guards.cellsHeld(minute), posts.at(post))) {
                first = first == NONE ? minute : first;
                many++;
            }
        }
        return isFirst ? first : many;
    }

    public int lapse(int cell, int from, int to)
            throws IndexOutOfBoundsException, IllegalArgumentException {
        needCell(cell);
        needLet(isMinute(from) && isMinute(to) && from <= to);
        for (int minute = from; minute <= to; minute++) {
            if (!isOf(watchedCells(minute), cell)) {
                return minute;
            }
        }
        return NONE;
    }

    // ---- words and keys

    public int words(int seed) throws IllegalArgumentException {
        needLet(isIn(seed, 0, 99));
        passwords.tell(seed);
        return passwords.wordOf(0);
    }

    public int leak(int hour) throws IllegalArgumentException, IllegalStateException {
        needLet(isIn(hour, 0, HOURS - 1));
        needPossible(!passwords.isLeakedOut());
        return passwords.replace(hour);
    }

    public int answer(int guard, int minute, int word)
            throws IndexOutOfBoundsException, IllegalArgumentException {
        needThere(guard, guards.count());
        needLet(isMinute(minute));
        return passwords.judge(guard, minute / HOUR, word);
    }

    public int key(int key, int guard) throws IndexOutOfBoundsException {
        needThere(key, KEYS);
        needNoneOrThere(guard, guards.count());
        int before = keys.at(key);
        keys.put(key, guard);
        return before;
    }

    public int ofGuard(int guard, int what)
            throws IndexOutOfBoundsException, IllegalArgumentException {
        needThere(guard, guards.count());
        needLet(isIn(what, 0, 8));
        switch (what) {
            case 0:
                return guards.firstOf(guard);
            case 1:
                return guards.lastOf(guard);
            case 2:
                return guards.stayOf(guard);
            case 3:
                return guards.lengthOf(guard);
            case 4:
                return passwords.strikesOf(guard);
            case 5:
                return passwords.isBarred(guard) ? 1 : 0;
            case 6:
                return keys.placesOf(guard);
            case 7:
                return passwords.hoursOf(guard);
            default:
                return guards.tiredMinutesOf(guard);
        }
    }

    // ---- intruders, wires

    public int intruder(int cell, int minute, int moves)
            throws IndexOutOfBoundsException, IllegalArgumentException, IllegalStateException {
        needCell(cell);
        needLet(isMinute(minute) && moves >= 0);
        boolean hasCome = !intruders.isFull() && intruders.come(grid, cell, minute, moves);
        needPossible(hasCome);
        return intruders.count() - 1;
    }

    public int wire(int cell, int bar)
            throws IndexOutOfBoundsException, IllegalArgumentException, IllegalStateException {
        needCell(cell);
        needLet(isIn(bar, 1, 12));
        needPossible(!wires.isFull());
        return wires.stretch(cell, bar);
    }

    public int where(int intruder, int minute)
            throws IndexOutOfBoundsException, IllegalArgumentException {
        needThere(intruder, intruders.count());
        needLet(isMinute(minute));
        return intruders.cellAt(intruder, minute);
    }

    public int ofIntruder(int intruder, int what)
            throws IndexOutOfBoundsException, IllegalArgumentException {
        needThere(intruder, intruders.count());
        needLet(isIn(what, 0, 8));
        switch (what) {
            case 0:
                return intruders.firstOf(intruder);
            case 1:
                return intruders.movesOf(intruder);
            case 2:
                return intruders.cellAt(intruder, MINUTES - 1);
            case 3:
                return foundAt(intruder);
            case 4:
                return findersOf(intruder, foundAt(intruder));
            case 5:
                return firstArrival(intruder, foundAt(intruder));
            case 6:
                return responder(intruder, foundAt(intruder));
            case 7:
                return intruders.stepsOf(intruder);
            default:
                return intruders.stepMinuteOf(intruder);
        }
    }

    public int force(int intruder, int step, int minute)
            throws IndexOutOfBoundsException, IllegalArgumentException, IllegalStateException {
        needThere(intruder, intruders.count());
        needLet(isIn(step, 0, MOST_STEPS - 1) && isMinute(minute));
        int found = foundAt(intruder);
        needPossible(found != NONE && minute >= found && intruders.isNextStep(intruder, step, minute));
        return intruders.addStep(intruder, minute);
    }

    public int ofWire(int wire, int what)
            throws IndexOutOfBoundsException, IllegalArgumentException {
        needThere(wire, wires.count());
        needLet(isIn(what, 0, 4));
        switch (what) {
            case 0:
                return wires.cellOf(wire);
            case 1:
                return wires.barOf(wire);
            case 2:
                return countRings(wire, false);
            case 3:
                return countRings(wire, true);
            default:
                return firstTrueRing(wire);
        }
    }

    // ---- what would be

    public int sneak(int from, int to, int minute, int most)
            throws IndexOutOfBoundsException, IllegalArgumentException {
        needCell(from);
        needCell(to);
        needLet(isMinute(minute) && isIn(most, 0, 60));
        long reached = setOf(from) & unseenCells(minute);
        int gone = 0;
        while (!isOf(reached, to) && gone < most && minute + gone < MINUTES - 1) {
            gone++;
            reached = grid.spread(reached) & unseenCells(minute + gone);
        }
        return isOf(reached, to) ? gone : NONE;
    }

    public int reach(int from, int minute, int most)
            throws IndexOutOfBoundsException, IllegalArgumentException {
        needCell(from);
        needLet(isMinute(minute) && isIn(most, 0, 60) && minute + most < MINUTES);
        long reached = setOf(from) & unseenCells(minute);
        for (int gone = 1; gone <= most; gone++) {
            reached = grid.spread(reached) & unseenCells(minute + gone);
        }
        return Long.bitCount(reached);
    }

    public int nextLamp(int minute, int reach, boolean isCell) throws IllegalArgumentException {
        needLet(isMinute(minute) && isIn(reach, 1, 4));
        int best = NONE;
        int most = NONE;
        for (int cell = 0; cell < grid.cells(); cell++) {
            int gain = grid.isWall(cell) ? NONE : gainOfLamp(cell, reach, minute);
            if (gain > most) {
                best = cell;
                most = gain;
            }
        }
        return isCell ? best : most;
    }

    // ---- all of it

    public int many(int what) throws IllegalArgumentException {
        needLet(isIn(what, 0, 12));
        switch (what) {
            case 0:
                return grid.cells();
            case 1:
                return lamps.count();
            case 2:
                return lamps.countLit();
            case 3:
                return guards.count();
            case 4:
                return posts.size();
            case 5:
                return intruders.count();
            case 6:
                return countFound();
            case 7:
                return wires.count();
            case 8:
                return KEYS - keys.countOf(NONE);
            case 9:
                return passwords.leaks();
            case 10:
                return passwords.rightAnswers();
            case 11:
                return countMinutesOfEmptyPosts();
            default:
                return refused;
        }
    }

    public String drawn(int row, int minute)
            throws IndexOutOfBoundsException, IllegalArgumentException {
        needThere(row, grid.high());
        needLet(isMinute(minute));
        long watched = watchedCells(minute);
        StringBuilder line = new StringBuilder();
        for (int column = 0; column < grid.wide(); column++) {
            line.append(signOf(grid.cellOf(row, column), minute, watched));
        }
        return line.toString();
    }

    public boolean isSound() {
        if ((takenCells() & ~grid.openCells()) != 0) {
            return false;
        }
        for (int key = 0; key < KEYS; key++) {
            if (!isIn(keys.at(key), NONE, guards.count() - 1)) {
                return false;
            }
        }
        return passwords.areStrikesSound() && intruders.areStepsSound();
    }

    public int knock() {
        refused++;
        return refused;
    }

    public long digest() {
        long sum = 9241;
        for (int what = 0; what <= 12; what++) {
            sum = sum * 31 + many(what);
        }
        for (int minute = 0; minute < MINUTES; minute += HOUR) {
            for (int what = 0; what <= 6; what++) {
                sum = sum * 31 + ofMinute(minute, what);
            }
        }
        for (int cell = 0; cell < grid.cells(); cell++) {
            for (int what = 0; what <= 4; what++) {
                sum = sum * 31 + ofCell(cell, 120, what);
            }
        }
        for (int guard = 0; guard < guards.count(); guard++) {
            for (int what = 0; what <= 8; what++) {
                sum = sum * 31 + ofGuard(guard, what);
            }
        }
        for (int post = 0; post < posts.size(); post++) {
            sum = sum * 31 + empty(post, true);
            sum = sum * 31 + empty(post, false);
        }
        for (int intruder = 0; intruder < intruders.count(); intruder++) {
            for (int what = 0; what <= 8; what++) {
                sum = sum * 31 + ofIntruder(intruder, what);
            }
        }
        for (int wire = 0; wire < wires.count(); wire++) {
            for (int what = 0; what <= 4; what++) {
                sum = sum * 31 + ofWire(wire, what);
            }
        }
        return sum * 31 + (isSound() ? 1 : 0);
    }

    // ---- what a call must be

    private void needCell(int cell) {
        needThere(cell, grid.cells());
    }

    private static void needThere(int number, int count) {
        if (!isIn(number, 0, count - 1)) {
            throw new IndexOutOfBoundsException("there is none of that number");
        }
    }

    private static void needNoneOrThere(int number, int count) {
        if (number != NONE) {
            needThere(number, count);
        }
    }

    private static void needLet(boolean isLet) {
        if (!isLet) {
            throw new IllegalArgumentException("a number is not one of those that are let");
        }
    }

    private static void needPossible(boolean isLet) {
        if (!isLet) {
            throw new IllegalStateException("as things stand this may not be");
        }
    }

    private static boolean isMinute(int minute) {
        return isIn(minute, 0, MINUTES - 1);
    }

    private static boolean isIn(int number, int least, int greatest) {
        return number >= least && number <= greatest;
    }

    // ---- sets of cells, and the row of a seed

    /** The set of one CELL; of NONE it is empty, for a shift by -1 would name the CELL 63. */
    private static long setOf(int cell) {
        return cell >= 0 && cell < MOST_CELLS ? 1L << cell : 0L;
    }

    private static boolean isOf(long set, int cell) {
        return (set & setOf(cell)) != 0;
    }

    private static int nextOfRow(int number) {
        return (23 * number + 15) % 97;
    }

    // ---- who sees what

    private long brightCells() {
        return lamps.brightCells(grid);
    }

    private long watchedCells(int minute) {
        return sightOf(NONE, minute, brightCells());
    }

    /** What a GUARD (NONE: any of them) SEES, if just these CELLS are BRIGHT. */
    private long sightOf(int guard, int minute, long bright) {
        int fog = fogs.fogAt(minute);
        int first = guard == NONE ? 0 : guard;
        int last = guard == NONE ? guards.count() - 1 : guard;
        long sight = 0;
        for (int each = first; each <= last; each++) {
            int stand = guards.standAt(each, minute);
            int less = guards.isTired(each, minute) ? 1 : 0;
            // RANGE is never less in the light: what is near enough for the dark is seen in any case.
            sight |= grid.viewOf(stand, 2 - fog / 2 - less);
            sight |= grid.viewOf(stand, 7 - fog - less) & bright;
        }
        return sight;
    }

    private int guardsWhoSee(int cell, int minute) {
        long bright = brightCells();
        int set = 0;
        for (int guard = 0; guard < guards.count(); guard++) {
            if (isOf(sightOf(guard, minute, bright), cell)) {
                set |= 1 << guard;
            }
        }
        return set;
    }

    private long unseenCells(int minute) {
        return grid.walkable(minute) & ~watchedCells(minute);
    }

    private int gainOfLamp(int cell, int reach, int minute) {
        long bright = brightCells();
        long before = sightOf(NONE, minute, bright);
        long then = sightOf(NONE, minute, bright | grid.viewOf(cell, reach));
        return Long.bitCount(then & ~before & grid.openCells());
    }

    private char signOf(int cell, int minute, long watched) {
        int guard = guards.firstOn(cell, minute);
        if (guard != NONE) {
            return (char) ('0' + guard);
        }
        switch (grid.kindOf(cell)) {
            case WALL:
                return '#';
            case HEDGE:
                return '%';
            case GATE:
                return '+';
            default:
                return isOf(watched, cell) ? ':' : '.';
        }
    }

    // ---- what is kept

    /** The CELLS that may not become WALLS. */
    private long takenCells() {
        return lamps.cells() | posts.asCells() | guards.roundCells() | intruders.wayCells();
    }

    private int countEmptyPosts(int minute) {
        long held = guards.cellsHeld(minute);
        int many = 0;
        for (int post = 0; post < posts.size(); post++) {
            if (!isOf(held, posts.at(post))) {
                many++;
            }
        }
        return many;
    }

    private int countMinutesOfEmptyPosts() {
        int many = 0;
        for (int minute = 0; minute < MINUTES; minute++) {
            if (countEmptyPosts(minute) > 0) {
                many++;
            }
        }
        return many;
    }

    private int countKeysOffDuty(int minute) {
        int many = 0;
        for (int key = 0; key < KEYS; key++) {
            int guard = keys.at(key);
            if (guard != NONE && !guards.isOnDuty(guard, minute)) {
                many++;
            }
        }
        return many;
    }

    // ---- intruders found, and who comes

    private int foundAt(int intruder) {
        long bright = brightCells();
        for (int minute = 0; minute < MINUTES; minute++) {
            int cell = intruders.cellAt(intruder, minute);
            if (cell != NONE && isOf(sightOf(NONE, minute, bright), cell)) {
                return minute;
            }
        }
        return NONE;
    }

    private int countFound() {
        int many = 0;
        for (int intruder = 0; intruder < intruders.count(); intruder++) {
            if (foundAt(intruder) != NONE) {
                many++;
            }
        }
        return many;
    }

    private int findersOf(int intruder, int found) {
        return found == NONE ? 0 : guardsWhoSee(intruders.cellAt(intruder, found), found);
    }

    /** The MINUTE of the first RESPONSE. */
    private int firstArrival(int intruder, int found) {
        int soonest = NONE;
        for (int guard = 0; guard < guards.count(); guard++) {
            int minute = arrival(guard, intruder, found);
            if (minute != NONE && (soonest == NONE || minute < soonest)) {
                soonest = minute;
            }
        }
        return soonest;
    }

    /** The GUARD of the first RESPONSE. */
    private int responder(int intruder, int found) {
        int soonest = firstArrival(intruder, found);
        for (int guard = 0; guard < guards.count(); guard++) {
            if (soonest != NONE && arrival(guard, intruder, found) == soonest) {
                return guard;
            }
        }
        return NONE;
    }

    /** When the GUARD is there; NONE also for one who is not on DUTY then, or if none is FOUND. */
    private int arrival(int guard, int intruder, int found) {
        long reached = found == NONE ? 0 : setOf(guards.standAt(guard, found));
        for (int minute = found; reached != 0 && minute < MINUTES; minute++) {
            if (isOf(reached, intruders.cellAt(intruder, minute))) {
                return minute;
            }
            reached = grid.spread(reached) & grid.openCells();
        }
        return NONE;
    }

    // ---- wires

    private boolean rings(int wire, int minute) {
        int intruding = intruders.countOn(wires.cellOf(wire), minute);
        return wires.ownNoise(wire, minute) + 5 * intruding >= wires.barOf(wire);
    }

    private boolean isIntruded(int wire, int minute) {
        return intruders.countOn(wires.cellOf(wire), minute) > 0;
    }

    private int countRings(int wire, boolean onlyFalseOnes) {
        int many = 0;
        for (int minute = 0; minute < MINUTES; minute++) {
            if (rings(wire, minute) && !(onlyFalseOnes && isIntruded(wire, minute))) {
                many++;
            }
        }
        return many;
    }

    private int firstTrueRing(int wire) {
        for (int minute = 0; minute < MINUTES; minute++) {
            if (isIntruded(wire, minute) && rings(wire, minute)) {
                return minute;
            }
        }
        return NONE;
    }

    // ---- what the night is made of

    /** A row of numbers with a limit: a place of it is looked at before it is used. */
    private static final class Numbers {
        private final int[] held;
        private int size;

        Numbers(int room) {
            held = new int[room < 0 ? 0 : room];
        }

        int size() {
            return size;
        }

        boolean isFull() {
            return size >= held.length;
        }

        int at(int place) {
            return place >= 0 && place < held.length ? held[place] : NONE;
        }

        void put(int place, int number) {
            if (place >= 0 && place < held.length) {
                held[place] = number;
            }
        }

        void add(int number) {
            if (!isFull()) {
                size++;
                put(size - 1, number);
            }
        }

        void clear() {
            size = 0;
        }

        void fill(int number) {
            size = held.length;
            for (int place = 0; place < size; place++) {
                put(place, number);
            }
        }

        /** The set of the places at which the number is. */
        int placesOf(int number) {
            int set = 0;
            for (int place = 0; place < size; place++) {
                if (at(place) == number) {
                    set |= 1 << place;
                }
            }
            return set;
        }

        int countOf(int number) {
            return Integer.bitCount(placesOf(number));
        }

        boolean has(int number) {
            return placesOf(number) != 0;
        }

        /** The numbers as a set of CELLS. */
        long asCells() {
            long set = 0;
            for (int place = 0; place < size; place++) {
                set |= setOf(at(place));
            }
            return set;
        }
    }

    /** The BASE: its CELLS, their KINDS, its GATES, and what is in a clear VIEW of what. */
    private static final class Grid {
        /** CELLS are 0 to 7 APART. */
        private static final int RINGS = 8;
        /** Bit 3 * (down + 1) + (right + 1) for each direction; the middle one leads nowhere. */
        private static final int ALL_DIRECTIONS = 511 - 16;
        private static final int DIRECTIONS = 9;

        private int wide;
        private int high;
        private long firstColumn;
        private long lastColumn;
        private long walls;
        private long hedges;
        private long gateCells;
        private int openFrom = 1;
        private int openTo;
        /** Kept by CELL and by how far APART, for VIEWS are asked far more often than CELLS change. */
        private final long[] views = new long[MOST_CELLS * RINGS];

        int wide() {
            return wide;
        }

        int high() {
            return high;
        }

        int cells() {
            return wide * high;
        }

        void build(int newWide, int newHigh, int seed) {
            wide = newWide;
            high = newHigh;
            drawColumns();
            walls = 0;
            hedges = 0;
            gateCells = 0;
            int number = seed;
            for (int cell = 0; cell < cells(); cell++) {
                number = nextOfRow(number);
                setKind(cell, seed == 100 ? GROUND : kindOfDigit(number % 10));
            }
            openGates(1, 0);
            drawViews();
        }

        void change(int cell, int kind) {
            setKind(cell, kind);
            drawViews();
        }

        /** With to less than from the GATES are never OPEN. */
        void openGates(int from, int to) {
            openFrom = from;
            openTo = to;
        }

        private static int kindOfDigit(int digit) {
            switch (digit) {
                case 0:
                case 1:
                    return WALL;
                case 2:
                    return HEDGE;
                case 3:
                    return GATE;
                default:
                    return GROUND;
            }
        }

        private void setKind(int cell, int kind) {
            long own = setOf(cell);
            walls = kind == WALL ? walls | own : walls & ~own;
            hedges = kind == HEDGE ? hedges | own : hedges & ~own;
            gateCells = kind == GATE ? gateCells | own : gateCells & ~own;
        }

        int kindOf(int cell) {
            if (isOf(walls, cell)) {
                return WALL;
            }
            if (isOf(hedges, cell)) {
                return HEDGE;
            }
            return isOf(gateCells, cell) ? GATE : GROUND;
        }

        boolean isWall(int cell) {
            return isOf(walls, cell);
        }

        int gateCount() {
            return Long.bitCount(gateCells);
        }

        private long allCells() {
            int many = wide * high;
            // A shift by 64 is none in Java: the greatest BASE needs a set of its own.
            return many >= MOST_CELLS ? -1L : (1L << many) - 1;
        }

        /** The CELLS that are no WALLS. */
        long openCells() {
            return allCells() & ~walls;
        }

        long walkable(int minute) {
            boolean areGatesOpen = isIn(minute, openFrom, openTo);
            return areGatesOpen ? openCells() : openCells() & ~gateCells;
        }

        int cellOf(int row, int column) {
            boolean isInside = isIn(row, 0, high - 1) && isIn(column, 0, wide - 1);
            return isInside ? row * wide + column : NONE;
        }

        private int rowOf(int cell) {
            return wide < 1 ? 0 : cell / wide;
        }

        private int columnOf(int cell) {
            return wide < 1 ? 0 : cell % wide;
        }

        /** Where one is behind a MOVE; NONE, if that is outside. */
        int cellBehind(int cell, int move) {
            int row = rowOf(cell);
            int column = columnOf(cell);
            switch (move) {
                case 1:
                    return cellOf(row - 1, column);
                case 2:
                    return cellOf(row, column + 1);
                case 3:
                    return cellOf(row + 1, column);
                case 4:
                    return cellOf(row, column - 1);
                default:
                    return cell;
            }
        }

        /** These CELLS, and all that are BESIDE one of them. */
        long spread(long cells) {
            long right = (cells & ~lastColumn) << 1;
            long left = (cells & ~firstColumn) >>> 1;
            return (cells | cells << wide | cells >>> wide | right | left) & allCells();
        }

        private void drawColumns() {
            firstColumn = 0;
            lastColumn = 0;
            for (int row = 0; row < high; row++) {
                firstColumn |= setOf(cellOf(row, 0));
                lastColumn |= setOf(cellOf(row, wide - 1));
            }
        }

        /** The CELLS IN LINE with one, with a clear VIEW, and no further APART; itself too. */
        long viewOf(int cell, int apart) {
            int ring = apart < 0 ? 0 : apart;
            int place = cell * RINGS + (ring < RINGS ? ring : RINGS - 1);
            return place >= 0 && place < views.length ? views[place] : 0L;
        }

        private void drawViews() {
            for (int cell = 0; cell < cells(); cell++) {
                drawViewsOf(cell);
            }
        }

        private void drawViewsOf(int cell) {
            long seen = setOf(cell);
            int clear = ALL_DIRECTIONS;
            for (int apart = 0; apart < RINGS; apart++) {
                for (int direction = 0; direction < DIRECTIONS; direction++) {
                    if (apart > 0 && (clear & 1 << direction) != 0) {
                        int next = cellToward(cell, direction, apart);
                        boolean isEnd = next == NONE || isOf(walls | hedges, next);
                        seen |= setOf(next);
                        clear = isEnd ? clear & ~(1 << direction) : clear;
                    }
                }
                int place = cell * RINGS + apart;
                if (place >= 0 && place < views.length) {
                    views[place] = seen;
                }
            }
        }

        private int cellToward(int cell, int direction, int apart) {
            int down = direction / 3 - 1;
            int right = direction % 3 - 1;
            return cellOf(rowOf(cell) + apart * down, columnOf(cell) + apart * right);
        }
    }

    private static final class Lamps {
        private static final int MOST = 6;

        private final Numbers cells = new Numbers(MOST);
        private final Numbers reaches = new Numbers(MOST);
        private final Numbers lit = new Numbers(MOST);

        int count() {
            return cells.size();
        }

        boolean isFull() {
            return cells.isFull();
        }

        void forget() {
            cells.clear();
            reaches.clear();
            lit.clear();
        }

        int putUp(int cell, int reach) {
            cells.add(cell);
            reaches.add(reach);
            lit.add(1);
            return count() - 1;
        }

        void turn(int lamp, boolean isLit) {
            lit.put(lamp, isLit ? 1 : 0);
        }

        int countLit() {
            return lit.countOf(1);
        }

        long cells() {
            return cells.asCells();
        }

        long brightCells(Grid grid) {
            long bright = 0;
            for (int lamp = 0; lamp < cells.size(); lamp++) {
                if (lit.at(lamp) == 1) {
                    bright |= grid.viewOf(cells.at(lamp), reaches.at(lamp));
                }
            }
            return bright;
        }
    }

    private static final class Fogs {
        private static final int MOST = 8;

        private final Numbers minutes = new Numbers(MOST);
        private final Numbers densities = new Numbers(MOST);

        boolean isFull() {
            return minutes.isFull();
        }

        void forget() {
            minutes.clear();
            densities.clear();
        }

        int tell(int minute, int fog) {
            minutes.add(minute);
            densities.add(fog);
            return minutes.size();
        }

        int fogAt(int minute) {
            int latest = NONE;
            int fog = 0;
            for (int report = 0; report < minutes.size(); report++) {
                int from = minutes.at(report);
                if (from <= minute && from >= latest) {
                    latest = from;
                    fog = densities.at(report);
                }
            }
            return fog;
        }
    }

    private static final class Guards {
        private static final int MOST_OF_ROUND = 6;
        private static final int FRESH_MINUTES = 90;

        private final Numbers firsts = new Numbers(MOST_GUARDS);
        private final Numbers lasts = new Numbers(MOST_GUARDS);
        private final Numbers stays = new Numbers(MOST_GUARDS);
        private final Numbers lengths = new Numbers(MOST_GUARDS);
        /** MOST_OF_ROUND places for each GUARD. */
        private final Numbers rounds = new Numbers(MOST_GUARDS * MOST_OF_ROUND);

        int count() {
            return firsts.size();
        }

        boolean isFull() {
            return firsts.isFull();
        }

        void forget() {
            firsts.clear();
            lasts.clear();
            stays.clear();
            lengths.clear();
        }

        int enlist(int cell, int from, int to, int stay) {
            firsts.add(from);
            lasts.add(to);
            stays.add(stay);
            lengths.add(0);
            lengthen(count() - 1, cell);
            return count() - 1;
        }

        boolean isRoundFull(int guard) {
            return lengths.at(guard) >= MOST_OF_ROUND;
        }

        int lengthen(int guard, int cell) {
            int length = lengths.at(guard);
            rounds.put(guard * MOST_OF_ROUND + length, cell);
            lengths.put(guard, length + 1);
            return length + 1;
        }

        int firstOf(int guard) {
            return firsts.at(guard);
        }

        int lastOf(int guard) {
            return lasts.at(guard);
        }

        int stayOf(int guard) {
            return stays.at(guard);
        }

        int lengthOf(int guard) {
            return lengths.at(guard);
        }

        int standAt(int guard, int minute) {
            int stay = stays.at(guard);
            int length = lengths.at(guard);
            int since = minute - firsts.at(guard);
            if (since < 0 || minute > lasts.at(guard) || stay < 1 || length < 1) {
                return NONE;
            }
            return rounds.at(guard * MOST_OF_ROUND + since / stay % length);
        }

        boolean isOnDuty(int guard, int minute) {
            return standAt(guard, minute) != NONE;
        }

        /** Of a GUARD on DUTY; whether it is so is not asked again here. */
        boolean isTired(int guard, int minute) {
            return minute - firsts.at(guard) >= FRESH_MINUTES;
        }

        int tiredMinutesOf(int guard) {
            int minutes = lasts.at(guard) - firsts.at(guard) - FRESH_MINUTES + 1;
            return minutes < 0 ? 0 : minutes;
        }

        int countOnDuty(int minute) {
            int many = 0;
            for (int guard = 0; guard < count(); guard++) {
                many += isOnDuty(guard, minute) ? 1 : 0;
            }
            return many;
        }

        int countTired(int minute) {
            int many = 0;
            for (int guard = 0; guard < count(); guard++) {
                many += isOnDuty(guard, minute) && isTired(guard, minute) ? 1 : 0;
            }
            return many;
        }

        /** The set of GUARDS who are on the CELL. */
        int setOn(int cell, int minute) {
            int set = 0;
            for (int guard = 0; guard < count(); guard++) {
                set |= standAt(guard, minute) == cell ? 1 << guard : 0;
            }
            return set;
        }

        int firstOn(int cell, int minute) {
            for (int guard = 0; guard < count(); guard++) {
                if (standAt(guard, minute) == cell) {
                    return guard;
                }
            }
            return NONE;
        }

        /** The CELLS on which a GUARD is. */
        long cellsHeld(int minute) {
            long set = 0;
            for (int guard = 0; guard < count(); guard++) {
                set |= setOf(standAt(guard, minute));
            }
            return set;
        }

        long roundCells() {
            long set = 0;
            for (int guard = 0; guard < count(); guard++) {
                for (int place = 0; place < lengths.at(guard); place++) {
                    set |= setOf(rounds.at(guard * MOST_OF_ROUND + place));
                }
            }
            return set;
        }
    }

    /** The WORDS, and how GUARDS answered. */
    private static final class Words {
        private static final int MOST_LEAKS = 8;
        private static final int RIGHT = 0;
        private static final int REPLAY = 1;
        private static final int OUTDATED = 2;
        private static final int WRONG = 3;
        private static final int BARRED = 4;

        private final Numbers words = new Numbers(HOURS);
        private final Numbers oldOnes = new Numbers(MOST_LEAKS);
        private final Numbers strikes = new Numbers(MOST_GUARDS);
        /** By GUARD the set of HOURS in which it answered rightly. */
        private final Numbers rightHours = new Numbers(MOST_GUARDS);
        private int seed;
        private int latest;
        private int rightAnswers;

        void tell(int newSeed) {
            seed = newSeed;
            startAnew();
        }

        void startAnew() {
            words.clear();
            oldOnes.clear();
            strikes.fill(0);
            rightHours.fill(0);
            rightAnswers = 0;
            latest = seed;
            for (int hour = 0; hour < HOURS; hour++) {
                latest = nextOfRow(latest);
                words.add(latest);
            }
        }

        int wordOf(int hour) {
            return words.at(hour);
        }

        boolean isLeakedOut() {
            return oldOnes.isFull();
        }

        int leaks() {
            return oldOnes.size();
        }

        int replace(int hour) {
            oldOnes.add(words.at(hour));
            latest = nextOfRow(latest);
            words.put(hour, latest);
            return latest;
        }

        int rightAnswers() {
            return rightAnswers;
        }

        int strikesOf(int guard) {
            return strikes.at(guard);
        }

        int hoursOf(int guard) {
            return rightHours.at(guard);
        }

        boolean isBarred(int guard) {
            return strikes.at(guard) >= MOST_STRIKES;
        }

        boolean areStrikesSound() {
            for (int guard = 0; guard < MOST_GUARDS; guard++) {
                if (strikes.at(guard) > MOST_STRIKES) {
                    return false;
                }
            }
            return true;
        }

        int judge(int guard, int hour, int word) {
            if (isBarred(guard)) {
                return BARRED;
            }
            int verdict = verdictOn(guard, hour, word);
            if (verdict == RIGHT) {
                rightHours.put(guard, rightHours.at(guard) | 1 << hour);
                rightAnswers++;
            } else {
                strikes.put(guard, strikes.at(guard) + 1);
            }
            return verdict;
        }

        private int verdictOn(int guard, int hour, int word) {
            if (word == words.at(hour)) {
                return (rightHours.at(guard) & 1 << hour) == 0 ? RIGHT : REPLAY;
            }
            return words.has(word) || oldOnes.has(word) ? OUTDATED : WRONG;
        }
    }

    private static final class Intruders {
        private static final int MOST = 4;
        /** The first CELL, and 14 MOVES: no int has more digits to the base 5. */
        private static final int MOST_OF_WAY = 15;

        private final Numbers firsts = new Numbers(MOST);
        private final Numbers told = new Numbers(MOST);
        private final Numbers made = new Numbers(MOST);
        /** MOST_OF_WAY places for each INTRUDER. */
        private final Numbers ways = new Numbers(MOST * MOST_OF_WAY);
        private final Numbers steps = new Numbers(MOST);
        private final Numbers stepMinutes = new Numbers(MOST);

        int count() {
            return firsts.size();
        }

        boolean isFull() {
            return firsts.isFull();
        }

        void forget() {
            firsts.clear();
            told.clear();
            made.clear();
            steps.clear();
            stepMinutes.clear();
        }

        /** Whether there is such a way: without one nobody has come. */
        boolean come(Grid grid, int cell, int minute, int moves) {
            int many = walk(grid, cell, minute, moves);
            if (many == NONE) {
                return false;
            }
            firsts.add(minute);
            told.add(countDigits(moves));
            made.add(many);
            steps.add(0);
            stepMinutes.add(NONE);
            return true;
        }

        /** Puts the way behind those of all others; returns how many MOVES are made, or NONE. */
        private int walk(Grid grid, int cell, int minute, int moves) {
            int start = count() * MOST_OF_WAY;
            int here = cell;
            int many = 0;
            int power = powerOfLeadingDigit(moves);
            ways.put(start, here);
            while (power > 0 && minute + many < MINUTES - 1 && here != NONE && !grid.isWall(here)) {
                here = grid.cellBehind(here, moves / power % 5);
                many++;
                ways.put(start + many, here);
                power /= 5;
            }
            return here == NONE || grid.isWall(here) ? NONE : many;
        }

        private static int countDigits(int moves) {
            int many = 0;
            for (int rest = moves; rest > 0; rest /= 5) {
                many++;
            }
            return many;
        }

        /** 0 for the number 0, which has no digit. */
        private static int powerOfLeadingDigit(int moves) {
            int power = moves > 0 ? 1 : 0;
            for (int rest = moves / 5; rest > 0; rest /= 5) {
                power *= 5;
            }
            return power;
        }

        int firstOf(int intruder) {
            return firsts.at(intruder);
        }

        int movesOf(int intruder) {
            return told.at(intruder);
        }

        int cellAt(int intruder, int minute) {
            int since = minute - firsts.at(intruder);
            int last = made.at(intruder);
            return since < 0 ? NONE : ways.at(intruder * MOST_OF_WAY + (since < last ? since : last));
        }

        int countOn(int cell, int minute) {
            int many = 0;
            for (int intruder = 0; intruder < count(); intruder++) {
                many += cellAt(intruder, minute) == cell ? 1 : 0;
            }
            return many;
        }

        long wayCells() {
            long set = 0;
            for (int intruder = 0; intruder < count(); intruder++) {
                for (int place = 0; place <= made.at(intruder); place++) {
                    set |= setOf(ways.at(intruder * MOST_OF_WAY + place));
                }
            }
            return set;
        }

        int stepsOf(int intruder) {
            return steps.at(intruder);
        }

        int stepMinuteOf(int intruder) {
            return stepMinutes.at(intruder);
        }

        boolean isNextStep(int intruder, int step, int minute) {
            return step == steps.at(intruder) && minute >= stepMinutes.at(intruder);
        }

        int addStep(int intruder, int minute) {
            steps.put(intruder, steps.at(intruder) + 1);
            stepMinutes.put(intruder, minute);
            return steps.at(intruder);
        }

        boolean areStepsSound() {
            for (int intruder = 0; intruder < count(); intruder++) {
                if (steps.at(intruder) > MOST_STEPS) {
                    return false;
                }
            }
            return true;
        }
    }

    private static final class Wires {
        private static final int MOST = 5;

        private final Numbers cells = new Numbers(MOST);
        private final Numbers bars = new Numbers(MOST);

        int count() {
            return cells.size();
        }

        boolean isFull() {
            return cells.isFull();
        }

        void forget() {
            cells.clear();
            bars.clear();
        }

        int stretch(int cell, int bar) {
            cells.add(cell);
            bars.add(bar);
            return count() - 1;
        }

        int cellOf(int wire) {
            return cells.at(wire);
        }

        int barOf(int wire) {
            return bars.at(wire);
        }

        /** Its NOISE, if no INTRUDER is on its CELL. */
        int ownNoise(int wire, int minute) {
            return (29 * minute + 7 * cells.at(wire)) % 11;
        }
    }
}
