import java.util.ArrayDeque;
import java.util.ArrayList;
import java.util.Arrays;
import java.util.HashSet;
import java.util.List;
import java.util.Set;
import java.util.TreeSet;
import java.util.function.IntPredicate;
import java.util.stream.IntStream;

/**
 * The document once more, told CELL by CELL and MINUTE by MINUTE with lists and sets of the Java library,
 * and with nothing taken over from the program: both have to give the same answers.
 */
final class PlainNight {
    private static final int NONE = -1;

    private static final class Lamp {
        int cell;
        int reach;
        boolean isLit = true;
    }

    private static final class Guard {
        int from;
        int to;
        int stay;
        List<Integer> round = new ArrayList<>();
        int strikes;
        Set<Integer> hours = new TreeSet<>();
    }

    private static final class Intruder {
        int first;
        int told;
        List<Integer> way = new ArrayList<>();
        List<Integer> steps = new ArrayList<>();
    }

    private int wide;
    private int high;
    private int[] kinds = new int[0];
    private int openFrom = 1;
    private int openTo = 0;
    private final List<Lamp> lamps = new ArrayList<>();
    private final List<int[]> fogs = new ArrayList<>();
    private final List<Guard> guards = new ArrayList<>();
    private final List<Integer> posts = new ArrayList<>();
    private final List<Intruder> intruders = new ArrayList<>();
    private final List<int[]> wires = new ArrayList<>();
    private final int[] keys = {NONE, NONE, NONE, NONE, NONE, NONE};
    private int seed;
    private int[] hourWords = rowOf(0, 4);
    private List<Integer> old = new ArrayList<>();
    private int rights;
    private int refused;

    private static int[] rowOf(int seed, int many) {
        int[] row = new int[many];
        for (int k = 0; k < many; k++) {
            row[k] = (23 * (k == 0 ? seed : row[k - 1]) + 15) % 97;
        }
        return row;
    }

    // ---- tests of arguments

    private static void index(boolean isThere) {
        if (!isThere) {
            throw new IndexOutOfBoundsException();
        }
    }

    private static void argument(boolean isLet) {
        if (!isLet) {
            throw new IllegalArgumentException();
        }
    }

    private static void state(boolean isLet) {
        if (!isLet) {
            throw new IllegalStateException();
        }
    }

    private void indexCell(int cell) {
        index(0 <= cell && cell < kinds.length);
    }

    private void indexGuard(int guard) {
        index(0 <= guard && guard < guards.size());
    }

    private static boolean inNight(int minute) {
        return 0 <= minute && minute <= 239;
    }

    private static int count(int end, IntPredicate test) {
        return (int) IntStream.range(0, end).filter(test).count();
    }

    private static int firstOf(int from, int end, IntPredicate test) {
        return IntStream.range(from, end).filter(test).findFirst().orElse(NONE);
    }

    private static int set(int end, IntPredicate test) {
        return IntStream.range(0, end).filter(test).map(k -> 1 << k).sum();
    }

    // ---- the base

    int base(int newWide, int newHigh, int newSeed) {
        argument(3 <= newWide && newWide <= 8 && 3 <= newHigh && newHigh <= 8 && 0 <= newSeed && newSeed <= 100);
        wide = newWide;
        high = newHigh;
        kinds = new int[wide * high];
        int[] row = rowOf(newSeed, kinds.length);
        int[] byDigit = {1, 1, 2, 3, 0, 0, 0, 0, 0, 0};
        for (int cell = 0; cell < kinds.length && newSeed < 100; cell++) {
            kinds[cell] = byDigit[row[cell] % 10];
        }
        openFrom = 1;
        openTo = 0;
        lamps.clear();
        fogs.clear();
        guards.clear();
        posts.clear();
        intruders.clear();
        wires.clear();
        Arrays.fill(keys, NONE);
        startWords();
        return count(kinds.length, cell -> kinds[cell] != 1);
    }

    private void startWords() {
        hourWords = rowOf(seed, 4);
        old = new ArrayList<>();
        rights = 0;
        for (Guard guard : guards) {
            guard.strikes = 0;
            guard.hours.clear();
        }
    }

    int lay(int cell, int kind) {
        indexCell(cell);
        argument(0 <= kind && kind <= 3);
        boolean isUsed = lamps.stream().anyMatch(lamp -> lamp.cell == cell) || posts.contains(cell)
                || guards.stream().anyMatch(guard -> guard.round.contains(cell))
                || intruders.stream().anyMatch(intruder -> intruder.way.contains(cell));
        state(kind != 1 || !isUsed);
        int before = kinds[cell];
        kinds[cell] = kind;
        return before;
    }

    int gates(int from, int to) {
        argument(inNight(from) && inNight(to));
        openFrom = from;
        openTo = to;
        return count(kinds.length, cell -> kinds[cell] == 3);
    }

    int lamp(int cell, int reach) {
        indexCell(cell);
        argument(1 <= reach && reach <= 4);
        state(lamps.size() < 6 && kinds[cell] != 1);
        Lamp lamp = new Lamp();
        lamp.cell = cell;
        lamp.reach = reach;
        lamps.add(lamp);
        return lamps.size() - 1;
    }

    int light(int lamp, boolean isLit) {
        index(0 <= lamp && lamp < lamps.size());
        lamps.get(lamp).isLit = isLit;
        return count(kinds.length, this::isBright);
    }

    int fog(int minute, int fog) {
        argument(inNight(minute) && 0 <= fog && fog <= 5);
        state(fogs.size() < 8);
        fogs.add(new int[] {minute, fog});
        return fogs.size();
    }

    private int fogAt(int minute) {
        for (int m = minute; m >= 0; m--) {
            for (int k = fogs.size() - 1; k >= 0; k--) {
                if (fogs.get(k)[0] == m) {
                    return fogs.get(k)[1];
                }
            }
        }
        return 0;
    }

    private int rows(int a, int b) {
        return Math.abs(a / wide - b / wide);
    }

    private int columns(int a, int b) {
        return Math.abs(a % wide - b % wide);
    }

    private int apart(int a, int b) {
        return Math.max(rows(a, b), columns(a, b));
    }

    private boolean hasClearView(int a, int b) {
        if (rows(a, b) != 0 && columns(a, b) != 0 && rows(a, b) != columns(a, b)) {
            return false;
        }
        int step = Integer.signum(b / wide - a / wide) * wide + Integer.signum(b % wide - a % wide);
        for (int k = 1; k < apart(a, b); k++) {
            int kind = kinds[a + k * step];
            if (kind == 1 || kind == 2) {
                return false;
            }
        }
        return true;
    }

    private boolean lights(int from, int reach, int cell) {
        return from == cell || hasClearView(from, cell) && apart(from, cell) <= reach;
    }

    private boolean isBright(int cell) {
        return lamps.stream().anyMatch(lamp -> lamp.isLit && lights(lamp.cell, lamp.reach, cell));
    }

    // ---- guards and posts

    int guard(int cell, int from, int to, int stay) {
        indexCell(cell);
        argument(inNight(from) && inNight(to) && to >= from && 1 <= stay && stay <= 20);
        state(guards.size() < 6 && kinds[cell] != 1);
        Guard guard = new Guard();
        guard.from = from;
        guard.to = to;
        guard.stay = stay;
        guard.round.add(cell);
        guards.add(guard);
        return guards.size() - 1;
    }

    int round(int guard, int cell) {
        indexGuard(guard);
        indexCell(cell);
        state(guards.get(guard).round.size() < 6 && kinds[cell] != 1);
        guards.get(guard).round.add(cell);
        return guards.get(guard).round.size();
    }

    int post(int cell) {
        indexCell(cell);
        state(posts.size() < 4 && kinds[cell] != 1);
        posts.add(cell);
        return posts.size() - 1;
    }

    private boolean isOnDuty(int guard, int minute) {
        return guards.get(guard).from <= minute && minute <= guards.get(guard).to;
    }

    private int stand(int number, int minute) {
        Guard guard = guards.get(number);
        if (!isOnDuty(number, minute)) {
            return NONE;
        }
        int place = 0;
        int stayed = 0;
        for (int m = guard.from; m < minute; m++) {
            stayed++;
            if (stayed == guard.stay) {
                stayed = 0;
                place = place + 1 == guard.round.size() ? 0 : place + 1;
            }
        }
        return guard.round.get(place);
    }

    private boolean isTired(int guard, int minute) {
        return isOnDuty(guard, minute) && minute >= guards.get(guard).from + 90;
    }

    private boolean seesIf(int guard, int cell, int minute, boolean isBright) {
        int stand = stand(guard, minute);
        if (stand == NONE) {
            return false;
        }
        int range = isBright ? 7 - fogAt(minute) : 2 - fogAt(minute) / 2;
        range = Math.max(0, range - (isTired(guard, minute) ? 1 : 0));
        return stand == cell || hasClearView(stand, cell) && apart(stand, cell) <= range;
    }

    private boolean isSeen(int guard, int cell, int minute) {
        return seesIf(guard, cell, minute, isBright(cell));
    }

    private boolean isWatchedIf(int cell, int minute, boolean isBright) {
        return IntStream.range(0, guards.size()).anyMatch(guard -> seesIf(guard, cell, minute, isBright));
    }

    private boolean isWatched(int cell, int minute) {
        return isWatchedIf(cell, minute, isBright(cell));
    }

    private boolean isEmpty(int post, int minute) {
        return IntStream.range(0, guards.size()).noneMatch(guard -> stand(guard, minute) == posts.get(post));
    }

    private boolean canWalk(int cell, int minute) {
        return kinds[cell] != 1 && (kinds[cell] != 3 || openFrom <= minute && minute <= openTo);
    }

    int place(int guard, int minute) {
        indexGuard(guard);
        argument(inNight(minute));
        return stand(guard, minute);
    }

    boolean sees(int guard, int cell, int minute) {
        index(guard == NONE || 0 <= guard && guard < guards.size());
        indexCell(cell);
        argument(inNight(minute));
        return guard == NONE ? isWatched(cell, minute) : isSeen(guard, cell, minute);
    }

    int ofCell(int cell, int minute, int what) {
        indexCell(cell);
        argument(inNight(minute) && 0 <= what && what <= 4);
        int[] answers = {kinds[cell], isBright(cell) ? 1 : 0,
            set(guards.size(), guard -> isSeen(guard, cell, minute)),
            set(guards.size(), guard -> stand(guard, minute) == cell), canWalk(cell, minute) ? 1 : 0};
        return answers[what];
    }

    int ofMinute(int minute, int what) {
        argument(inNight(minute) && 0 <= what && what <= 6);
        int[] answers = {fogAt(minute),
            count(kinds.length, cell -> kinds[cell] != 1 && !isWatched(cell, minute)),
            count(guards.size(), guard -> isOnDuty(guard, minute)),
            count(guards.size(), guard -> isTired(guard, minute)),
            count(posts.size(), post -> isEmpty(post, minute)),
            count(kinds.length, this::isBright),
            count(6, key -> keys[key] != NONE && !isOnDuty(keys[key], minute))};
        return answers[what];
    }

    int empty(int post, boolean isFirst) {
        index(0 <= post && post < posts.size());
        return isFirst ? firstOf(0, 240, m -> isEmpty(post, m)) : count(240, m -> isEmpty(post, m));
    }

    int lapse(int cell, int from, int to) {
        indexCell(cell);
        argument(inNight(from) && inNight(to) && to >= from);
        return firstOf(from, to + 1, minute -> !isWatched(cell, minute));
    }

    // ---- words and keys

    int words(int newSeed) {
        argument(0 <= newSeed && newSeed <= 99);
        seed = newSeed;
        startWords();
        return hourWords[0];
    }

    int leak(int hour) {
        argument(0 <= hour && hour <= 3);
        state(old.size() < 8);
        old.add(hourWords[hour]);
        hourWords[hour] = rowOf(seed, 4 + old.size())[3 + old.size()];
        return hourWords[hour];
    }

    int answer(int guard, int minute, int word) {
        indexGuard(guard);
        argument(inNight(minute));
        Guard who = guards.get(guard);
        int hour = minute / 60;
        if (who.strikes == 3) {
            return 4;
        }
        if (hourWords[hour] == word && who.hours.add(hour)) {
            rights++;
            return 0;
        }
        who.strikes++;
        if (hourWords[hour] == word) {
            return 1;
        }
        return Arrays.stream(hourWords).anyMatch(w -> w == word) || old.contains(word) ? 2 : 3;
    }

    int key(int key, int guard) {
        index(0 <= key && key <= 5);
        index(guard == NONE || 0 <= guard && guard < guards.size());
        int before = keys[key];
        keys[key] = guard;
        return before;
    }

    int ofGuard(int guard, int what) {
        indexGuard(guard);
        argument(0 <= what && what <= 8);
        Guard who = guards.get(guard);
        int[] answers = {who.from, who.to, who.stay, who.round.size(), who.strikes, who.strikes == 3 ? 1 : 0,
            set(6, key -> keys[key] == guard), set(4, who.hours::contains),
            count(240, minute -> isTired(guard, minute))};
        return answers[what];
    }

    // ---- intruders and wires

    private boolean isInside(int row, int column) {
        return 0 <= row && row < high && 0 <= column && column < wide;
    }

    int intruder(int cell, int minute, int moves) {
        indexCell(cell);
        argument(inNight(minute) && moves >= 0);
        state(intruders.size() < 4);
        Intruder intruder = new Intruder();
        intruder.first = minute;
        String digits = moves == 0 ? "" : Integer.toString(moves, 5);
        intruder.told = digits.length();
        int row = cell / wide;
        int column = cell % wide;
        state(kinds[cell] != 1);
        intruder.way.add(cell);
        for (int k = 0; k < digits.length() && minute + k + 1 <= 239; k++) {
            char digit = digits.charAt(k);
            row += digit == '1' ? -1 : digit == '3' ? 1 : 0;
            column += digit == '2' ? 1 : digit == '4' ? -1 : 0;
            state(isInside(row, column));
            state(kinds[row * wide + column] != 1);
            intruder.way.add(row * wide + column);
        }
        intruders.add(intruder);
        return intruders.size() - 1;
    }

    private int whereIs(int number, int minute) {
        Intruder intruder = intruders.get(number);
        return minute < intruder.first ? NONE
                : intruder.way.get(Math.min(minute - intruder.first, intruder.way.size() - 1));
    }

    private int found(int intruder) {
        return firstOf(intruders.get(intruder).first, 240, m -> isWatched(whereIs(intruder, m), m));
    }

    /** How many MINUTES it takes at least over CELLS that are no WALLS. */
    private int[] distances(int start) {
        int[] far = new int[kinds.length];
        Arrays.fill(far, 1000);
        far[start] = 0;
        ArrayDeque<Integer> next = new ArrayDeque<>(List.of(start));
        while (!next.isEmpty()) {
            int cell = next.remove();
            for (int other = 0; other < kinds.length; other++) {
                if (rows(cell, other) + columns(cell, other) == 1 && kinds[other] != 1 && far[other] == 1000) {
                    far[other] = far[cell] + 1;
                    next.add(other);
                }
            }
        }
        return far;
    }

    /** The first RESPONSE: its MINUTE and its GUARD. */
    private int[] response(int intruder) {
        int found = found(intruder);
        for (int m = found; found != NONE && m <= 239; m++) {
            for (int guard = 0; guard < guards.size(); guard++) {
                int stand = stand(guard, found);
                if (stand != NONE && distances(stand)[whereIs(intruder, m)] <= m - found) {
                    return new int[] {m, guard};
                }
            }
        }
        return new int[] {NONE, NONE};
    }

    int where(int intruder, int minute) {
        index(0 <= intruder && intruder < intruders.size());
        argument(inNight(minute));
        return whereIs(intruder, minute);
    }

    int ofIntruder(int intruder, int what) {
        index(0 <= intruder && intruder < intruders.size());
        argument(0 <= what && what <= 8);
        Intruder who = intruders.get(intruder);
        int found = what >= 3 && what <= 4 ? found(intruder) : NONE;
        switch (what) {
            case 0: return who.first;
            case 1: return who.told;
            case 2: return whereIs(intruder, 239);
            case 3: return found;
            case 4: return found == NONE ? 0
                    : set(guards.size(), guard -> isSeen(guard, whereIs(intruder, found), found));
            case 5: return response(intruder)[0];
            case 6: return response(intruder)[1];
            case 7: return who.steps.size();
            default: return who.steps.isEmpty() ? NONE : who.steps.get(who.steps.size() - 1);
        }
    }

    int force(int intruder, int step, int minute) {
        index(0 <= intruder && intruder < intruders.size());
        argument(0 <= step && step <= 3 && inNight(minute));
        List<Integer> steps = intruders.get(intruder).steps;
        state(step == steps.size());
        state(found(intruder) != NONE && found(intruder) <= minute);
        state(steps.stream().allMatch(earlier -> earlier <= minute));
        steps.add(minute);
        return steps.size();
    }

    int wire(int cell, int bar) {
        indexCell(cell);
        argument(1 <= bar && bar <= 12);
        state(wires.size() < 5);
        wires.add(new int[] {cell, bar});
        return wires.size() - 1;
    }

    private int guests(int wire, int minute) {
        return count(intruders.size(), intruder -> whereIs(intruder, minute) == wires.get(wire)[0]);
    }

    private boolean isRinging(int wire, int minute) {
        int noise = (29 * minute + 7 * wires.get(wire)[0]) % 11 + 5 * guests(wire, minute);
        return noise >= wires.get(wire)[1];
    }

    int ofWire(int wire, int what) {
        index(0 <= wire && wire < wires.size());
        argument(0 <= what && what <= 4);
        int[] answers = {wires.get(wire)[0], wires.get(wire)[1], count(240, m -> isRinging(wire, m)),
            count(240, m -> isRinging(wire, m) && guests(wire, m) == 0),
            firstOf(0, 240, m -> isRinging(wire, m) && guests(wire, m) > 0)};
        return answers[what];
    }

    // ---- what would be

    /** The CELLS on which one can be, so many MINUTES behind the first one, a set for each. */
    private List<Set<Integer>> sneaks(int from, int minute, int most) {
        List<Set<Integer>> all = new ArrayList<>();
        for (int k = 0; k <= most && minute + k <= 239; k++) {
            int now = minute + k;
            Set<Integer> here = new HashSet<>();
            for (int cell = 0; cell < kinds.length; cell++) {
                boolean isNext = k == 0 && cell == from;
                for (int before : k == 0 ? Set.<Integer>of() : all.get(k - 1)) {
                    isNext |= rows(before, cell) + columns(before, cell) <= 1;
                }
                if (isNext && canWalk(cell, now) && !isWatched(cell, now)) {
                    here.add(cell);
                }
            }
            all.add(here);
        }
        return all;
    }

    int sneak(int from, int to, int minute, int most) {
        indexCell(from);
        indexCell(to);
        argument(inNight(minute) && 0 <= most && most <= 60);
        List<Set<Integer>> all = sneaks(from, minute, most);
        return firstOf(0, all.size(), k -> all.get(k).contains(to));
    }

    int reach(int from, int minute, int most) {
        indexCell(from);
        argument(inNight(minute) && 0 <= most && most <= 60);
        argument(minute + most <= 239);
        return sneaks(from, minute, most).get(most).size();
    }

    int nextLamp(int minute, int reach, boolean isCell) {
        argument(inNight(minute) && 1 <= reach && reach <= 4);
        int best = NONE;
        int most = NONE;
        for (int at = 0; at < kinds.length; at++) {
            int lamp = at;
            int gain = kinds[lamp] == 1 ? NONE
                    : count(kinds.length, cell -> kinds[cell] != 1 && !isWatched(cell, minute)
                            && isWatchedIf(cell, minute, isBright(cell) || lights(lamp, reach, cell)));
            if (gain > most) {
                best = lamp;
                most = gain;
            }
        }
        return isCell ? best : most;
    }

    // ---- all of it

    int many(int what) {
        argument(0 <= what && what <= 12);
        switch (what) {
            case 0: return kinds.length;
            case 1: return lamps.size();
            case 2: return (int) lamps.stream().filter(lamp -> lamp.isLit).count();
            case 3: return guards.size();
            case 4: return posts.size();
            case 5: return intruders.size();
            case 6: return count(intruders.size(), intruder -> found(intruder) != NONE);
            case 7: return wires.size();
            case 8: return count(6, key -> keys[key] != NONE);
            case 9: return old.size();
            case 10: return rights;
            case 11: return count(240, m -> IntStream.range(0, posts.size()).anyMatch(post -> isEmpty(post, m)));
            default: return refused;
        }
    }

    String drawn(int row, int minute) {
        index(0 <= row && row < high);
        argument(inNight(minute));
        String line = "";
        for (int cell = row * wide; cell < (row + 1) * wide; cell++) {
            int here = cell;
            int guard = firstOf(0, guards.size(), g -> stand(g, minute) == here);
            String ground = isWatched(cell, minute) ? ":" : ".";
            line += guard != NONE ? "" + guard : new String[] {ground, "#", "%", "+"}[kinds[cell]];
        }
        return line;
    }

    boolean isSound() {
        return true;
    }

    int knock() {
        return ++refused;
    }

    long digest() {
        List<Integer> all = new ArrayList<>();
        IntStream.rangeClosed(0, 12).forEach(what -> all.add(many(what)));
        for (int minute : new int[] {0, 60, 120, 180}) {
            IntStream.rangeClosed(0, 6).forEach(what -> all.add(ofMinute(minute, what)));
        }
        for (int cell = 0; cell < kinds.length; cell++) {
            int here = cell;
            IntStream.rangeClosed(0, 4).forEach(what -> all.add(ofCell(here, 120, what)));
        }
        for (int guard = 0; guard < guards.size(); guard++) {
            int who = guard;
            IntStream.rangeClosed(0, 8).forEach(what -> all.add(ofGuard(who, what)));
        }
        for (int post = 0; post < posts.size(); post++) {
            all.add(empty(post, true));
            all.add(empty(post, false));
        }
        for (int intruder = 0; intruder < intruders.size(); intruder++) {
            int who = intruder;
            IntStream.rangeClosed(0, 8).forEach(what -> all.add(ofIntruder(who, what)));
        }
        for (int wire = 0; wire < wires.size(); wire++) {
            int which = wire;
            IntStream.rangeClosed(0, 4).forEach(what -> all.add(ofWire(which, what)));
        }
        all.add(1);
        long d = 9241;
        for (int v : all) {
            d = d * 31 + v;
        }
        return d;
    }
}
