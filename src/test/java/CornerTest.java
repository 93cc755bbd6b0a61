import java.lang.reflect.Method;
import java.util.ArrayList;
import java.util.Arrays;
import java.util.List;

/**
 * Each method with the least and the greatest number that is let and those just outside of them, each pair, triple and
 * four of these at once, on a new object, a night with some of each and a night that is full. What is due is told here
 * by the document's Throws lines, in their order, as far as numbers are outside; the rest is told by PlainNight.
 */
public final class CornerTest {
    private static final int LEAST = Integer.MIN_VALUE;
    private static final int MOST = Integer.MAX_VALUE;

    private final Nights night;
    private final int cells;
    private final String before;

    private CornerTest(Nights night) {
        this.night = night;
        cells = night.plain().many(0);
        before = Script.answer(night.build(new NightwatchWall()), "digest()");
    }

    /** An argument: the numbers that it takes here, those that are let, and what is thrown otherwise. */
    private static final class Kind {
        final String thrown;
        final int least;
        final int greatest;
        final List<Object> taken = new ArrayList<>();

        Kind(String thrown, int least, int greatest, int... more) {
            this.thrown = thrown;
            this.least = least;
            this.greatest = greatest;
            int[] edges = {LEAST, least - 1, least, greatest, greatest + 1, MOST};
            for (int number : edges) {
                add(number);
            }
            for (int number : more) {
                add(number);
            }
        }

        private void add(int number) {
            if (!taken.contains(number)) {
                taken.add(number);
            }
        }

        boolean isLet(Object number) {
            return number instanceof Boolean || (int) number >= least && (int) number <= greatest;
        }
    }

    private static Kind index(int least, int count, int... more) {
        return new Kind("index", least, count - 1, more);
    }

    private static Kind argument(int least, int greatest, int... more) {
        return new Kind("argument", least, greatest, more);
    }

    private static Kind truth() {
        Kind kind = new Kind("argument", 0, 0);
        kind.taken.clear();
        kind.taken.addAll(Arrays.asList(true, false));
        return kind;
    }

    public static void main(String[] args) {
        for (Nights night : new Nights[] {Nights.NEW, Nights.SOME, Nights.FULL}) {
            CornerTest test = new CornerTest(night);
            int methods = 0;
            for (Method method : NightwatchWall.class.getMethods()) {
                if (method.getDeclaringClass() == NightwatchWall.class) {
                    test.corners(method.getName());
                    methods++;
                }
            }
            Script.due("methods with corners", "34", String.valueOf(methods));
        }
        Script.end();
    }

    private void corners(String method) {
        List<Kind> kinds = kindsOf(method);
        corners(method, kinds, new Object[kinds.size()], 0);
    }

    private void corners(String method, List<Kind> kinds, Object[] numbers, int place) {
        if (place == kinds.size()) {
            corner(method, kinds, numbers);
            return;
        }
        for (Object number : kinds.get(place).taken) {
            numbers[place] = number;
            corners(method, kinds, numbers, place + 1);
        }
    }

    private void corner(String method, List<Kind> kinds, Object[] numbers) {
        String told = night.name() + ": " + method + Arrays.asList(numbers);
        NightwatchWall wall = night.build(new NightwatchWall());
        String got = Script.answer(wall, method, numbers);
        String thrown = thrownBy(method, kinds, numbers);
        if (!thrown.isEmpty()) {
            Script.due(told, thrown, got);
        }
        PlainNight plain = night.build(new PlainNight());
        Script.due(told, Script.answer(plain, method, numbers), got);
        boolean isRefused = List.of("index", "argument", "state").contains(got);
        String after = Script.answer(wall, "digest()");
        Script.due(told + ", digest", isRefused ? before : Script.answer(plain, "digest()"), after);
    }

    /** What is thrown for numbers that are outside: an index ahead of an argument; nothing here about what stands. */
    private String thrownBy(String method, List<Kind> kinds, Object[] numbers) {
        String thrown = "";
        for (int k = 0; k < numbers.length; k++) {
            if (!kinds.get(k).isLet(numbers[k])) {
                thrown = thrown.equals("index") ? thrown : kinds.get(k).thrown;
            }
        }
        if (!thrown.isEmpty()) {
            return thrown;
        }
        boolean isTurned = method.equals("guard") && (int) numbers[2] < (int) numbers[1]
            || method.equals("lapse") && (int) numbers[2] < (int) numbers[1];
        boolean isBehind = method.equals("reach") && (int) numbers[1] + (int) numbers[2] > 239;
        return isTurned || isBehind ? "argument" : "";
    }

    private Kind cell() {
        return index(0, cells, 2, 7);
    }

    private static Kind minute() {
        return argument(0, 239);
    }

    private Kind number(int what) {
        return index(0, night.plain().many(what));
    }

    private Kind numberOrNone(int what) {
        return index(-1, night.plain().many(what), 0);
    }

    private List<Kind> kindsOf(String method) {
        switch (method) {
            case "base": return List.of(argument(3, 8), argument(3, 8), argument(0, 100, 99));
            case "lay": return List.of(cell(), argument(0, 3, 1, 2));
            case "gates": return List.of(minute(), minute());
            case "lamp": return List.of(cell(), argument(1, 4));
            case "light": return List.of(number(1), truth());
            case "fog": return List.of(minute(), argument(0, 5));
            case "guard": return List.of(cell(), minute(), minute(), argument(1, 20));
            case "round": return List.of(index(0, night.plain().many(3)), cell());
            case "post": return List.of(cell());
            case "place": return List.of(number(3), minute());
            case "sees": return List.of(numberOrNone(3), cell(), minute());
            case "ofCell": return List.of(cell(), minute(), argument(0, 4));
            case "ofMinute": return List.of(minute(), argument(0, 6));
            case "empty": return List.of(number(4), truth());
            case "lapse": return List.of(cell(), minute(), minute());
            case "words": return List.of(argument(0, 99));
            case "leak": return List.of(argument(0, 3));
            case "answer": return List.of(number(3), minute(), argument(LEAST, MOST, 15, 18, 43, 79));
            case "key": return List.of(index(0, 6), numberOrNone(3));
            case "ofGuard": return List.of(number(3), argument(0, 8));
            case "intruder": return List.of(cell(), minute(), argument(0, MOST, 1, 2, 3, 4));
            case "wire": return List.of(cell(), argument(1, 12));
            case "where": return List.of(number(5), minute());
            case "ofIntruder": return List.of(number(5), argument(0, 8));
            case "force": return List.of(number(5), argument(0, 3, 2), argument(0, 239, 119, 120));
            case "ofWire": return List.of(number(7), argument(0, 4));
            case "sneak": return List.of(cell(), cell(), minute(), argument(0, 60));
            case "reach": return List.of(cell(), argument(0, 239, 179, 180), argument(0, 60));
            case "nextLamp": return List.of(minute(), argument(1, 4), truth());
            case "many": return List.of(argument(0, 12));
            case "drawn": return List.of(index(0, night == Nights.NEW ? 0 : 4), minute());
            default: return List.of();
        }
    }
}
