import java.lang.reflect.Method;
import java.util.ArrayList;
import java.util.HashMap;
import java.util.List;
import java.util.Map;
import java.util.Random;

/**
 * Long runs of calls, drawn by fixed seeds, on the program and on PlainNight: all answers have to be the same.
 * At the end each method of the face must have answered, and must have thrown each exception that it names.
 */
public final class ModelTest {
    private static final int RUNS = 240;
    private static final int CALLS = 511;
    private static final int[] WRONG = {-1, -2, 64, 240, 1000, Integer.MIN_VALUE, Integer.MAX_VALUE};

    /** What is called, as often as it stands here: at first what builds, later all. */
    private static final String[] BUILDING = {"lay", "lay", "lay", "gates", "lamp", "lamp", "light", "fog", "guard",
        "guard", "round", "round", "post", "words", "key", "intruder", "intruder", "wire", "wire"};
    private static final String[] ASKING = {"place", "sees", "sees", "ofCell", "ofCell", "ofMinute", "ofMinute",
        "empty", "lapse", "lapse", "leak", "answer", "answer", "answer", "answer", "ofGuard", "ofGuard", "where",
        "ofIntruder", "ofIntruder", "force", "force", "ofWire", "ofWire", "sneak", "reach", "nextLamp", "many",
        "drawn", "isSound", "knock", "digest"};

    private final Random chance;
    private final NightwatchWall wall = new NightwatchWall();
    private final PlainNight plain = new PlainNight();
    private final Map<String, Integer> seen;
    private int wide;
    private int high;
    private int wordSeed;

    private ModelTest(int run, Map<String, Integer> seen) {
        chance = new Random(run);
        this.seen = seen;
    }

    public static void main(String[] args) {
        Map<String, Integer> seen = new HashMap<>();
        for (int run = 0; run < RUNS; run++) {
            new ModelTest(run, seen).go(run);
        }
        for (Method method : NightwatchWall.class.getMethods()) {
            if (method.getDeclaringClass() == NightwatchWall.class) {
                demand(seen, method);
            }
        }
        Script.end();
    }

    private static void demand(Map<String, Integer> seen, Method method) {
        List<String> outcomes = new ArrayList<>(List.of("an answer"));
        for (Class<?> thrown : method.getExceptionTypes()) {
            outcomes.add(thrown == IndexOutOfBoundsException.class ? "index"
                    : thrown == IllegalArgumentException.class ? "argument" : "state");
        }
        for (String outcome : outcomes) {
            String key = method.getName() + " " + outcome;
            Script.due("the runs see " + key, "true", String.valueOf(seen.getOrDefault(key, 0) > 0));
        }
    }

    private void go(int run) {
        int calls = 0;
        if (chance.nextInt(10) > 0) {
            call(run, calls++, "base");
        }
        int building = 20 + chance.nextInt(80);
        while (calls < CALLS) {
            boolean isAsking = chance.nextInt(100) < (calls < building ? 20 : 85);
            String name = isAsking ? pick(ASKING) : pick(BUILDING);
            call(run, calls++, chance.nextInt(250) == 0 ? "base" : name);
        }
        call(run, calls, "digest");
    }

    private void call(int run, int number, String name) {
        Object[] arguments = argumentsOf(name);
        String want = Script.answer(plain, name, arguments);
        String got = Script.answer(wall, name, arguments);
        Script.due("run " + run + ", call " + number + ", " + name + List.of(arguments), want, got);
        boolean isThrown = want.equals("index") || want.equals("argument") || want.equals("state");
        seen.merge(name + " " + (isThrown ? want : "an answer"), 1, Integer::sum);
        if (!isThrown && name.equals("base")) {
            wide = (int) arguments[0];
            high = (int) arguments[1];
        }
        if (!isThrown && name.equals("words")) {
            wordSeed = (int) arguments[0];
        }
    }

    private String pick(String[] names) {
        return names[chance.nextInt(names.length)];
    }

    private boolean isRare() {
        return chance.nextInt(60) == 0;
    }

    /** A number of these, now and then one beside them, or far off. */
    private int in(int least, int greatest) {
        if (isRare()) {
            return chance.nextBoolean() ? WRONG[chance.nextInt(WRONG.length)]
                    : chance.nextBoolean() ? least - 1 : greatest + 1;
        }
        return greatest < least ? least : least + chance.nextInt(greatest - least + 1);
    }

    private int cell() {
        return in(0, wide * high - 1);
    }

    private int minute() {
        int[] edges = {0, 1, 59, 60, 89, 90, 91, 119, 120, 179, 180, 238, 239};
        return chance.nextInt(4) == 0 ? edges[chance.nextInt(edges.length)] : in(0, 239);
    }

    private int there(int what) {
        return in(0, plain.many(what) - 1);
    }

    private int guardOrNone() {
        return chance.nextInt(3) == 0 ? -1 : there(3);
    }

    private Object[] argumentsOf(String name) {
        switch (name) {
            case "base": return of(in(3, 8), in(3, 8), chance.nextInt(3) == 0 ? 100 : in(0, 100));
            case "lay": return of(cell(), in(0, 3));
            case "gates": return of(minute(), minute());
            case "lamp": return of(cell(), in(1, 4));
            case "light": return of(there(1), chance.nextBoolean());
            case "fog": return of(minute(), in(0, 5));
            case "guard": return guard();
            case "round": return of(there(3), cell());
            case "post": return of(cell());
            case "place": return of(there(3), minute());
            case "sees": return of(guardOrNone(), cell(), minute());
            case "ofCell": return of(cell(), minute(), in(0, 4));
            case "ofMinute": return of(minute(), in(0, 6));
            case "empty": return of(there(4), chance.nextBoolean());
            case "lapse": return lapse();
            case "words": return of(chance.nextInt(10) == 0 ? 39 : in(0, 99));
            case "leak": return of(in(0, 3));
            case "answer": return of(there(3), minute(), word());
            case "key": return of(in(0, 5), guardOrNone());
            case "ofGuard": return of(there(3), in(0, 8));
            case "intruder": return intruder();
            case "wire": return of(cell(), in(1, 12));
            case "where": return of(there(5), minute());
            case "ofIntruder": return of(there(5), in(0, 8));
            case "force": return force();
            case "ofWire": return of(there(7), in(0, 4));
            case "sneak": return of(cell(), cell(), minute(), in(0, 60));
            case "reach": return of(cell(), minute(), in(0, chance.nextBoolean() ? 10 : 60));
            case "nextLamp": return of(minute(), in(1, 4), chance.nextBoolean());
            case "many": return of(in(0, 12));
            case "drawn": return of(in(0, high - 1), minute());
            default: return of();
        }
    }

    private static Object[] of(Object... arguments) {
        return arguments;
    }

    private Object[] guard() {
        int from = minute();
        int to = isRare() ? minute() : Math.min(239, Math.max(from, 0) + chance.nextInt(150));
        return of(cell(), from, to, chance.nextBoolean() ? in(1, 20) : in(1, 4));
    }

    private Object[] lapse() {
        int from = minute();
        return of(cell(), from, isRare() ? minute() : Math.min(239, Math.max(from, 0) + chance.nextInt(60)));
    }

    private int word() {
        int number = wordSeed;
        int steps = chance.nextInt(16) < 12 ? 1 + chance.nextInt(4) : 1 + chance.nextInt(13);
        for (int k = 0; k < steps; k++) {
            number = (23 * number + 15) % 97;
        }
        return chance.nextInt(12) == 0 ? in(0, 99) : number;
    }

    /** Often a walk that can be made, now and then any number. */
    private Object[] intruder() {
        int cell = cell();
        if (chance.nextInt(4) == 0 || wide == 0 || cell < 0 || cell >= wide * high) {
            int[] ends = {4, 124, 1953124, Integer.MAX_VALUE - 1};
            return of(cell, minute(), in(0, ends[chance.nextInt(ends.length)]));
        }
        long moves = 0;
        int here = cell;
        for (int k = chance.nextInt(14); k > 0; k--) {
            int move = moves == 0 ? 1 + chance.nextInt(4) : chance.nextInt(5);
            int row = here / wide + (move == 1 ? -1 : move == 3 ? 1 : 0);
            int column = here % wide + (move == 2 ? 1 : move == 4 ? -1 : 0);
            boolean isInside = row >= 0 && row < high && column >= 0 && column < wide;
            if (isInside && plain.ofCell(row * wide + column, 0, 0) != 1) {
                here = row * wide + column;
                moves = moves * 5 + move;
            }
        }
        return of(cell, minute(), (int) Math.min(moves, Integer.MAX_VALUE));
    }

    private Object[] force() {
        int intruder = there(5);
        if (intruder < 0 || intruder >= plain.many(5)) {
            return of(intruder, in(0, 3), minute());
        }
        int ahead = Math.max(plain.ofIntruder(intruder, 3), plain.ofIntruder(intruder, 8));
        int step = chance.nextInt(4) == 0 ? in(0, 3) : plain.ofIntruder(intruder, 7);
        return of(intruder, step, chance.nextInt(3) == 0 ? minute() : in(ahead - 1, Math.min(239, ahead + 20)));
    }
}
