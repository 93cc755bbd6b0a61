import java.util.ArrayList;
import java.util.List;

/** Promises 31 to 35: counts, the drawing, soundness, knocks and the digest. */
public final class WholeTest {
    private static final String[] NIGHT = {"base(7, 6, 33)", "lay(0, 0)", "lay(10, 0)", "lay(20, 0)", "lay(41, 0)",
        "guard(10, 0, 140, 7)", "round(0, 20)", "round(0, 0)", "guard(41, 60, 239, 4)", "round(1, 20)",
        "guard(0, 100, 200, 15)", "lamp(20, 4)", "lamp(0, 3)", "light(1, false)", "post(10)", "post(20)",
        "fog(30, 3)", "fog(90, 1)", "words(17)", "leak(2)", "answer(1, 0, 18)", "answer(1, 0, 41)", "key(2, 1)",
        "gates(50, 120)", "intruder(10, 40, 0)", "intruder(20, 239, 12)", "force(0, 0, 60)", "wire(10, 6)",
        "wire(3, 2)", "knock()"};

    private WholeTest() {
    }

    public static void main(String[] args) {
        many();
        drawn();
        isSound();
        knock();
        digest();
        Script.end();
    }

    private static void many() {
        Script.run("promise 31", """
            many(13) -> argument
            many(-1) -> argument
            base(4, 5, 100) -> 20
            many(0) -> 20
            lamp(0, 1) -> 0
            lamp(1, 1) -> 1
            lamp(1, 1) -> 2
            light(1, false) -> 6
            many(1) -> 3
            many(2) -> 2
            guard(12, 0, 119, 20) -> 0
            guard(19, 100, 239, 20) -> 1
            many(3) -> 2
            post(12) -> 0
            post(12) -> 1
            many(4) -> 2
            // the 20th MINUTE of STAY is over, and the ROUND has one CELL alone
            many(11) -> 120
            post(19) -> 2
            // each once: till 99 the last one, from 120 on the first ones
            many(11) -> 220
            intruder(0, 0, 0) -> 0
            intruder(19, 110, 0) -> 1
            many(5) -> 2
            ofIntruder(0, 3) -> 0
            many(6) -> 2
            intruder(6, 200, 0) -> 2
            many(5) -> 3
            many(6) -> 2
            wire(0, 1) -> 0
            many(7) -> 1
            key(0, 0) -> -1
            key(4, 1) -> -1
            many(8) -> 2
            leak(0) -> 38
            leak(0) -> 16
            many(9) -> 2
            answer(0, 60, 69) -> 0
            answer(0, 61, 69) -> 1
            answer(1, 60, 69) -> 0
            many(10) -> 2
            knock() -> 1
            knock() -> 2
            many(12) -> 2
            base(4, 5, 100) -> 20
            many(12) -> 2
            many(10) -> 0
            many(13) -> argument
            """);
    }

    private static void drawn() {
        Script.run("promise 32", """
            drawn(0, 0) -> index
            base(5, 3, 100) -> 15
            drawn(1, 0) -> .....
            lay(0, 1) -> 0
            lay(7, 2) -> 0
            lay(11, 3) -> 0
            guard(5, 0, 100, 10) -> 0
            drawn(0, 0) -> #:...
            drawn(1, 0) -> 0:%..
            drawn(2, 0) -> :+...
            drawn(1, 101) -> ..%..
            // of several the first one; ahead of a HEDGE and a GATE
            guard(5, 0, 10, 1) -> 1
            guard(7, 10, 10, 1) -> 2
            guard(11, 10, 10, 1) -> 3
            drawn(1, 10) -> 0:2::
            drawn(2, 10) -> :3::.
            drawn(0, 10) -> #:::.
            guard(14, 0, 0, 1) -> 4
            guard(14, 0, 1, 1) -> 5
            drawn(2, 0) -> :+::4
            drawn(2, 1) -> :+::5
            drawn(3, 240) -> index
            drawn(-1, 0) -> index
            drawn(0, 240) -> argument
            drawn(0, -1) -> argument
            base(8, 3, 100) -> 24
            drawn(2, 0) -> ........
            drawn(3, 0) -> index
            """);
    }

    private static void isSound() {
        Script.run("promise 33", """
            isSound() -> true
            base(3, 3, 100) -> 9
            isSound() -> true
            guard(0, 0, 239, 5) -> 0
            round(0, 1) -> 2
            lamp(2, 1) -> 0
            post(3) -> 0
            intruder(8, 0, 1) -> 0
            lay(0, 1) -> state
            lay(1, 1) -> state
            lay(2, 1) -> state
            lay(3, 1) -> state
            lay(5, 1) -> state
            lay(7, 1) -> 0
            isSound() -> true
            key(0, 0) -> -1
            answer(0, 0, 0) -> 3
            answer(0, 0, 0) -> 3
            answer(0, 0, 0) -> 3
            answer(0, 0, 0) -> 4
            force(0, 0, 239) -> 1
            force(0, 1, 239) -> 2
            force(0, 2, 239) -> 3
            force(0, 3, 239) -> 4
            isSound() -> true
            base(3, 3, 100) -> 9
            isSound() -> true
            """);
    }

    private static void knock() {
        Script.run("promise 34", """
            knock() -> 1
            many(12) -> 1
            knock() -> 2
            base(3, 3, 100) -> 9
            words(5) -> 33
            many(12) -> 2
            knock() -> 3
            """);
    }

    private static void digest() {
        // 41 numbers that are 0, and the 1 for what is SOUND
        long empty = 9241;
        for (int k = 0; k < 41; k++) {
            empty = empty * 31;
        }
        Script.run("promise 35, a new object", "digest() -> " + (empty * 31 + 1));
        for (int calls = 1; calls <= NIGHT.length; calls++) {
            digestBehind(calls);
        }
        NightwatchWall night = new NightwatchWall();
        for (String call : NIGHT) {
            Script.answer(night, call);
        }
        PlainNight plain = new PlainNight();
        for (String call : NIGHT) {
            Script.answer(plain, call);
        }
        Script.due("promise 35, the whole", Script.answer(plain, "digest()"), Script.answer(night, "digest()"));
    }

    /** On an object of its own, as it takes some 350 of the 512 calls for which one answers. */
    private static void digestBehind(int calls) {
        NightwatchWall night = new NightwatchWall();
        for (int k = 0; k < calls; k++) {
            Script.due("promise 35: " + NIGHT[k] + " throws", "false",
                    String.valueOf(List.of("index", "argument", "state").contains(Script.answer(night, NIGHT[k]))));
        }
        Script.due("promise 35, behind " + NIGHT[calls - 1], String.valueOf(digestOf(night)),
                Script.answer(night, "digest()"));
    }

    /** The checksum as the document tells it, out of what the object answers. */
    private static long digestOf(NightwatchWall night) {
        List<Integer> numbers = new ArrayList<>();
        for (int what = 0; what <= 12; what++) {
            numbers.add(night.many(what));
        }
        for (int minute = 0; minute <= 180; minute += 60) {
            for (int what = 0; what <= 6; what++) {
                numbers.add(night.ofMinute(minute, what));
            }
        }
        for (int cell = 0; cell < night.many(0); cell++) {
            for (int what = 0; what <= 4; what++) {
                numbers.add(night.ofCell(cell, 120, what));
            }
        }
        for (int guard = 0; guard < night.many(3); guard++) {
            for (int what = 0; what <= 8; what++) {
                numbers.add(night.ofGuard(guard, what));
            }
        }
        for (int post = 0; post < night.many(4); post++) {
            numbers.add(night.empty(post, true));
            numbers.add(night.empty(post, false));
        }
        for (int intruder = 0; intruder < night.many(5); intruder++) {
            for (int what = 0; what <= 8; what++) {
                numbers.add(night.ofIntruder(intruder, what));
            }
        }
        for (int wire = 0; wire < night.many(7); wire++) {
            for (int what = 0; what <= 4; what++) {
                numbers.add(night.ofWire(wire, what));
            }
        }
        numbers.add(night.isSound() ? 1 : 0);
        long d = 9241;
        for (int number : numbers) {
            d = d * 31 + number;
        }
        return d;
    }
}
