/** Promises 1 to 7: a new object, the BASE, light and FOG. */
public final class BaseTest {
    private BaseTest() {
    }

    public static void main(String[] args) {
        aNewObject();
        base();
        baseAnew();
        lay();
        gates();
        lamp();
        light();
        fog();
        Script.end();
    }

    private static void aNewObject() {
        Script.run("promise 1", """
            many(0) -> 0
            many(1) -> 0
            many(2) -> 0
            many(3) -> 0
            many(4) -> 0
            many(5) -> 0
            many(6) -> 0
            many(7) -> 0
            many(8) -> 0
            many(9) -> 0
            many(10) -> 0
            many(11) -> 0
            many(12) -> 0
            isSound() -> true
            drawn(0, 0) -> index
            ofCell(0, 0, 0) -> index
            ofMinute(0, 0) -> 0
            ofMinute(239, 1) -> 0
            nextLamp(0, 1, true) -> -1
            nextLamp(0, 1, false) -> -1
            key(5, -1) -> -1
            // the seed of WORDS is 0: 15, 69, 50, 1, and then 38
            leak(3) -> 38
            """);
    }

    private static void base() {
        Script.run("promise 2", """
            // 79, 86, 53 / 70, 73, 45 / 80, 12, 0
            base(3, 3, 7) -> 6
            drawn(0, 0) -> ..+
            drawn(1, 0) -> #+.
            drawn(2, 0) -> #%#
            many(0) -> 9
            // 15, 69, 50 / 1, 38, 16 / 92, 94, 43
            base(3, 3, 0) -> 7
            drawn(0, 0) -> ..#
            drawn(1, 0) -> #..
            drawn(2, 0) -> %.+
            base(3, 8, 100) -> 24
            drawn(7, 0) -> ...
            drawn(8, 0) -> index
            base(8, 3, 100) -> 24
            drawn(2, 0) -> ........
            drawn(3, 0) -> index
            base(8, 8, 100) -> 64
            many(0) -> 64
            base(8, 8, 99) -> 48
            // 39 is its own next number
            base(4, 5, 39) -> 20
            drawn(4, 0) -> ....
            base(2, 3, 100) -> argument
            base(9, 3, 100) -> argument
            base(3, 2, 100) -> argument
            base(3, 9, 100) -> argument
            base(3, 3, -1) -> argument
            base(3, 3, 101) -> argument
            base(-2147483648, 2147483647, 5) -> argument
            // nothing was changed by these
            many(0) -> 20
            drawn(4, 0) -> ....
            """);
    }

    private static void baseAnew() {
        Script.run("promise 2, all else is gone", """
            base(4, 4, 100) -> 16
            words(17) -> 18
            lamp(0, 1) -> 0
            fog(0, 5) -> 1
            gates(0, 239) -> 0
            guard(5, 0, 200, 1) -> 0
            round(0, 6) -> 2
            post(1) -> 0
            key(0, 0) -> -1
            intruder(15, 0, 0) -> 0
            intruder(5, 10, 4) -> 1
            force(1, 0, 10) -> 1
            wire(3, 1) -> 0
            leak(1) -> 26
            answer(0, 0, 18) -> 0
            answer(0, 0, 18) -> 1
            knock() -> 1
            many(1) -> 1
            many(2) -> 1
            many(3) -> 1
            many(4) -> 1
            many(5) -> 2
            many(6) -> 1
            many(7) -> 1
            many(8) -> 1
            many(9) -> 1
            many(10) -> 1
            many(11) -> 240
            base(4, 4, 100) -> 16
            many(1) -> 0
            many(2) -> 0
            many(3) -> 0
            many(4) -> 0
            many(5) -> 0
            many(6) -> 0
            many(7) -> 0
            many(8) -> 0
            many(9) -> 0
            many(10) -> 0
            many(11) -> 0
            many(12) -> 1
            ofMinute(0, 0) -> 0
            ofMinute(0, 5) -> 0
            lay(0, 3) -> 0
            ofCell(0, 0, 4) -> 0
            ofCell(0, 239, 4) -> 0
            key(0, -1) -> -1
            guard(5, 0, 239, 1) -> 0
            place(0, 1) -> 5
            ofGuard(0, 3) -> 1
            ofGuard(0, 4) -> 0
            ofGuard(0, 7) -> 0
            // the seed is kept, leaks and OLD ones are not
            answer(0, 60, 41) -> 0
            answer(0, 0, 18) -> 0
            answer(0, 0, 26) -> 3
            leak(1) -> 26
            // the STEPS of FORCE of the one that is gone are gone, too
            intruder(5, 10, 4) -> 0
            ofIntruder(0, 7) -> 0
            ofIntruder(0, 8) -> -1
            // a smaller one leaves nothing of the greater one behind
            base(8, 8, 0) -> 52
            base(3, 3, 100) -> 9
            gates(0, 0) -> 0
            ofMinute(0, 1) -> 9
            """);
    }

    private static void lay() {
        Script.run("promise 3", """
            lay(0, 0) -> index
            base(3, 3, 100) -> 9
            lay(0, 2) -> 0
            lay(0, 3) -> 2
            lay(0, 1) -> 3
            lay(0, 1) -> 1
            drawn(0, 0) -> #..
            lay(0, 0) -> 1
            drawn(0, 0) -> ...
            lay(8, 3) -> 0
            drawn(2, 0) -> ..+
            lay(8, 0) -> 3
            lay(-1, 0) -> index
            lay(9, 0) -> index
            lay(9, 4) -> index
            lay(0, 4) -> argument
            lay(0, -1) -> argument
            // a LAMP, LIT or out
            lamp(1, 1) -> 0
            lay(1, 1) -> state
            lay(1, 4) -> argument
            lay(1, 2) -> 0
            light(0, false) -> 0
            lay(1, 1) -> state
            // a POST
            post(2) -> 0
            lay(2, 1) -> state
            lay(2, 3) -> 0
            // a ROUND: each CELL of it
            guard(3, 0, 0, 1) -> 0
            round(0, 4) -> 2
            lay(3, 1) -> state
            lay(4, 1) -> state
            lay(4, 0) -> 0
            // the way of an INTRUDER: down to 8 at the last MINUTE, the MOVE to 7 is not made
            intruder(5, 238, 19) -> 0
            lay(5, 1) -> state
            lay(8, 1) -> state
            lay(7, 1) -> 0
            // a WIRE does not matter
            wire(6, 1) -> 0
            lay(6, 1) -> 0
            isSound() -> true
            // the GUARD on 3 is gone at MINUTE 1
            drawn(0, 1) -> .%+
            drawn(1, 1) -> ...
            drawn(2, 1) -> ##.
            """);
        Script.run("promise 3, what hides", """
            base(5, 3, 100) -> 15
            guard(5, 0, 239, 1) -> 0
            sees(0, 7, 0) -> true
            lay(6, 1) -> 0
            sees(0, 7, 0) -> false
            sees(0, 6, 0) -> true
            lay(6, 2) -> 1
            sees(0, 7, 0) -> false
            lay(6, 3) -> 2
            sees(0, 7, 0) -> true
            lay(6, 0) -> 3
            sees(0, 7, 0) -> true
            """);
    }

    private static void gates() {
        Script.run("promise 4", """
            gates(0, 239) -> 0
            base(3, 3, 7) -> 6
            // never at first, also if they were told for the BASE ahead
            ofCell(2, 0, 4) -> 0
            ofCell(2, 1, 4) -> 0
            ofCell(2, 239, 4) -> 0
            gates(10, 20) -> 2
            ofCell(2, 9, 4) -> 0
            ofCell(2, 10, 4) -> 1
            ofCell(4, 20, 4) -> 1
            ofCell(2, 21, 4) -> 0
            gates(20, 10) -> 2
            ofCell(2, 9, 4) -> 0
            ofCell(2, 10, 4) -> 0
            ofCell(2, 15, 4) -> 0
            ofCell(2, 20, 4) -> 0
            ofCell(2, 21, 4) -> 0
            gates(239, 239) -> 2
            ofCell(2, 238, 4) -> 0
            ofCell(2, 239, 4) -> 1
            gates(0, 0) -> 2
            ofCell(2, 0, 4) -> 1
            gates(-1, 0) -> argument
            gates(240, 0) -> argument
            gates(0, -1) -> argument
            gates(0, 240) -> argument
            ofCell(2, 0, 4) -> 1
            ofCell(2, 1, 4) -> 0
            lay(0, 3) -> 0
            gates(0, 239) -> 3
            ofCell(0, 100, 4) -> 1
            lay(0, 2) -> 3
            gates(0, 239) -> 2
            """);
    }

    private static void lamp() {
        Script.run("promise 5", """
            lamp(0, 1) -> index
            base(5, 5, 100) -> 25
            lamp(12, 1) -> 0
            ofMinute(0, 5) -> 9
            lamp(12, 2) -> 1
            ofMinute(0, 5) -> 17
            // not IN LINE, though near
            ofCell(1, 0, 1) -> 0
            ofCell(0, 0, 1) -> 1
            ofCell(2, 0, 1) -> 1
            // a HEDGE, or a WALL, hides what is behind it, and is BRIGHT itself
            lay(13, 2) -> 0
            ofCell(13, 0, 1) -> 1
            ofCell(14, 0, 1) -> 0
            lay(6, 1) -> 0
            ofCell(6, 0, 1) -> 1
            ofCell(0, 0, 1) -> 0
            lay(7, 3) -> 0
            ofCell(2, 0, 1) -> 1
            ofMinute(0, 5) -> 15
            // a LAMP may be on a HEDGE, or a GATE
            lamp(13, 4) -> 2
            ofCell(14, 0, 1) -> 1
            lamp(7, 1) -> 3
            lamp(25, 1) -> index
            lamp(-1, 1) -> index
            lamp(25, 0) -> index
            lamp(0, 0) -> argument
            lamp(0, 5) -> argument
            lamp(6, 5) -> argument
            lamp(6, 1) -> state
            lamp(0, 4) -> 4
            lamp(24, 1) -> 5
            many(1) -> 6
            many(2) -> 6
            lamp(23, 1) -> state
            lamp(23, 0) -> argument
            many(1) -> 6
            """);
        Script.run("promise 5, in the corners of the greatest BASE", """
            base(8, 8, 100) -> 64
            lamp(0, 4) -> 0
            ofMinute(0, 5) -> 13
            ofCell(4, 0, 1) -> 1
            ofCell(5, 0, 1) -> 0
            ofCell(32, 0, 1) -> 1
            ofCell(36, 0, 1) -> 1
            ofCell(45, 0, 1) -> 0
            lamp(63, 3) -> 1
            // 36 is BRIGHT by both of them
            ofMinute(0, 5) -> 22
            ofCell(60, 0, 1) -> 1
            ofCell(59, 0, 1) -> 0
            ofCell(39, 0, 1) -> 1
            lamp(7, 1) -> 2
            // the row below does not begin beside the end of this one
            ofCell(8, 0, 1) -> 1
            ofCell(15, 0, 1) -> 1
            ofCell(16, 0, 1) -> 1
            ofCell(24, 0, 1) -> 1
            ofCell(40, 0, 1) -> 0
            ofMinute(0, 5) -> 26
            """);
    }

    private static void light() {
        Script.run("promise 6", """
            light(0, true) -> index
            base(5, 5, 100) -> 25
            lamp(0, 1) -> 0
            lamp(12, 1) -> 1
            light(0, false) -> 9
            many(2) -> 1
            ofCell(0, 0, 1) -> 0
            ofCell(6, 0, 1) -> 1
            light(0, false) -> 9
            light(1, false) -> 0
            many(2) -> 0
            many(1) -> 2
            light(0, true) -> 4
            light(0, true) -> 4
            many(2) -> 1
            light(1, true) -> 12
            // CELLS that are WALLS are BRIGHT, too
            lay(11, 1) -> 0
            light(1, true) -> 12
            light(2, true) -> index
            light(-1, false) -> index
            many(2) -> 2
            """);
    }

    private static void fog() {
        Script.run("promise 7", """
            fog(0, 5) -> 1
            ofMinute(0, 0) -> 5
            base(3, 3, 100) -> 9
            ofMinute(0, 0) -> 0
            fog(10, 3) -> 1
            ofMinute(9, 0) -> 0
            ofMinute(10, 0) -> 3
            ofMinute(239, 0) -> 3
            fog(100, 0) -> 2
            ofMinute(99, 0) -> 3
            ofMinute(100, 0) -> 0
            // a report for an earlier MINUTE does not matter behind a later one
            fog(50, 5) -> 3
            ofMinute(49, 0) -> 3
            ofMinute(50, 0) -> 5
            ofMinute(99, 0) -> 5
            ofMinute(100, 0) -> 0
            // of several for a MINUTE the one that was told last
            fog(50, 1) -> 4
            ofMinute(50, 0) -> 1
            ofMinute(60, 0) -> 1
            fog(240, 0) -> argument
            fog(-1, 0) -> argument
            fog(0, 6) -> argument
            fog(0, -1) -> argument
            fog(239, 2) -> 5
            fog(0, 4) -> 6
            ofMinute(0, 0) -> 4
            ofMinute(238, 0) -> 0
            ofMinute(239, 0) -> 2
            fog(1, 0) -> 7
            fog(2, 5) -> 8
            fog(3, 1) -> state
            fog(3, 6) -> argument
            ofMinute(3, 0) -> 5
            """);
    }
}
