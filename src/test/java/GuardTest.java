/** Promises 8 to 16: GUARDS and POSTS, and what is SEEN. */
public final class GuardTest {
    private GuardTest() {
    }

    public static void main(String[] args) {
        guard();
        round();
        post();
        place();
        range();
        view();
        sees();
        ofCell();
        ofMinute();
        empty();
        lapse();
        Script.end();
    }

    private static void guard() {
        Script.run("promise 8", """
            guard(0, 0, 0, 1) -> index
            base(3, 3, 100) -> 9
            lay(8, 1) -> 0
            guard(9, 5, 4, 0) -> index
            guard(-1, 0, 0, 1) -> index
            guard(0, 5, 4, 1) -> argument
            guard(0, -1, 4, 1) -> argument
            guard(0, 0, 240, 1) -> argument
            guard(0, 240, 240, 1) -> argument
            guard(0, -2, -1, 1) -> argument
            guard(0, 0, 0, 0) -> argument
            guard(0, 0, 0, 21) -> argument
            guard(8, 0, 0, 21) -> argument
            guard(8, 0, 0, 1) -> state
            many(3) -> 0
            guard(0, 5, 5, 20) -> 0
            guard(0, 0, 239, 1) -> 1
            lay(1, 2) -> 0
            guard(1, 239, 239, 1) -> 2
            lay(2, 3) -> 0
            guard(2, 0, 0, 1) -> 3
            guard(3, 0, 0, 1) -> 4
            guard(4, 100, 101, 2) -> 5
            many(3) -> 6
            guard(5, 0, 0, 1) -> state
            guard(5, 0, 0, 0) -> argument
            many(3) -> 6
            ofGuard(0, 0) -> 5
            ofGuard(0, 1) -> 5
            ofGuard(0, 2) -> 20
            ofGuard(0, 3) -> 1
            ofGuard(5, 0) -> 100
            ofGuard(5, 1) -> 101
            ofGuard(5, 2) -> 2
            place(5, 101) -> 4
            """);
    }

    private static void round() {
        Script.run("promise 9", """
            round(0, 0) -> index
            base(3, 3, 100) -> 9
            round(0, 0) -> index
            guard(0, 0, 239, 2) -> 0
            lay(8, 1) -> 0
            round(0, 9) -> index
            round(0, -1) -> index
            round(1, 0) -> index
            round(-1, 0) -> index
            round(0, 8) -> state
            ofGuard(0, 3) -> 1
            round(0, 1) -> 2
            round(0, 0) -> 3
            round(0, 2) -> 4
            round(0, 2) -> 5
            ofGuard(0, 3) -> 5
            round(0, 3) -> 6
            round(0, 4) -> state
            round(0, 9) -> index
            ofGuard(0, 3) -> 6
            place(0, 0) -> 0
            place(0, 2) -> 1
            place(0, 4) -> 0
            place(0, 6) -> 2
            place(0, 9) -> 2
            place(0, 10) -> 3
            place(0, 11) -> 3
            place(0, 12) -> 0
            // the ROUND of another one is its own
            guard(7, 0, 239, 1) -> 1
            round(1, 6) -> 2
            place(1, 1) -> 6
            place(0, 3) -> 1
            """);
    }

    private static void post() {
        Script.run("promise 10", """
            post(0) -> index
            base(3, 3, 100) -> 9
            lay(8, 1) -> 0
            post(8) -> state
            post(9) -> index
            post(-1) -> index
            many(4) -> 0
            post(0) -> 0
            post(0) -> 1
            lay(1, 2) -> 0
            post(1) -> 2
            lay(2, 3) -> 0
            post(2) -> 3
            post(3) -> state
            post(9) -> index
            many(4) -> 4
            """);
    }

    private static void place() {
        Script.run("promise 11", """
            place(0, 0) -> index
            base(4, 4, 100) -> 16
            guard(0, 10, 39, 5) -> 0
            round(0, 3) -> 2
            round(0, 15) -> 3
            place(0, 9) -> -1
            place(0, 10) -> 0
            place(0, 14) -> 0
            place(0, 15) -> 3
            place(0, 19) -> 3
            place(0, 20) -> 15
            place(0, 25) -> 0
            place(0, 39) -> 15
            place(0, 40) -> -1
            place(0, 0) -> -1
            place(0, 239) -> -1
            place(0, 240) -> argument
            place(0, -1) -> argument
            place(1, 240) -> index
            place(-1, 0) -> index
            guard(5, 0, 239, 20) -> 1
            round(1, 6) -> 2
            place(1, 19) -> 5
            place(1, 20) -> 6
            place(1, 239) -> 6
            """);
    }

    private static void range() {
        Script.run("promise 12, RANGE in the dark", """
            base(8, 3, 100) -> 24
            guard(8, 0, 239, 20) -> 0
            sees(0, 8, 0) -> true
            sees(0, 10, 0) -> true
            sees(0, 11, 0) -> false
            sees(0, 10, 89) -> true
            // TIRED from the 90th MINUTE behind the first one on
            sees(0, 10, 90) -> false
            sees(0, 9, 90) -> true
            fog(1, 1) -> 1
            fog(2, 2) -> 2
            fog(3, 3) -> 3
            fog(4, 4) -> 4
            fog(5, 5) -> 5
            fog(6, 0) -> 6
            fog(90, 2) -> 7
            fog(91, 4) -> 8
            sees(0, 10, 1) -> true
            sees(0, 11, 1) -> false
            sees(0, 9, 2) -> true
            sees(0, 10, 2) -> false
            sees(0, 9, 3) -> true
            sees(0, 10, 3) -> false
            sees(0, 9, 4) -> false
            sees(0, 8, 4) -> true
            sees(0, 9, 5) -> false
            sees(0, 8, 5) -> true
            sees(0, 10, 6) -> true
            sees(0, 9, 90) -> false
            sees(0, 8, 90) -> true
            // never less than 0
            sees(0, 9, 91) -> false
            sees(0, 8, 91) -> true
            """);
        Script.run("promise 12, RANGE to what is BRIGHT", """
            base(8, 3, 100) -> 24
            guard(8, 0, 239, 20) -> 0
            lamp(15, 1) -> 0
            lamp(12, 4) -> 1
            sees(0, 15, 0) -> true
            fog(1, 1) -> 1
            fog(2, 2) -> 2
            fog(3, 3) -> 3
            fog(4, 4) -> 4
            fog(5, 5) -> 5
            fog(6, 0) -> 6
            fog(95, 5) -> 7
            sees(0, 15, 1) -> false
            sees(0, 14, 1) -> true
            sees(0, 14, 2) -> false
            sees(0, 13, 2) -> true
            sees(0, 13, 3) -> false
            sees(0, 12, 3) -> true
            sees(0, 12, 4) -> false
            sees(0, 11, 4) -> true
            sees(0, 11, 5) -> false
            sees(0, 10, 5) -> true
            sees(0, 15, 89) -> true
            sees(0, 15, 90) -> false
            sees(0, 14, 90) -> true
            sees(0, 9, 95) -> true
            sees(0, 10, 95) -> false
            // with the LAMP out it is dark there
            light(0, false) -> 14
            sees(0, 15, 0) -> true
            light(1, false) -> 0
            sees(0, 15, 0) -> false
            sees(0, 14, 0) -> false
            sees(0, 10, 0) -> true
            """);
    }

    private static void view() {
        Script.run("promise 12, IN LINE with a clear VIEW", """
            base(7, 7, 100) -> 49
            guard(24, 0, 89, 20) -> 0
            lamp(24, 4) -> 0
            // all eight directions, three APART
            sees(0, 3, 0) -> true
            sees(0, 6, 0) -> true
            sees(0, 27, 0) -> true
            sees(0, 48, 0) -> true
            sees(0, 45, 0) -> true
            sees(0, 42, 0) -> true
            sees(0, 21, 0) -> true
            sees(0, 0, 0) -> true
            // not IN LINE
            sees(0, 9, 0) -> false
            sees(0, 11, 0) -> false
            sees(0, 19, 0) -> false
            sees(0, 33, 0) -> false
            sees(0, 39, 0) -> false
            sees(0, 5, 0) -> false
            // a WALL, a HEDGE: seen itself, but not beyond it
            lay(25, 1) -> 0
            lay(32, 2) -> 0
            lay(31, 3) -> 0
            lay(9, 1) -> 0
            sees(0, 25, 0) -> true
            sees(0, 26, 0) -> false
            sees(0, 27, 0) -> false
            sees(0, 32, 0) -> true
            sees(0, 40, 0) -> false
            sees(0, 48, 0) -> false
            sees(0, 38, 0) -> true
            sees(0, 45, 0) -> true
            sees(0, 17, 0) -> true
            sees(0, 10, 0) -> true
            sees(0, 30, 0) -> true
            lay(8, 2) -> 0
            sees(0, 8, 0) -> true
            sees(0, 0, 0) -> false
            // a GUARD on a HEDGE sees from there
            guard(32, 0, 89, 20) -> 1
            sees(1, 40, 0) -> true
            sees(1, 48, 0) -> true
            sees(1, 33, 0) -> true
            """);
        Script.run("promise 12, no row goes on in the next one", """
            base(3, 8, 100) -> 24
            guard(5, 0, 89, 20) -> 0
            sees(0, 6, 0) -> false
            sees(0, 7, 0) -> true
            sees(0, 9, 0) -> true
            sees(0, 10, 0) -> false
            """);
    }

    private static void sees() {
        Script.run("promise 12", """
            sees(-1, 0, 0) -> index
            base(5, 3, 100) -> 15
            sees(-1, 0, 0) -> false
            sees(0, 0, 0) -> index
            guard(5, 0, 100, 10) -> 0
            guard(9, 50, 60, 10) -> 1
            sees(0, 5, 100) -> true
            sees(0, 5, 101) -> false
            sees(1, 9, 49) -> false
            sees(1, 9, 50) -> true
            sees(1, 9, 60) -> true
            sees(1, 9, 61) -> false
            sees(-1, 9, 49) -> false
            sees(-1, 9, 50) -> true
            sees(-1, 5, 50) -> true
            sees(1, 5, 50) -> false
            sees(0, 9, 50) -> false
            sees(-2, 0, 0) -> index
            sees(2, 0, 0) -> index
            sees(0, 15, 240) -> index
            sees(-1, -1, 0) -> index
            sees(0, 0, 240) -> argument
            sees(-1, 0, -1) -> argument
            """);
    }

    private static void ofCell() {
        Script.run("promise 13", """
            ofCell(0, 0, 0) -> index
            base(5, 3, 100) -> 15
            lay(0, 1) -> 0
            lay(1, 2) -> 0
            lay(2, 3) -> 0
            ofCell(0, 0, 0) -> 1
            ofCell(1, 0, 0) -> 2
            ofCell(2, 0, 0) -> 3
            ofCell(3, 0, 0) -> 0
            lamp(3, 1) -> 0
            ofCell(3, 0, 1) -> 1
            ofCell(2, 239, 1) -> 1
            ofCell(1, 0, 1) -> 0
            guard(5, 0, 100, 10) -> 0
            guard(7, 0, 100, 10) -> 1
            guard(7, 50, 100, 10) -> 2
            ofCell(5, 0, 2) -> 3
            ofCell(5, 50, 2) -> 7
            // BRIGHT, so also the one far off
            ofCell(9, 0, 2) -> 3
            light(0, false) -> 0
            ofCell(9, 0, 2) -> 2
            light(0, true) -> 6
            ofCell(9, 101, 2) -> 0
            ofCell(7, 49, 3) -> 2
            ofCell(7, 50, 3) -> 6
            ofCell(5, 50, 3) -> 1
            ofCell(8, 50, 3) -> 0
            ofCell(7, 101, 3) -> 0
            ofCell(0, 0, 4) -> 0
            ofCell(1, 0, 4) -> 1
            ofCell(2, 0, 4) -> 0
            ofCell(3, 0, 4) -> 1
            gates(5, 5) -> 1
            ofCell(2, 5, 4) -> 1
            ofCell(0, 5, 4) -> 0
            ofCell(15, 240, 5) -> index
            ofCell(-1, 0, 0) -> index
            ofCell(0, 240, 0) -> argument
            ofCell(0, -1, 0) -> argument
            ofCell(0, 0, 5) -> argument
            ofCell(0, 0, -1) -> argument
            """);
    }

    private static void ofMinute() {
        Script.run("promise 14", """
            ofMinute(240, 0) -> argument
            ofMinute(-1, 0) -> argument
            ofMinute(0, 7) -> argument
            ofMinute(0, -1) -> argument
            base(5, 3, 100) -> 15
            lay(14, 1) -> 0
            ofMinute(0, 1) -> 14
            guard(5, 0, 150, 20) -> 0
            guard(5, 60, 160, 20) -> 1
            fog(10, 2) -> 1
            ofMinute(10, 0) -> 2
            ofMinute(9, 0) -> 0
            // 5, 0, 10, 6, 1, 11, 7
            ofMinute(0, 1) -> 7
            // and without 7
            ofMinute(10, 1) -> 8
            // TIRED: RANGE 0
            ofMinute(149, 1) -> 8
            ofMinute(150, 1) -> 13
            ofMinute(161, 1) -> 14
            ofMinute(59, 2) -> 1
            ofMinute(60, 2) -> 2
            ofMinute(150, 2) -> 2
            ofMinute(151, 2) -> 1
            ofMinute(161, 2) -> 0
            ofMinute(89, 3) -> 0
            ofMinute(90, 3) -> 1
            ofMinute(149, 3) -> 1
            ofMinute(150, 3) -> 2
            ofMinute(151, 3) -> 1
            ofMinute(161, 3) -> 0
            post(5) -> 0
            post(5) -> 1
            post(6) -> 2
            ofMinute(0, 4) -> 1
            ofMinute(160, 4) -> 1
            ofMinute(161, 4) -> 3
            ofMinute(0, 5) -> 0
            // a WALL counts here
            lamp(8, 1) -> 0
            ofMinute(200, 5) -> 9
            key(0, 0) -> -1
            key(1, 0) -> -1
            key(5, 1) -> -1
            ofMinute(59, 6) -> 1
            ofMinute(60, 6) -> 0
            ofMinute(151, 6) -> 2
            ofMinute(161, 6) -> 3
            """);
    }

    private static void empty() {
        Script.run("promise 15", """
            empty(0, true) -> index
            base(4, 4, 100) -> 16
            post(0) -> 0
            empty(0, true) -> 0
            empty(0, false) -> 240
            guard(0, 0, 239, 20) -> 0
            empty(0, true) -> -1
            empty(0, false) -> 0
            round(0, 1) -> 2
            // 20 MINUTES here, 20 there, from 0 on
            empty(0, true) -> 20
            empty(0, false) -> 120
            post(1) -> 1
            empty(1, true) -> 0
            empty(1, false) -> 120
            guard(1, 0, 19, 20) -> 1
            empty(1, true) -> 40
            empty(1, false) -> 100
            empty(2, true) -> index
            empty(-1, false) -> index
            """);
    }

    private static void lapse() {
        Script.run("promise 16", """
            lapse(0, 0, 0) -> index
            base(5, 3, 100) -> 15
            lapse(0, 3, 239) -> 3
            guard(5, 0, 100, 10) -> 0
            guard(7, 95, 110, 10) -> 1
            lapse(5, 0, 100) -> -1
            lapse(5, 0, 110) -> -1
            lapse(5, 0, 111) -> 111
            lapse(5, 0, 239) -> 111
            lapse(5, 200, 239) -> 200
            // seen till the 89th MINUTE by the first one, again from the 95th on
            lapse(7, 0, 239) -> 90
            lapse(7, 91, 91) -> 91
            lapse(7, 95, 95) -> -1
            lapse(7, 95, 110) -> -1
            // a WALL is WATCHED like all others
            lay(6, 1) -> 0
            lapse(6, 0, 110) -> -1
            lapse(7, 0, 110) -> 0
            lapse(15, 5, 4) -> index
            lapse(-1, 0, 0) -> index
            lapse(0, 5, 4) -> argument
            lapse(0, -1, 4) -> argument
            lapse(0, 0, 240) -> argument
            """);
    }
}
