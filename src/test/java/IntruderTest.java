/** Promises 22 to 27: INTRUDERS, RESPONSES, FORCE and WIRES. */
public final class IntruderTest {
    private IntruderTest() {
    }

    public static void main(String[] args) {
        intruder();
        moves();
        wire();
        where();
        found();
        response();
        responseOverGround();
        force();
        ofWire();
        Script.end();
    }

    private static void intruder() {
        Script.run("promise 22", """
            intruder(0, 0, 0) -> index
            base(5, 5, 100) -> 25
            lay(6, 1) -> 0
            intruder(25, 240, -1) -> index
            intruder(-1, 0, 0) -> index
            intruder(0, 240, 0) -> argument
            intruder(0, -1, 0) -> argument
            intruder(0, 0, -1) -> argument
            intruder(6, 0, -1) -> argument
            // on a WALL, over a WALL, up and left and right and down out of the BASE
            intruder(6, 0, 0) -> state
            intruder(1, 0, 3) -> state
            intruder(1, 0, 16) -> state
            intruder(3, 0, 1) -> state
            intruder(10, 0, 4) -> state
            intruder(9, 0, 2) -> state
            intruder(22, 0, 3) -> state
            intruder(24, 0, 2147483647) -> state
            many(5) -> 0
            // what would come behind the MINUTE 239 does not matter
            intruder(10, 238, 24) -> state
            intruder(11, 238, 24) -> 0
            where(0, 239) -> 10
            ofIntruder(0, 1) -> 2
            intruder(9, 239, 2) -> 1
            // over a HEDGE and a GATE that is not OPEN: 2, 2
            lay(21, 2) -> 0
            lay(22, 3) -> 0
            intruder(20, 0, 12) -> 2
            intruder(0, 0, 0) -> 3
            intruder(0, 0, 0) -> state
            intruder(0, 0, -1) -> argument
            many(5) -> 4
            isSound() -> true
            """);
    }

    private static void moves() {
        // 3 2 1 4 0 2 to the base 5, and the fourteen digits 1 1 0 .. 0 of 1220703125 + 244140625.
        Script.run("promise 22, MOVES", """
            base(5, 5, 100) -> 25
            intruder(12, 10, 10852) -> 0
            ofIntruder(0, 1) -> 6
            where(0, 10) -> 12
            where(0, 11) -> 17
            where(0, 12) -> 18
            where(0, 13) -> 13
            where(0, 14) -> 12
            where(0, 15) -> 12
            where(0, 16) -> 13
            where(0, 17) -> 13
            intruder(22, 0, 1464843750) -> 1
            ofIntruder(1, 1) -> 14
            where(1, 1) -> 17
            where(1, 2) -> 12
            where(1, 3) -> 12
            where(1, 239) -> 12
            intruder(4, 0, 0) -> 2
            ofIntruder(2, 1) -> 0
            where(2, 239) -> 4
            // the last digit of 14: 1220703125 + 3
            intruder(22, 226, 1220703128) -> 3
            where(3, 227) -> 17
            where(3, 239) -> 17
            ofIntruder(3, 1) -> 14
            ofIntruder(3, 2) -> 17
            base(5, 5, 100) -> 25
            intruder(22, 225, 1220703128) -> 0
            where(0, 238) -> 17
            where(0, 239) -> 22
            // 4 in the base 5 is one digit, 5 and 24 are two, 25 is three
            intruder(24, 0, 4) -> 1
            ofIntruder(1, 1) -> 1
            intruder(24, 0, 5) -> 2
            ofIntruder(2, 1) -> 2
            intruder(24, 0, 25) -> 3
            ofIntruder(3, 1) -> 3
            ofIntruder(3, 2) -> 19
            """);
    }

    private static void wire() {
        Script.run("promise 23", """
            wire(0, 1) -> index
            base(3, 3, 7) -> 6
            wire(9, 0) -> index
            wire(-1, 1) -> index
            wire(0, 0) -> argument
            wire(0, 13) -> argument
            wire(0, 1) -> 0
            wire(0, 12) -> 1
            // on a WALL, too
            wire(3, 6) -> 2
            wire(8, 6) -> 3
            wire(1, 6) -> 4
            many(7) -> 5
            wire(1, 6) -> state
            wire(1, 13) -> argument
            ofWire(2, 0) -> 3
            ofWire(1, 1) -> 12
            many(7) -> 5
            """);
    }

    private static void where() {
        Script.run("promise 24", """
            where(0, 0) -> index
            base(3, 3, 100) -> 9
            intruder(0, 100, 13) -> 0
            where(0, 0) -> -1
            where(0, 99) -> -1
            where(0, 100) -> 0
            where(0, 101) -> 1
            where(0, 102) -> 4
            where(0, 103) -> 4
            where(0, 239) -> 4
            where(1, 240) -> index
            where(-1, 0) -> index
            where(0, 240) -> argument
            where(0, -1) -> argument
            """);
    }

    private static void found() {
        Script.run("promise 25, FOUND", """
            ofIntruder(0, 0) -> index
            base(8, 3, 100) -> 24
            guard(8, 0, 50, 20) -> 0
            // left, left, left, left, left from 15
            intruder(15, 10, 3124) -> 0
            ofIntruder(0, 0) -> 10
            ofIntruder(0, 1) -> 5
            ofIntruder(0, 2) -> 10
            ofIntruder(0, 3) -> 15
            ofIntruder(0, 4) -> 1
            guard(12, 14, 50, 20) -> 1
            // at the MINUTE 14 it is on 11
            ofIntruder(0, 3) -> 14
            ofIntruder(0, 4) -> 2
            guard(10, 14, 14, 20) -> 2
            ofIntruder(0, 4) -> 6
            lamp(13, 1) -> 0
            // on 14 it is BRIGHT, and the first one SEES it alone
            ofIntruder(0, 3) -> 11
            ofIntruder(0, 4) -> 1
            // on DUTY, but not yet there: nobody is SEEN ahead of its first MINUTE
            intruder(8, 51, 0) -> 1
            ofIntruder(1, 3) -> -1
            ofIntruder(1, 4) -> 0
            ofIntruder(1, 5) -> -1
            ofIntruder(1, 6) -> -1
            ofIntruder(1, 7) -> 0
            ofIntruder(1, 8) -> -1
            intruder(8, 50, 0) -> 2
            ofIntruder(2, 3) -> 50
            many(6) -> 2
            ofIntruder(3, 9) -> index
            ofIntruder(-1, 0) -> index
            ofIntruder(0, 9) -> argument
            ofIntruder(0, -1) -> argument
            // found at the last MINUTE
            guard(16, 239, 239, 1) -> 3
            intruder(18, 239, 0) -> 3
            ofIntruder(3, 3) -> 239
            ofIntruder(3, 4) -> 8
            ofIntruder(3, 5) -> -1
            ofIntruder(1, 3) -> 239
            // and it is there at once, if it is on that CELL
            guard(18, 239, 239, 1) -> 4
            ofIntruder(3, 5) -> 239
            ofIntruder(3, 6) -> 4
            """);
    }

    private static void response() {
        Script.run("promise 25, RESPONSE", """
            base(8, 3, 100) -> 24
            guard(8, 0, 20, 20) -> 0
            intruder(10, 20, 0) -> 0
            ofIntruder(0, 3) -> 20
            // behind its DUTY it runs on
            ofIntruder(0, 5) -> 22
            ofIntruder(0, 6) -> 0
            // one who is not on DUTY then does not run
            guard(10, 0, 19, 20) -> 1
            guard(10, 21, 239, 20) -> 2
            ofIntruder(0, 5) -> 22
            ofIntruder(0, 6) -> 0
            // one who is as soon there, and one who is sooner there
            guard(12, 0, 239, 20) -> 3
            ofIntruder(0, 6) -> 0
            guard(11, 20, 20, 20) -> 4
            ofIntruder(0, 5) -> 21
            ofIntruder(0, 6) -> 4
            ofIntruder(0, 4) -> 25
            guard(10, 20, 20, 20) -> 5
            ofIntruder(0, 5) -> 20
            ofIntruder(0, 6) -> 5
            """);
        Script.run("promise 25, to one that comes, and one that runs away", """
            base(8, 3, 100) -> 24
            guard(8, 0, 239, 20) -> 0
            // 10, 9: it comes nearer
            intruder(10, 5, 4) -> 0
            ofIntruder(0, 3) -> 5
            ofIntruder(0, 5) -> 6
            // 10, 11, 12, 13, 14, 15: it runs away as fast, and stands in the end
            intruder(10, 5, 1562) -> 1
            ofIntruder(1, 2) -> 15
            ofIntruder(1, 3) -> 5
            ofIntruder(1, 5) -> 12
            // at the end of the NIGHT nobody gets there
            intruder(10, 233, 1562) -> 2
            ofIntruder(2, 3) -> -1
            guard(8, 233, 239, 20) -> 1
            ofIntruder(2, 3) -> 233
            ofIntruder(2, 5) -> -1
            ofIntruder(2, 6) -> -1
            """);
    }

    private static void responseOverGround() {
        Script.run("promise 25, over what is no WALL", """
            base(5, 3, 100) -> 15
            guard(5, 0, 9, 20) -> 0
            intruder(7, 0, 0) -> 0
            ofIntruder(0, 5) -> 2
            // HEDGES do not stop it, but hide; GATES do not matter
            lay(6, 3) -> 0
            ofIntruder(0, 5) -> 2
            lay(6, 2) -> 3
            ofIntruder(0, 3) -> -1
            guard(12, 0, 9, 20) -> 1
            ofIntruder(0, 3) -> 0
            ofIntruder(0, 6) -> 1
            ofIntruder(0, 5) -> 1
            """);
        Script.run("promise 25, round a WALL", """
            base(5, 3, 100) -> 15
            guard(2, 0, 9, 20) -> 0
            intruder(14, 0, 0) -> 0
            ofIntruder(0, 3) -> 0
            ofIntruder(0, 5) -> 4
            // not slantwise; 2, 3, 4, 9, 14 is left
            lay(13, 1) -> 0
            ofIntruder(0, 5) -> 4
            lay(9, 1) -> 0
            ofIntruder(0, 3) -> 0
            ofIntruder(0, 5) -> -1
            ofIntruder(0, 6) -> -1
            lay(9, 0) -> 1
            lay(4, 1) -> 0
            ofIntruder(0, 5) -> 4
            lay(3, 1) -> 0
            ofIntruder(0, 5) -> 4
            lay(7, 1) -> 0
            // 2, 1, 6, 11, 12 leads no further: 8 is shut off
            ofIntruder(0, 5) -> -1
            """);
    }

    private static void force() {
        Script.run("promise 26", """
            force(0, 0, 0) -> index
            base(5, 5, 100) -> 25
            guard(12, 0, 100, 20) -> 0
            // behind a HEDGE; down, down, left: FOUND at the MINUTE 12 on 14
            lay(8, 2) -> 0
            intruder(4, 10, 94) -> 0
            ofIntruder(0, 3) -> 12
            force(1, 4, 240) -> index
            force(-1, 0, 0) -> index
            force(0, 4, 20) -> argument
            force(0, -1, 20) -> argument
            force(0, 0, 240) -> argument
            force(0, 0, -1) -> argument
            force(0, 1, 20) -> state
            force(0, 3, 20) -> state
            force(0, 0, 11) -> state
            ofIntruder(0, 7) -> 0
            ofIntruder(0, 8) -> -1
            force(0, 0, 12) -> 1
            ofIntruder(0, 8) -> 12
            force(0, 0, 13) -> state
            force(0, 2, 13) -> state
            force(0, 1, 11) -> state
            force(0, 1, 30) -> 2
            force(0, 2, 29) -> state
            ofIntruder(0, 7) -> 2
            ofIntruder(0, 8) -> 30
            force(0, 2, 30) -> 3
            force(0, 3, 239) -> 4
            force(0, 3, 239) -> state
            force(0, 0, 239) -> state
            force(0, 4, 239) -> argument
            ofIntruder(0, 7) -> 4
            ofIntruder(0, 8) -> 239
            isSound() -> true
            // one that is never FOUND
            intruder(4, 150, 0) -> 1
            force(1, 0, 239) -> state
            ofIntruder(1, 7) -> 0
            """);
        Script.run("promise 26, FOUND later than at first", """
            base(5, 3, 100) -> 15
            guard(5, 0, 100, 20) -> 0
            intruder(7, 3, 0) -> 0
            force(0, 0, 5) -> 1
            // a HEDGE: no longer FOUND
            lay(6, 2) -> 0
            force(0, 1, 50) -> state
            guard(8, 60, 61, 1) -> 1
            force(0, 1, 59) -> state
            force(0, 1, 60) -> 2
            """);
    }

    private static void ofWire() {
        // On the CELL 0 NOISE by itself is 29 * MINUTE modulo 11: 0, 7, 3, 10, 6, 2, 9, 5, 1, 8, 4, and again.
        Script.run("promise 27", """
            ofWire(0, 0) -> index
            base(5, 3, 100) -> 15
            wire(0, 1) -> 0
            wire(0, 10) -> 1
            wire(0, 11) -> 2
            wire(0, 12) -> 3
            wire(14, 9) -> 4
            ofWire(4, 0) -> 14
            ofWire(4, 1) -> 9
            // 22 at the MINUTES 0, 11, .. 231
            ofWire(0, 2) -> 218
            ofWire(0, 3) -> 218
            ofWire(0, 4) -> -1
            // 22 at the MINUTES 3, 14, .. 234
            ofWire(1, 2) -> 22
            ofWire(1, 3) -> 22
            ofWire(2, 2) -> 0
            // 98 modulo 11 is 10: 10, 6, 2, 9, 5, 1, 8, 4, 0, 7, 3
            ofWire(4, 2) -> 44
            intruder(0, 3, 2) -> 0
            // there at the MINUTE 3 alone: 10 and 5
            ofWire(3, 2) -> 1
            ofWire(3, 3) -> 0
            ofWire(3, 4) -> 3
            ofWire(2, 2) -> 1
            ofWire(1, 2) -> 22
            ofWire(1, 3) -> 21
            ofWire(1, 4) -> 3
            ofWire(0, 2) -> 218
            ofWire(0, 3) -> 217
            // 6 and 5 at the MINUTE 4
            intruder(0, 4, 2) -> 1
            ofWire(3, 2) -> 1
            ofWire(2, 2) -> 2
            ofWire(2, 3) -> 0
            // with two more at the MINUTE 5: 2 and 10
            intruder(0, 5, 2) -> 2
            intruder(0, 5, 2) -> 3
            ofWire(3, 2) -> 2
            ofWire(3, 4) -> 3
            ofWire(2, 2) -> 3
            ofWire(5, 5) -> index
            ofWire(-1, 0) -> index
            ofWire(0, 5) -> argument
            ofWire(0, -1) -> argument
            """);
        Script.run("promise 27, one that stays", """
            base(5, 3, 100) -> 15
            wire(0, 11) -> 0
            wire(1, 12) -> 1
            intruder(0, 230, 0) -> 0
            // 29 * 230 modulo 11 is 4: 4, 0, 7, 3, 10, 6, 2, 9, 5, 1, and 5 more
            ofWire(0, 2) -> 4
            ofWire(0, 3) -> 0
            ofWire(0, 4) -> 232
            ofWire(1, 2) -> 0
            ofWire(1, 4) -> -1
            // 6 at the last MINUTE; that behind it, with 13, is not of the NIGHT
            base(5, 3, 100) -> 15
            wire(0, 10) -> 0
            wire(0, 6) -> 1
            intruder(0, 239, 0) -> 0
            ofWire(0, 4) -> -1
            ofWire(1, 4) -> 239
            """);
    }
}
