/**
 * Each sentence of the document on INTRUDERS, RESPONSES, FORCE and WIRES (section 4, promises 22 to 27) that names a
 * limit: a run of calls of its own, with the least and the greatest number that is let and those just outside of them.
 */
public final class EdgeIntruderTest {
    private EdgeIntruderTest() {
    }

    public static void main(String[] args) {
        intruders();
        firstMinute();
        moves();
        movesBehindTheNight();
        ways();
        where();
        ofIntruder();
        found();
        responses();
        responsesInTime();
        responseOverCells();
        force();
        forceInTime();
        wires();
        bars();
        noise();
        falseRings();
        Script.end();
    }

    private static void intruders() {
        Script.run("INTRUDERS: at most 4, numbered from 0", """
            base(3, 3, 100) -> 9
            where(0, 0) -> index
            intruder(0, 0, 0) -> 0
            intruder(0, 0, 0) -> 1
            intruder(8, 239, 0) -> 2
            where(3, 0) -> index
            intruder(8, 0, 0) -> 3
            where(3, 0) -> 8
            intruder(0, 0, 0) -> state
            many(5) -> 4
            where(4, 0) -> index
            """);
        Script.run("a refused way is no INTRUDER: there may be 4 behind it", """
            base(3, 3, 100) -> 9
            intruder(0, 0, 1) -> state
            many(5) -> 0
            intruder(0, 0, 0) -> 0
            intruder(0, 0, 1) -> state
            intruder(1, 0, 0) -> 1
            intruder(0, 0, 4) -> state
            intruder(2, 0, 0) -> 2
            intruder(8, 0, 2) -> state
            intruder(3, 0, 0) -> 3
            intruder(8, 0, 0) -> state
            where(0, 0) -> 0
            where(1, 0) -> 1
            where(2, 0) -> 2
            where(3, 0) -> 3
            """);
        Script.run("the first CELL of an INTRUDER is one that there is", """
            base(3, 3, 100) -> 9
            intruder(-1, 0, 0) -> index
            intruder(9, 0, 0) -> index
            intruder(-2147483648, 0, 0) -> index
            intruder(2147483647, 0, 0) -> index
            many(5) -> 0
            intruder(0, 0, 0) -> 0
            intruder(8, 0, 0) -> 1
            """);
    }

    private static void firstMinute() {
        Script.run("the first MINUTE of an INTRUDER is 0 to 239", """
            base(3, 3, 100) -> 9
            intruder(0, -1, 0) -> argument
            intruder(0, 240, 0) -> argument
            intruder(0, -2147483648, 0) -> argument
            intruder(0, 2147483647, 0) -> argument
            many(5) -> 0
            intruder(0, 0, 0) -> 0
            intruder(0, 239, 0) -> 1
            where(0, 0) -> 0
            where(0, 239) -> 0
            where(1, 238) -> -1
            where(1, 239) -> 0
            """);
        Script.run("MOVES are not below 0", """
            base(3, 3, 100) -> 9
            intruder(4, 0, -1) -> argument
            intruder(4, 0, -2147483648) -> argument
            many(5) -> 0
            intruder(4, 0, 0) -> 0
            """);
    }

    private static void moves() {
        Script.run("none for the number 0", """
            base(3, 3, 100) -> 9
            intruder(4, 0, 0) -> 0
            ofIntruder(0, 1) -> 0
            ofIntruder(0, 2) -> 4
            where(0, 1) -> 4
            where(0, 239) -> 4
            """);
        Script.run("1 up, 2 right, 3 down, 4 left", """
            base(3, 3, 100) -> 9
            intruder(4, 0, 1) -> 0
            intruder(4, 0, 2) -> 1
            intruder(4, 0, 3) -> 2
            intruder(4, 0, 4) -> 3
            where(0, 1) -> 1
            where(1, 1) -> 5
            where(2, 1) -> 7
            where(3, 1) -> 3
            """);
        Script.run("0 to stay: in the middle, and as the last one (5 is 1 and 0)", """
            base(3, 3, 100) -> 9
            intruder(4, 0, 5) -> 0
            ofIntruder(0, 1) -> 2
            where(0, 1) -> 1
            where(0, 2) -> 1
            // 1, 0, 3
            intruder(4, 0, 28) -> 1
            ofIntruder(1, 1) -> 3
            where(1, 1) -> 1
            where(1, 2) -> 1
            where(1, 3) -> 4
            """);
        Script.run("the leading one first: 7 is 1 and 2, 11 is 2 and 1", """
            base(3, 3, 100) -> 9
            intruder(4, 0, 7) -> 0
            where(0, 1) -> 1
            where(0, 2) -> 2
            intruder(4, 0, 11) -> 1
            where(1, 1) -> 5
            where(1, 2) -> 2
            """);
        // 1 3 3 4 4 2 2 3 4 3 4 0 4 2
        Script.run("the greatest number: 14 MOVES", """
            base(8, 8, 100) -> 64
            intruder(11, 0, 2147483647) -> 0
            ofIntruder(0, 1) -> 14
            where(0, 0) -> 11
            where(0, 1) -> 3
            where(0, 2) -> 11
            where(0, 3) -> 19
            where(0, 4) -> 18
            where(0, 5) -> 17
            where(0, 6) -> 18
            where(0, 7) -> 19
            where(0, 8) -> 27
            where(0, 9) -> 26
            where(0, 10) -> 34
            where(0, 11) -> 33
            where(0, 12) -> 33
            where(0, 13) -> 32
            where(0, 14) -> 33
            where(0, 15) -> 33
            where(0, 239) -> 33
            intruder(10, 0, 2147483647) -> state
            """);
        // 5^13 is 1 and 13 times 0; one less is 13 times 4.
        Script.run("the least number of 14 MOVES, and the greatest one of 13", """
            base(8, 8, 100) -> 64
            intruder(8, 0, 1220703125) -> 0
            ofIntruder(0, 1) -> 14
            ofIntruder(0, 2) -> 0
            intruder(63, 0, 1220703124) -> state
            intruder(63, 232, 1220703124) -> 1
            ofIntruder(1, 1) -> 13
            ofIntruder(1, 2) -> 56
            """);
    }

    private static void movesBehindTheNight() {
        Script.run("MOVES that would come behind the MINUTE 239 are not made, and do not matter", """
            base(3, 3, 100) -> 9
            // right, right, right: out of the BASE by the third one
            intruder(0, 236, 62) -> state
            intruder(0, 237, 62) -> 0
            where(0, 238) -> 1
            where(0, 239) -> 2
            ofIntruder(0, 1) -> 3
            ofIntruder(0, 2) -> 2
            intruder(0, 238, 62) -> 1
            ofIntruder(1, 2) -> 1
            intruder(0, 239, 62) -> 2
            ofIntruder(2, 1) -> 3
            ofIntruder(2, 2) -> 0
            """);
        Script.run("the MOVE at the MINUTE 239 is made, onto a WALL it is refused", """
            base(3, 3, 100) -> 9
            lay(1, 1) -> 0
            intruder(0, 238, 2) -> state
            intruder(0, 239, 2) -> 0
            intruder(4, 238, 1) -> state
            intruder(4, 239, 1) -> 1
            """);
        Script.run("the greatest number of MOVES at the end of the NIGHT", """
            base(8, 8, 100) -> 64
            // the 13th MOVE leads out of the BASE
            intruder(10, 226, 2147483647) -> state
            intruder(10, 227, 2147483647) -> 0
            ofIntruder(0, 1) -> 14
            ofIntruder(0, 2) -> 32
            intruder(11, 225, 2147483647) -> 1
            ofIntruder(1, 2) -> 33
            intruder(11, 226, 2147483647) -> 2
            ofIntruder(2, 2) -> 32
            intruder(0, 239, 2147483647) -> 3
            ofIntruder(3, 1) -> 14
            ofIntruder(3, 2) -> 0
            """);
    }

    private static void ways() {
        Script.run("no CELL of its way is outside of the BASE: up, right, down, left at each edge", """
            base(3, 4, 100) -> 12
            intruder(0, 0, 1) -> state
            intruder(2, 0, 1) -> state
            intruder(2, 0, 2) -> state
            intruder(11, 0, 2) -> state
            intruder(9, 0, 3) -> state
            intruder(11, 0, 3) -> state
            intruder(0, 0, 4) -> state
            intruder(9, 0, 4) -> state
            // the end of a row is not beside the first one of the next
            intruder(5, 0, 2) -> state
            intruder(6, 0, 4) -> state
            many(5) -> 0
            intruder(3, 0, 1) -> 0
            intruder(1, 0, 2) -> 1
            intruder(8, 0, 3) -> 2
            intruder(10, 0, 4) -> 3
            """);
        Script.run("no CELL of its way is a WALL: the first, one between, the last one", """
            base(5, 3, 100) -> 15
            lay(7, 1) -> 0
            intruder(7, 0, 0) -> state
            intruder(7, 0, 2) -> state
            intruder(7, 239, 0) -> state
            // 5, 6, 7, 8
            intruder(5, 0, 62) -> state
            intruder(6, 0, 2) -> state
            many(5) -> 0
            intruder(5, 0, 2) -> 0
            where(0, 239) -> 6
            """);
        Script.run("GATES do not matter to it, and HEDGES do not", """
            base(5, 3, 100) -> 15
            lay(6, 3) -> 0
            lay(7, 2) -> 0
            intruder(6, 0, 0) -> 0
            intruder(5, 0, 62) -> 1
            where(1, 1) -> 6
            where(1, 2) -> 7
            where(1, 3) -> 8
            """);
        Script.run("it comes and goes over one CELL often", """
            base(3, 3, 100) -> 9
            // right, left, right, left
            intruder(0, 0, 364) -> 0
            where(0, 1) -> 1
            where(0, 2) -> 0
            where(0, 3) -> 1
            where(0, 4) -> 0
            where(0, 5) -> 0
            """);
    }

    private static void where() {
        Script.run("where an INTRUDER is: NONE, if it is not there yet", """
            base(3, 3, 100) -> 9
            intruder(4, 100, 1) -> 0
            where(0, 0) -> -1
            where(0, 99) -> -1
            where(0, 100) -> 4
            where(0, 101) -> 1
            where(0, 239) -> 1
            """);
        Script.run("where an INTRUDER is: the MINUTE is 0 to 239", """
            base(3, 3, 100) -> 9
            intruder(4, 0, 0) -> 0
            where(0, 0) -> 4
            where(0, 239) -> 4
            where(0, -1) -> argument
            where(0, 240) -> argument
            where(0, -2147483648) -> argument
            where(0, 2147483647) -> argument
            """);
        Script.run("where an INTRUDER is: there is such an INTRUDER", """
            base(3, 3, 100) -> 9
            where(0, 0) -> index
            intruder(4, 0, 0) -> 0
            where(-1, 0) -> index
            where(1, 0) -> index
            where(-2147483648, 0) -> index
            where(2147483647, 0) -> index
            """);
    }

    private static void ofIntruder() {
        Script.run("what of an INTRUDER is 0 to 8", """
            base(3, 3, 100) -> 9
            intruder(4, 7, 1) -> 0
            ofIntruder(0, -1) -> argument
            ofIntruder(0, 0) -> 7
            ofIntruder(0, 1) -> 1
            ofIntruder(0, 2) -> 1
            ofIntruder(0, 3) -> -1
            ofIntruder(0, 4) -> 0
            ofIntruder(0, 5) -> -1
            ofIntruder(0, 6) -> -1
            ofIntruder(0, 7) -> 0
            ofIntruder(0, 8) -> -1
            ofIntruder(0, 9) -> argument
            ofIntruder(0, -2147483648) -> argument
            ofIntruder(0, 2147483647) -> argument
            """);
        Script.run("of an INTRUDER: there is such an INTRUDER", """
            base(3, 3, 100) -> 9
            ofIntruder(0, 0) -> index
            intruder(4, 0, 0) -> 0
            ofIntruder(-1, 0) -> index
            ofIntruder(1, 0) -> index
            ofIntruder(-2147483648, 0) -> index
            ofIntruder(2147483647, 0) -> index
            """);
    }

    private static void found() {
        Script.run("FOUND: NONE, if it is never so", """
            base(3, 3, 100) -> 9
            intruder(4, 0, 0) -> 0
            ofIntruder(0, 3) -> -1
            many(6) -> 0
            // the GUARD leaves as the INTRUDER comes
            guard(4, 0, 99, 20) -> 0
            intruder(4, 100, 0) -> 1
            ofIntruder(1, 3) -> -1
            ofIntruder(0, 3) -> 0
            many(6) -> 1
            """);
        Script.run("FOUND at its first MINUTE, at the MINUTE 0", """
            base(3, 3, 100) -> 9
            guard(4, 0, 0, 20) -> 0
            intruder(4, 0, 0) -> 0
            ofIntruder(0, 3) -> 0
            ofIntruder(0, 4) -> 1
            """);
        Script.run("FOUND at the MINUTE 239", """
            base(3, 3, 100) -> 9
            guard(4, 239, 239, 20) -> 0
            intruder(4, 0, 0) -> 0
            ofIntruder(0, 3) -> 239
            ofIntruder(0, 4) -> 1
            ofIntruder(0, 5) -> 239
            ofIntruder(0, 6) -> 0
            many(6) -> 1
            """);
        Script.run("FOUND at the first MINUTE of several, and not ahead of its own first one", """
            base(3, 3, 100) -> 9
            guard(4, 0, 0, 20) -> 0
            guard(4, 50, 239, 20) -> 1
            intruder(0, 0, 0) -> 0
            ofIntruder(0, 3) -> 0
            intruder(0, 1, 0) -> 1
            ofIntruder(1, 3) -> 50
            intruder(0, 60, 0) -> 2
            ofIntruder(2, 3) -> 60
            """);
        Script.run("the set of GUARDS who SEE it then: all 6", """
            base(3, 3, 100) -> 9
            guard(4, 0, 239, 20) -> 0
            guard(4, 0, 239, 20) -> 1
            guard(4, 0, 239, 20) -> 2
            guard(4, 0, 239, 20) -> 3
            guard(4, 0, 239, 20) -> 4
            guard(4, 0, 239, 20) -> 5
            intruder(0, 0, 0) -> 0
            ofIntruder(0, 4) -> 63
            """);
        Script.run("those who SEE it later on are not in the set", """
            base(3, 3, 100) -> 9
            guard(4, 10, 239, 20) -> 0
            guard(4, 9, 9, 20) -> 1
            intruder(0, 0, 0) -> 0
            ofIntruder(0, 3) -> 9
            ofIntruder(0, 4) -> 2
            """);
        Script.run("all 4 are FOUND", """
            base(3, 3, 100) -> 9
            guard(4, 0, 239, 20) -> 0
            intruder(0, 0, 0) -> 0
            intruder(0, 239, 0) -> 1
            intruder(8, 0, 0) -> 2
            intruder(8, 239, 0) -> 3
            many(6) -> 4
            """);
    }

    private static void responses() {
        Script.run("a GUARD who is on its CELL is there at once", """
            base(8, 3, 100) -> 24
            guard(8, 0, 0, 20) -> 0
            intruder(8, 0, 0) -> 0
            ofIntruder(0, 3) -> 0
            ofIntruder(0, 5) -> 0
            ofIntruder(0, 6) -> 0
            """);
        Script.run("a GUARD who is on DUTY then: the first and the last MINUTE of it count", """
            base(8, 3, 100) -> 24
            guard(9, 0, 9, 20) -> 0
            guard(9, 11, 20, 20) -> 1
            intruder(10, 9, 0) -> 0
            ofIntruder(0, 3) -> 9
            ofIntruder(0, 5) -> 10
            ofIntruder(0, 6) -> 0
            intruder(10, 10, 0) -> 1
            ofIntruder(1, 3) -> 11
            ofIntruder(1, 5) -> 12
            ofIntruder(1, 6) -> 1
            intruder(10, 20, 0) -> 2
            ofIntruder(2, 5) -> 21
            intruder(10, 21, 0) -> 3
            ofIntruder(3, 3) -> -1
            ofIntruder(3, 5) -> -1
            ofIntruder(3, 6) -> -1
            """);
        Script.run("also one who does not SEE it runs", """
            base(8, 3, 100) -> 24
            lay(9, 2) -> 0
            guard(8, 0, 239, 20) -> 0
            guard(12, 0, 239, 20) -> 1
            intruder(10, 0, 0) -> 0
            ofIntruder(0, 4) -> 2
            ofIntruder(0, 5) -> 2
            // of several the first one
            ofIntruder(0, 6) -> 0
            """);
        Script.run("the first one of all GUARDS counts, the sixth one too", """
            base(8, 3, 100) -> 24
            guard(8, 0, 239, 20) -> 0
            guard(8, 0, 239, 20) -> 1
            guard(8, 0, 239, 20) -> 2
            guard(8, 0, 239, 20) -> 3
            guard(8, 0, 239, 20) -> 4
            guard(9, 0, 239, 20) -> 5
            intruder(10, 0, 0) -> 0
            ofIntruder(0, 5) -> 1
            ofIntruder(0, 6) -> 5
            """);
        Script.run("it runs from where it is then, not from the first CELL of its ROUND", """
            base(8, 3, 100) -> 24
            guard(0, 0, 239, 5) -> 0
            round(0, 9) -> 2
            intruder(10, 5, 0) -> 0
            ofIntruder(0, 3) -> 5
            ofIntruder(0, 5) -> 6
            """);
    }

    private static void responsesInTime() {
        Script.run("it is there at the MINUTE 239, or not at all in this NIGHT", """
            base(8, 3, 100) -> 24
            guard(8, 238, 239, 20) -> 0
            intruder(9, 238, 0) -> 0
            ofIntruder(0, 3) -> 238
            ofIntruder(0, 5) -> 239
            ofIntruder(0, 6) -> 0
            intruder(10, 238, 0) -> 1
            ofIntruder(1, 3) -> 238
            ofIntruder(1, 4) -> 1
            ofIntruder(1, 5) -> -1
            ofIntruder(1, 6) -> -1
            """);
        Script.run("also behind its DUTY", """
            base(8, 3, 100) -> 24
            guard(8, 0, 0, 20) -> 0
            intruder(10, 0, 0) -> 0
            ofIntruder(0, 5) -> 2
            """);
        Script.run("or stands still: the INTRUDER comes onto its CELL", """
            base(8, 3, 100) -> 24
            guard(8, 5, 5, 20) -> 0
            intruder(9, 5, 4) -> 0
            ofIntruder(0, 3) -> 5
            ofIntruder(0, 5) -> 6
            """);
        Script.run("where the INTRUDER is at that MINUTE: one that goes on is caught where it stays", """
            base(8, 3, 100) -> 24
            guard(8, 0, 89, 20) -> 0
            // 10, 11, 12, 13
            intruder(10, 0, 62) -> 0
            ofIntruder(0, 2) -> 13
            ofIntruder(0, 5) -> 5
            """);
    }

    private static void responseOverCells() {
        Script.run("over CELLS one BESIDE the other: no slanting step, no step over the end of a row", """
            base(3, 3, 100) -> 9
            guard(0, 0, 0, 20) -> 0
            intruder(4, 0, 0) -> 0
            ofIntruder(0, 5) -> 2
            base(3, 3, 100) -> 9
            guard(2, 0, 0, 20) -> 0
            lamp(4, 1) -> 0
            intruder(3, 0, 0) -> 0
            ofIntruder(0, 3) -> -1
            guard(3, 0, 0, 20) -> 1
            ofIntruder(0, 6) -> 1
            base(3, 3, 100) -> 9
            guard(2, 0, 0, 20) -> 0
            guard(6, 5, 5, 20) -> 1
            intruder(6, 0, 0) -> 0
            // 2 SEES 6 over the diagonal, and is 4 steps off
            ofIntruder(0, 3) -> 0
            ofIntruder(0, 5) -> 4
            """);
        Script.run("over CELLS that are no WALLS: without such a way nobody is there", """
            base(3, 3, 100) -> 9
            guard(0, 0, 239, 20) -> 0
            lay(1, 1) -> 0
            lay(3, 1) -> 0
            intruder(4, 0, 0) -> 0
            ofIntruder(0, 3) -> 0
            ofIntruder(0, 4) -> 1
            ofIntruder(0, 5) -> -1
            ofIntruder(0, 6) -> -1
            lay(3, 2) -> 1
            ofIntruder(0, 5) -> 2
            lay(3, 3) -> 2
            ofIntruder(0, 5) -> 2
            """);
    }

    private static void force() {
        Script.run("STEPS are 0 to 3", """
            base(3, 3, 100) -> 9
            guard(4, 0, 239, 20) -> 0
            intruder(4, 0, 0) -> 0
            force(0, -1, 0) -> argument
            force(0, 4, 0) -> argument
            force(0, -2147483648, 0) -> argument
            force(0, 2147483647, 0) -> argument
            ofIntruder(0, 7) -> 0
            force(0, 0, 0) -> 1
            force(0, 1, 0) -> 2
            force(0, 2, 0) -> 3
            force(0, 3, 0) -> 4
            force(0, 4, 0) -> argument
            ofIntruder(0, 7) -> 4
            isSound() -> true
            """);
        Script.run("each only behind the one ahead of it", """
            base(3, 3, 100) -> 9
            guard(4, 0, 239, 20) -> 0
            intruder(4, 0, 0) -> 0
            force(0, 1, 0) -> state
            force(0, 2, 0) -> state
            force(0, 3, 0) -> state
            ofIntruder(0, 7) -> 0
            force(0, 0, 0) -> 1
            force(0, 2, 0) -> state
            force(0, 3, 0) -> state
            ofIntruder(0, 7) -> 1
            force(0, 1, 0) -> 2
            force(0, 3, 0) -> state
            force(0, 2, 0) -> 3
            force(0, 3, 0) -> 4
            """);
        Script.run("not, if the STEP was told", """
            base(3, 3, 100) -> 9
            guard(4, 0, 239, 20) -> 0
            intruder(4, 0, 0) -> 0
            force(0, 0, 0) -> 1
            force(0, 0, 0) -> state
            force(0, 0, 239) -> state
            force(0, 1, 5) -> 2
            force(0, 0, 5) -> state
            force(0, 1, 5) -> state
            force(0, 2, 5) -> 3
            force(0, 3, 5) -> 4
            force(0, 3, 239) -> state
            force(0, 0, 239) -> state
            ofIntruder(0, 7) -> 4
            ofIntruder(0, 8) -> 5
            """);
        Script.run("not, if it is never FOUND", """
            base(3, 3, 100) -> 9
            intruder(4, 0, 0) -> 0
            force(0, 0, 0) -> state
            force(0, 0, 239) -> state
            ofIntruder(0, 7) -> 0
            ofIntruder(0, 8) -> -1
            """);
        Script.run("FORCE against an INTRUDER that there is, each with STEPS of its own", """
            base(3, 3, 100) -> 9
            guard(4, 0, 239, 20) -> 0
            force(0, 0, 0) -> index
            intruder(4, 0, 0) -> 0
            force(-1, 0, 0) -> index
            force(1, 0, 0) -> index
            force(-2147483648, 0, 0) -> index
            force(2147483647, 0, 0) -> index
            intruder(4, 0, 0) -> 1
            force(1, 0, 0) -> 1
            force(1, 1, 0) -> 2
            force(0, 1, 0) -> state
            force(0, 0, 0) -> 1
            ofIntruder(0, 7) -> 1
            ofIntruder(1, 7) -> 2
            """);
    }

    private static void forceInTime() {
        Script.run("the MINUTE of a STEP is 0 to 239", """
            base(3, 3, 100) -> 9
            guard(4, 0, 239, 20) -> 0
            intruder(4, 0, 0) -> 0
            force(0, 0, -1) -> argument
            force(0, 0, 240) -> argument
            force(0, 0, -2147483648) -> argument
            force(0, 0, 2147483647) -> argument
            ofIntruder(0, 8) -> -1
            force(0, 0, 0) -> 1
            ofIntruder(0, 8) -> 0
            force(0, 1, 239) -> 2
            ofIntruder(0, 8) -> 239
            """);
        Script.run("at a MINUTE that is not earlier than that at which it is FOUND", """
            base(3, 3, 100) -> 9
            guard(4, 100, 239, 20) -> 0
            intruder(4, 0, 0) -> 0
            force(0, 0, 0) -> state
            force(0, 0, 99) -> state
            ofIntruder(0, 7) -> 0
            force(0, 0, 100) -> 1
            """);
        Script.run("FOUND at the MINUTE 239: FORCE at that one alone", """
            base(3, 3, 100) -> 9
            guard(4, 239, 239, 20) -> 0
            intruder(4, 0, 0) -> 0
            force(0, 0, 238) -> state
            force(0, 0, 239) -> 1
            force(0, 1, 238) -> state
            force(0, 1, 239) -> 2
            force(0, 2, 239) -> 3
            force(0, 3, 239) -> 4
            """);
        Script.run("at a MINUTE that is not earlier than that of the STEP ahead", """
            base(3, 3, 100) -> 9
            guard(4, 0, 239, 20) -> 0
            intruder(4, 0, 0) -> 0
            force(0, 0, 50) -> 1
            force(0, 1, 49) -> state
            force(0, 1, 0) -> state
            ofIntruder(0, 8) -> 50
            force(0, 1, 50) -> 2
            force(0, 2, 60) -> 3
            force(0, 3, 59) -> state
            force(0, 3, 60) -> 4
            """);
    }

    private static void wires() {
        Script.run("WIRES: at most 5, numbered from 0", """
            base(3, 3, 100) -> 9
            ofWire(0, 0) -> index
            wire(0, 1) -> 0
            wire(0, 1) -> 1
            wire(0, 1) -> 2
            wire(0, 1) -> 3
            ofWire(4, 0) -> index
            wire(8, 12) -> 4
            ofWire(4, 0) -> 8
            ofWire(4, 1) -> 12
            wire(0, 1) -> state
            many(7) -> 5
            ofWire(5, 0) -> index
            """);
        Script.run("the CELL of a WIRE is one that there is, a WALL too", """
            base(3, 3, 100) -> 9
            lay(0, 1) -> 0
            wire(-1, 1) -> index
            wire(9, 1) -> index
            wire(-2147483648, 1) -> index
            wire(2147483647, 1) -> index
            many(7) -> 0
            wire(0, 1) -> 0
            wire(8, 1) -> 1
            """);
        Script.run("BAR is 1 to 12", """
            base(3, 3, 100) -> 9
            wire(0, 0) -> argument
            wire(0, -1) -> argument
            wire(0, 13) -> argument
            wire(0, -2147483648) -> argument
            wire(0, 2147483647) -> argument
            many(7) -> 0
            wire(0, 1) -> 0
            wire(0, 12) -> 1
            ofWire(0, 1) -> 1
            ofWire(1, 1) -> 12
            """);
        Script.run("what of a WIRE is 0 to 4", """
            base(3, 3, 100) -> 9
            wire(8, 12) -> 0
            ofWire(0, -1) -> argument
            ofWire(0, 0) -> 8
            ofWire(0, 1) -> 12
            ofWire(0, 2) -> 0
            ofWire(0, 3) -> 0
            ofWire(0, 4) -> -1
            ofWire(0, 5) -> argument
            ofWire(0, -2147483648) -> argument
            ofWire(0, 2147483647) -> argument
            """);
        Script.run("of a WIRE: there is such a WIRE", """
            base(3, 3, 100) -> 9
            ofWire(0, 0) -> index
            wire(8, 12) -> 0
            ofWire(-1, 0) -> index
            ofWire(1, 0) -> index
            ofWire(-2147483648, 0) -> index
            ofWire(2147483647, 0) -> index
            """);
    }

    private static void bars() {
        // On the CELL 0 NOISE is 0, 7, 3, 10, 6, 2, 9, 5, 1, 8, 4 for the MINUTES 0 to 10, and again: 8 and 4 come
        // 21 times in the NIGHT, the others 22 times.
        Script.run("it RINGS, if NOISE is its BAR or more: the least BAR, not at a NOISE of 0", """
            base(3, 3, 100) -> 9
            wire(0, 1) -> 0
            ofWire(0, 2) -> 218
            """);
        Script.run("it RINGS, if NOISE is its BAR or more: 10 is the most without an INTRUDER", """
            base(3, 3, 100) -> 9
            wire(0, 9) -> 0
            wire(0, 10) -> 1
            wire(0, 11) -> 2
            ofWire(0, 2) -> 44
            ofWire(1, 2) -> 22
            ofWire(2, 2) -> 0
            """);
        Script.run("NOISE of the last CELL wraps around by 11: 7 * 63 is 1, and 8, 4, 0, 7, 3, 10, 6, 2, 9, 5", """
            base(8, 8, 100) -> 64
            wire(63, 10) -> 0
            // 22 times at the MINUTES 6, 17, .. 237
            ofWire(0, 2) -> 22
            wire(63, 8) -> 1
            // 8 at 1, .. 232, 10 at 6, .. 237, 9 at 9, .. 229
            ofWire(1, 2) -> 65
            """);
    }

    private static void noise() {
        Script.run("5 for each INTRUDER that is on its CELL: one of them", """
            base(3, 3, 100) -> 9
            wire(0, 12) -> 0
            wire(0, 11) -> 1
            wire(0, 5) -> 2
            wire(0, 6) -> 3
            intruder(0, 0, 0) -> 0
            // from 7 on: 7, 10, 9 and 8
            ofWire(0, 2) -> 87
            ofWire(0, 4) -> 1
            // from 6 on
            ofWire(1, 2) -> 109
            ofWire(1, 4) -> 1
            ofWire(2, 2) -> 240
            ofWire(2, 4) -> 0
            ofWire(3, 2) -> 218
            ofWire(3, 4) -> 1
            """);
        Script.run("5 for each INTRUDER that is on its CELL: all 4 of them", """
            base(3, 3, 100) -> 9
            wire(0, 12) -> 0
            intruder(0, 0, 0) -> 0
            intruder(0, 0, 0) -> 1
            // from 2 on
            ofWire(0, 2) -> 196
            ofWire(0, 4) -> 1
            intruder(0, 0, 0) -> 2
            ofWire(0, 2) -> 240
            ofWire(0, 4) -> 0
            intruder(0, 0, 0) -> 3
            ofWire(0, 2) -> 240
            ofWire(0, 3) -> 0
            """);
        Script.run("one that is not there yet, or BESIDE it, makes no NOISE", """
            base(3, 3, 100) -> 9
            wire(0, 12) -> 0
            intruder(1, 0, 0) -> 0
            intruder(3, 0, 0) -> 1
            ofWire(0, 2) -> 0
            // 3, 10, 6, 2, 9, 5 and 1 from the MINUTE 233 on, and 5 more
            intruder(0, 233, 0) -> 2
            ofWire(0, 2) -> 2
            ofWire(0, 4) -> 234
            intruder(0, 239, 0) -> 3
            // 1 and 10 at the last MINUTE
            ofWire(0, 2) -> 2
            """);
    }

    private static void falseRings() {
        Script.run("FALSELY, if no INTRUDER is on its CELL: the last MINUTE ahead of it, and the first one with it", """
            base(3, 3, 100) -> 9
            wire(0, 1) -> 0
            ofWire(0, 3) -> 218
            // at the MINUTE 120 alone: 120 is 10 modulo 11, NOISE 4
            intruder(0, 120, 2) -> 0
            ofWire(0, 2) -> 218
            ofWire(0, 3) -> 217
            ofWire(0, 4) -> 120
            """);
        Script.run("FALSELY, if no INTRUDER is on its CELL: never with one all NIGHT", """
            base(3, 3, 100) -> 9
            wire(0, 1) -> 0
            intruder(0, 0, 0) -> 0
            ofWire(0, 2) -> 240
            ofWire(0, 3) -> 0
            ofWire(0, 4) -> 0
            """);
        Script.run("the first MINUTE at which it RINGS with an INTRUDER on its CELL: NONE, 0 and 239", """
            base(3, 3, 100) -> 9
            wire(0, 1) -> 0
            ofWire(0, 4) -> -1
            intruder(0, 239, 0) -> 0
            ofWire(0, 4) -> 239
            intruder(0, 0, 2) -> 1
            // a NOISE of 0 and 5
            ofWire(0, 4) -> 0
            base(3, 3, 100) -> 9
            wire(0, 6) -> 0
            intruder(0, 0, 2) -> 0
            ofWire(0, 4) -> -1
            """);
    }
}
