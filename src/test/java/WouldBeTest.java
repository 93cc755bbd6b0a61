/** Promises 28 to 30: ways that nobody sees, and the next LAMP. */
public final class WouldBeTest {
    private WouldBeTest() {
    }

    public static void main(String[] args) {
        sneak();
        sneakPastGuards();
        sneakThroughGates();
        reach();
        nextLamp();
        nextLampEdges();
        Script.end();
    }

    private static void sneak() {
        Script.run("promise 28", """
            sneak(0, 0, 0, 0) -> index
            base(5, 3, 100) -> 15
            sneak(0, 0, 0, 0) -> 0
            sneak(0, 0, 239, 60) -> 0
            sneak(0, 1, 0, 0) -> -1
            sneak(0, 1, 0, 1) -> 1
            sneak(0, 14, 0, 60) -> 6
            sneak(0, 14, 0, 6) -> 6
            sneak(0, 14, 0, 5) -> -1
            sneak(14, 0, 100, 6) -> 6
            // the NIGHT is over
            sneak(0, 14, 233, 60) -> 6
            sneak(0, 14, 234, 60) -> -1
            sneak(0, 1, 239, 60) -> -1
            // not slantwise, and not from the end of a row to the next one
            sneak(0, 6, 0, 1) -> -1
            sneak(0, 6, 0, 2) -> 2
            sneak(4, 5, 0, 4) -> -1
            sneak(4, 5, 0, 5) -> 5
            // HEDGES are let, WALLS are not
            lay(2, 2) -> 0
            lay(7, 1) -> 0
            lay(12, 1) -> 0
            sneak(5, 9, 0, 60) -> 6
            lay(2, 1) -> 2
            sneak(5, 9, 0, 60) -> -1
            sneak(7, 7, 0, 60) -> -1
            sneak(6, 7, 0, 60) -> -1
            sneak(15, 0, 240, 0) -> index
            sneak(0, 15, 240, 0) -> index
            sneak(-1, 0, 0, 0) -> index
            sneak(0, -1, 0, 0) -> index
            sneak(0, 0, 240, 0) -> argument
            sneak(0, 0, -1, 0) -> argument
            sneak(0, 0, 0, 61) -> argument
            sneak(0, 0, 0, -1) -> argument
            """);
    }

    private static void sneakPastGuards() {
        Script.run("promise 28, past GUARDS", """
            base(5, 3, 100) -> 15
            // it leaves 0, 4, 10 and 14 alone
            guard(7, 0, 9, 20) -> 0
            sneak(7, 7, 9, 60) -> -1
            sneak(7, 7, 10, 0) -> 0
            sneak(0, 0, 0, 60) -> 0
            sneak(1, 1, 0, 60) -> -1
            // the first one has to be unseen, and the last one: one waits till the MINUTE 10
            sneak(1, 0, 9, 60) -> -1
            sneak(0, 1, 0, 60) -> 10
            sneak(0, 1, 0, 9) -> -1
            sneak(0, 4, 0, 60) -> 13
            sneak(0, 4, 0, 12) -> -1
            // somebody comes, and leaves 4, 8, 9, 10, 12 and 14 alone: one waits on 12, or on 10
            guard(1, 12, 14, 20) -> 1
            sneak(10, 14, 10, 60) -> 6
            sneak(10, 14, 11, 60) -> 7
            // and here one is SEEN wherever one goes
            sneak(0, 0, 11, 0) -> 0
            sneak(0, 1, 11, 60) -> -1
            sneak(0, 10, 11, 60) -> -1
            """);
    }

    private static void sneakThroughGates() {
        Script.run("promise 28, through GATES", """
            base(3, 3, 100) -> 9
            lay(3, 1) -> 0
            lay(4, 3) -> 0
            lay(5, 1) -> 0
            sneak(1, 7, 0, 60) -> -1
            sneak(4, 4, 0, 0) -> -1
            gates(20, 20) -> 1
            sneak(1, 7, 0, 60) -> 21
            sneak(1, 7, 19, 60) -> 2
            sneak(1, 7, 20, 60) -> -1
            sneak(4, 7, 20, 60) -> 1
            sneak(4, 4, 20, 60) -> 0
            // one cannot stay on a GATE that shuts
            sneak(2, 7, 18, 60) -> 3
            gates(19, 20) -> 1
            sneak(2, 7, 17, 60) -> 3
            sneak(2, 8, 17, 60) -> 4
            gates(30, 20) -> 1
            sneak(1, 7, 0, 60) -> -1
            """);
    }

    private static void reach() {
        Script.run("promise 29", """
            reach(0, 0, 0) -> index
            base(5, 5, 100) -> 25
            reach(12, 0, 0) -> 1
            reach(12, 0, 1) -> 5
            reach(12, 0, 2) -> 13
            reach(12, 0, 3) -> 21
            reach(12, 0, 4) -> 25
            reach(0, 179, 60) -> 25
            reach(0, 180, 60) -> argument
            reach(0, 239, 0) -> 1
            reach(0, 239, 1) -> argument
            reach(0, 0, 61) -> argument
            reach(0, 0, -1) -> argument
            reach(0, 240, 0) -> argument
            reach(0, -1, 0) -> argument
            reach(25, 240, 0) -> index
            reach(-1, 0, 0) -> index
            // at the edges: 4, and nothing of the next row
            reach(4, 0, 1) -> 3
            reach(9, 0, 1) -> 4
            reach(10, 0, 1) -> 4
            reach(24, 0, 1) -> 3
            // WALLS, HEDGES, GATES
            lay(11, 1) -> 0
            reach(12, 0, 1) -> 4
            lay(13, 2) -> 0
            reach(12, 0, 1) -> 4
            lay(7, 3) -> 0
            reach(12, 0, 1) -> 3
            gates(0, 0) -> 1
            reach(12, 0, 1) -> 3
            reach(11, 0, 1) -> 0
            gates(0, 1) -> 1
            reach(12, 0, 1) -> 4
            // on a GATE that shuts nobody is left
            reach(7, 1, 0) -> 1
            lay(12, 1) -> 0
            reach(7, 1, 1) -> 3
            // where a GUARD SEES one nobody is
            guard(24, 2, 2, 1) -> 0
            reach(24, 1, 0) -> 1
            reach(24, 1, 1) -> 0
            reach(24, 2, 0) -> 0
            reach(24, 0, 3) -> 0
            reach(24, 3, 3) -> 10
            """);
        Script.run("promise 29, the greatest BASE", """
            base(8, 8, 100) -> 64
            reach(63, 0, 1) -> 3
            reach(63, 0, 14) -> 64
            reach(63, 0, 13) -> 63
            reach(0, 0, 14) -> 64
            reach(0, 0, 13) -> 63
            sneak(0, 63, 0, 14) -> 14
            sneak(63, 0, 0, 13) -> -1
            """);
    }

    private static void nextLamp() {
        Script.run("promise 30", """
            base(8, 3, 100) -> 24
            guard(8, 0, 5, 1) -> 0
            // 11, 12, 13, 14 and 15 would be WATCHED: on 11 with a REACH of 4
            nextLamp(0, 4, true) -> 11
            nextLamp(0, 4, false) -> 5
            // from 4 on it lights 11, 12 and 13
            nextLamp(0, 1, true) -> 4
            nextLamp(0, 1, false) -> 3
            nextLamp(6, 4, true) -> 0
            nextLamp(6, 4, false) -> 0
            // LIT ones that are there count for nothing, those that are out do
            lamp(13, 1) -> 0
            nextLamp(0, 1, true) -> 2
            nextLamp(0, 1, false) -> 1
            light(0, false) -> 0
            nextLamp(0, 1, true) -> 4
            nextLamp(0, 1, false) -> 3
            // a WALL that would be WATCHED does not count, and hides: 11 alone is left, and 2 lights it
            lay(12, 1) -> 0
            nextLamp(0, 4, true) -> 2
            nextLamp(0, 4, false) -> 1
            // in FOG 5 RANGE is 2 in the light, and 0 in the dark
            fog(0, 5) -> 1
            // 0, 1, 9, 10, 16 and 17
            nextLamp(0, 1, true) -> 9
            nextLamp(0, 1, false) -> 6
            """);
    }

    private static void nextLampEdges() {
        Script.run("promise 30, edges", """
            nextLamp(0, 1, true) -> -1
            nextLamp(0, 1, false) -> -1
            nextLamp(240, 1, true) -> argument
            nextLamp(-1, 1, true) -> argument
            nextLamp(0, 0, true) -> argument
            nextLamp(0, 5, false) -> argument
            base(3, 3, 100) -> 9
            lay(0, 1) -> 0
            nextLamp(0, 1, true) -> 1
            nextLamp(0, 1, false) -> 0
            lay(1, 1) -> 0
            lay(2, 1) -> 0
            lay(3, 1) -> 0
            lay(4, 1) -> 0
            lay(5, 1) -> 0
            lay(6, 1) -> 0
            lay(7, 1) -> 0
            nextLamp(0, 4, true) -> 8
            lay(8, 1) -> 0
            nextLamp(0, 4, true) -> -1
            nextLamp(0, 4, false) -> -1
            // also if there are 6
            base(8, 3, 100) -> 24
            guard(8, 0, 5, 1) -> 0
            lamp(0, 1) -> 0
            lamp(0, 1) -> 1
            lamp(0, 1) -> 2
            lamp(0, 1) -> 3
            lamp(0, 1) -> 4
            lamp(0, 1) -> 5
            nextLamp(0, 4, true) -> 11
            nextLamp(0, 4, false) -> 5
            many(1) -> 6
            """);
    }
}
