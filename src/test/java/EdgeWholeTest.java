/**
 * Each sentence of the document on ways that nobody sees, on the next LAMP, and on all of it (section 5, promises
 * 28 to 35) that names a limit: a run of calls of its own, with the least and the greatest number that is let and
 * those just outside of them.
 */
public final class EdgeWholeTest {
    private EdgeWholeTest() {
    }

    public static void main(String[] args) {
        sneakArguments();
        sneakInTime();
        sneakBeside();
        sneakWhereOneCanWalk();
        sneakUnseen();
        reachArguments();
        reachEdges();
        nextLampArguments();
        nextLampEdges();
        many();
        manyAtTheirMost();
        minutesOfEmptyPosts();
        drawn();
        isSound();
        knock();
        digest();
        lastCall();
        Script.end();
    }

    private static void sneakArguments() {
        Script.run("to SNEAK: there is such a CELL, of both", """
            base(3, 3, 100) -> 9
            sneak(-1, 0, 0, 60) -> index
            sneak(9, 0, 0, 60) -> index
            sneak(0, -1, 0, 60) -> index
            sneak(0, 9, 0, 60) -> index
            sneak(-2147483648, 2147483647, 0, 60) -> index
            sneak(0, 8, 0, 60) -> 4
            sneak(8, 0, 0, 60) -> 4
            """);
        Script.run("to SNEAK: the MINUTE is 0 to 239", """
            base(3, 3, 100) -> 9
            sneak(0, 0, -1, 60) -> argument
            sneak(0, 0, 240, 60) -> argument
            sneak(0, 0, -2147483648, 60) -> argument
            sneak(0, 0, 2147483647, 60) -> argument
            sneak(0, 0, 0, 60) -> 0
            sneak(0, 0, 239, 60) -> 0
            """);
        Script.run("to SNEAK: how many MINUTES at most is 0 to 60", """
            base(3, 3, 100) -> 9
            sneak(0, 0, 0, -1) -> argument
            sneak(0, 0, 0, 61) -> argument
            sneak(0, 0, 0, -2147483648) -> argument
            sneak(0, 0, 0, 2147483647) -> argument
            sneak(0, 0, 0, 0) -> 0
            sneak(0, 1, 0, 0) -> -1
            sneak(0, 1, 0, 60) -> 1
            """);
    }

    private static void sneakInTime() {
        Script.run("NONE, if so many are not enough", """
            base(8, 8, 100) -> 64
            sneak(0, 63, 0, 13) -> -1
            sneak(0, 63, 0, 14) -> 14
            sneak(0, 63, 0, 60) -> 14
            """);
        Script.run("so many as 60, by waiting for a GATE", """
            base(3, 3, 100) -> 9
            lay(8, 3) -> 0
            gates(60, 60) -> 1
            sneak(5, 8, 0, 60) -> 60
            sneak(5, 8, 0, 59) -> -1
            gates(61, 61) -> 1
            sneak(5, 8, 0, 60) -> -1
            sneak(5, 8, 1, 60) -> 60
            """);
        Script.run("NONE, if the NIGHT is over: the MINUTE 239 is the last one", """
            base(3, 3, 100) -> 9
            sneak(0, 8, 235, 60) -> 4
            sneak(0, 8, 236, 60) -> -1
            sneak(0, 1, 238, 60) -> 1
            sneak(0, 1, 239, 60) -> -1
            sneak(0, 0, 239, 0) -> 0
            """);
        Script.run("0 to the same CELL, if one can walk on it then, and it is not WATCHED", """
            base(3, 3, 100) -> 9
            lay(0, 1) -> 0
            lay(1, 3) -> 0
            lay(2, 2) -> 0
            gates(5, 5) -> 1
            guard(8, 7, 7, 1) -> 0
            sneak(0, 0, 5, 60) -> -1
            sneak(1, 1, 4, 60) -> -1
            sneak(1, 1, 5, 60) -> 0
            sneak(1, 1, 6, 60) -> -1
            sneak(2, 2, 5, 60) -> 0
            sneak(8, 8, 6, 60) -> 0
            sneak(8, 8, 7, 60) -> -1
            sneak(8, 8, 8, 60) -> 0
            """);
    }

    private static void sneakBeside() {
        Script.run("BESIDE is above, on the right, below, on the left", """
            base(3, 3, 100) -> 9
            sneak(4, 1, 0, 1) -> 1
            sneak(4, 5, 0, 1) -> 1
            sneak(4, 7, 0, 1) -> 1
            sneak(4, 3, 0, 1) -> 1
            sneak(4, 0, 0, 1) -> -1
            sneak(4, 2, 0, 1) -> -1
            sneak(4, 6, 0, 1) -> -1
            sneak(4, 8, 0, 1) -> -1
            """);
        Script.run("no CELL is BESIDE one at the other end of the BASE", """
            base(8, 8, 100) -> 64
            sneak(7, 8, 0, 1) -> -1
            sneak(8, 7, 0, 1) -> -1
            sneak(0, 7, 0, 1) -> -1
            sneak(0, 56, 0, 1) -> -1
            sneak(63, 0, 0, 1) -> -1
            sneak(55, 56, 0, 1) -> -1
            sneak(56, 55, 0, 1) -> -1
            sneak(55, 63, 0, 1) -> 1
            sneak(63, 62, 0, 1) -> 1
            """);
    }

    private static void sneakWhereOneCanWalk() {
        Script.run("a HEDGE is let: the first one, one between, the last one", """
            base(5, 3, 100) -> 15
            lay(5, 2) -> 0
            lay(6, 2) -> 0
            lay(7, 2) -> 0
            sneak(5, 7, 0, 2) -> 2
            """);
        Script.run("a WALL is not let: the first one, one between, the last one", """
            base(5, 3, 100) -> 15
            lay(7, 1) -> 0
            sneak(7, 8, 0, 60) -> -1
            sneak(6, 7, 0, 60) -> -1
            sneak(6, 8, 0, 3) -> -1
            sneak(6, 8, 0, 4) -> 4
            """);
        Script.run("a GATE has to be OPEN at that MINUTE: not the one ahead, not the one behind", """
            base(5, 3, 100) -> 15
            lay(6, 3) -> 0
            gates(10, 10) -> 1
            sneak(5, 6, 8, 1) -> -1
            sneak(5, 6, 9, 1) -> 1
            sneak(5, 6, 10, 1) -> -1
            sneak(6, 7, 10, 1) -> 1
            sneak(6, 7, 9, 1) -> -1
            // nobody stays on it
            sneak(6, 6, 10, 0) -> 0
            reach(6, 10, 1) -> 4
            """);
        Script.run("walled in, and with one way out by a GATE", """
            base(3, 3, 100) -> 9
            lay(1, 1) -> 0
            lay(3, 1) -> 0
            sneak(0, 8, 0, 60) -> -1
            sneak(0, 0, 0, 60) -> 0
            lay(3, 3) -> 1
            sneak(0, 8, 0, 60) -> -1
            gates(40, 40) -> 1
            sneak(0, 8, 0, 60) -> 43
            sneak(0, 8, 40, 60) -> -1
            """);
    }

    private static void sneakUnseen() {
        Script.run("it is not WATCHED then; the first and the last one, too", """
            base(5, 3, 100) -> 15
            // 5 SEES 0, 1, 5, 6, 7, 10 and 11
            guard(5, 0, 0, 1) -> 0
            guard(5, 5, 5, 1) -> 1
            sneak(0, 0, 0, 60) -> -1
            sneak(2, 7, 0, 60) -> 1
            // seen at the MINUTE 0, and gone then
            sneak(7, 8, 0, 60) -> -1
            sneak(8, 7, 0, 60) -> 1
            // at the MINUTE 5 the last one is WATCHED, at 6 no more
            sneak(8, 7, 4, 1) -> -1
            sneak(8, 7, 4, 2) -> 2
            // on 7 at the MINUTE 4 one would be SEEN at 5: one waits
            sneak(8, 6, 3, 3) -> -1
            sneak(8, 6, 3, 60) -> 4
            """);
        Script.run("one stays where nobody SEES one, and is caught where all is WATCHED", """
            base(3, 3, 100) -> 9
            guard(4, 10, 10, 1) -> 0
            sneak(0, 1, 9, 60) -> -1
            sneak(0, 8, 5, 60) -> 4
            sneak(0, 8, 6, 60) -> -1
            sneak(0, 8, 10, 60) -> -1
            sneak(0, 8, 11, 60) -> 4
            """);
    }

    private static void reachArguments() {
        Script.run("on how many CELLS: there is such a CELL", """
            base(3, 3, 100) -> 9
            reach(-1, 0, 0) -> index
            reach(9, 0, 0) -> index
            reach(-2147483648, 0, 0) -> index
            reach(2147483647, 0, 0) -> index
            reach(8, 0, 0) -> 1
            """);
        Script.run("on how many CELLS: the MINUTE is 0 to 239", """
            base(3, 3, 100) -> 9
            reach(0, -1, 0) -> argument
            reach(0, 240, 0) -> argument
            reach(0, -1, 1) -> argument
            reach(0, -2147483648, 0) -> argument
            reach(0, 2147483647, 60) -> argument
            reach(0, 0, 0) -> 1
            reach(0, 239, 0) -> 1
            """);
        Script.run("on how many CELLS: so many MINUTES are 0 to 60", """
            base(3, 3, 100) -> 9
            reach(0, 0, -1) -> argument
            reach(0, 0, 61) -> argument
            reach(0, 239, -1) -> argument
            reach(0, 1, 2147483647) -> argument
            reach(0, 0, -2147483648) -> argument
            reach(0, 0, 0) -> 1
            reach(0, 0, 60) -> 9
            """);
        Script.run("MINUTE and so many together are not above 239", """
            base(3, 3, 100) -> 9
            reach(0, 179, 60) -> 9
            reach(0, 180, 60) -> argument
            reach(0, 180, 59) -> 9
            reach(0, 181, 59) -> argument
            reach(0, 238, 1) -> 3
            reach(0, 239, 1) -> argument
            reach(0, 239, 0) -> 1
            """);
    }

    private static void reachEdges() {
        Script.run("just so many MINUTES later: 0 is the CELL itself, if one can be there", """
            base(3, 3, 100) -> 9
            lay(0, 1) -> 0
            lay(1, 3) -> 0
            guard(8, 0, 0, 1) -> 0
            reach(0, 0, 0) -> 0
            reach(0, 0, 5) -> 0
            reach(1, 0, 0) -> 0
            reach(8, 0, 0) -> 0
            reach(8, 0, 5) -> 0
            reach(8, 1, 0) -> 1
            """);
        Script.run("all the CELLS, and none, as somebody SEES all of them at one MINUTE", """
            base(3, 3, 100) -> 9
            guard(4, 10, 10, 1) -> 0
            reach(4, 0, 9) -> 9
            reach(4, 0, 10) -> 0
            reach(4, 0, 11) -> 0
            reach(4, 11, 1) -> 5
            """);
        Script.run("where one cannot stay for ever: a GATE that shuts", """
            base(3, 3, 100) -> 9
            lay(4, 3) -> 0
            gates(5, 6) -> 1
            reach(4, 5, 0) -> 1
            reach(4, 5, 1) -> 5
            reach(4, 6, 1) -> 4
            reach(1, 4, 1) -> 4
            reach(1, 3, 1) -> 3
            """);
    }

    private static void nextLampArguments() {
        Script.run("the next LAMP: the MINUTE is 0 to 239", """
            base(3, 3, 100) -> 9
            nextLamp(-1, 1, true) -> argument
            nextLamp(240, 1, false) -> argument
            nextLamp(-2147483648, 1, true) -> argument
            nextLamp(2147483647, 1, true) -> argument
            nextLamp(0, 1, true) -> 0
            nextLamp(239, 1, false) -> 0
            """);
        Script.run("the next LAMP: REACH is 1 to 4", """
            base(3, 3, 100) -> 9
            nextLamp(0, 0, true) -> argument
            nextLamp(0, 5, false) -> argument
            nextLamp(0, -2147483648, true) -> argument
            nextLamp(0, 2147483647, true) -> argument
            nextLamp(0, 1, true) -> 0
            nextLamp(0, 4, true) -> 0
            """);
        Script.run("NONE for both, if there is no such CELL: without a BASE, and all WALLS", """
            nextLamp(0, 1, true) -> -1
            nextLamp(0, 1, false) -> -1
            base(3, 3, 100) -> 9
            lay(0, 1) -> 0
            lay(1, 1) -> 0
            lay(2, 1) -> 0
            lay(3, 1) -> 0
            lay(4, 1) -> 0
            lay(5, 1) -> 0
            lay(6, 1) -> 0
            lay(7, 1) -> 0
            nextLamp(0, 1, true) -> 8
            nextLamp(0, 1, false) -> 0
            lay(8, 1) -> 0
            nextLamp(0, 1, true) -> -1
            nextLamp(0, 1, false) -> -1
            """);
    }

    private static void nextLampEdges() {
        Script.run("of several the first one, that is no WALL, also if it makes none more", """
            base(3, 3, 100) -> 9
            nextLamp(0, 4, true) -> 0
            nextLamp(0, 4, false) -> 0
            lay(0, 1) -> 0
            nextLamp(0, 4, true) -> 1
            nextLamp(0, 4, false) -> 0
            """);
        Script.run("also if there are 6", """
            base(8, 3, 100) -> 24
            guard(8, 0, 239, 1) -> 0
            lamp(0, 1) -> 0
            lamp(0, 1) -> 1
            lamp(0, 1) -> 2
            lamp(0, 1) -> 3
            lamp(0, 1) -> 4
            nextLamp(0, 4, false) -> 5
            lamp(0, 1) -> 5
            lamp(0, 1) -> state
            nextLamp(0, 4, true) -> 11
            nextLamp(0, 4, false) -> 5
            // and nothing was put up by it
            many(1) -> 6
            sees(0, 15, 0) -> false
            """);
        Script.run("one LAMP more where there is one that is out", """
            base(8, 3, 100) -> 24
            guard(8, 0, 239, 1) -> 0
            lamp(11, 4) -> 0
            nextLamp(0, 4, false) -> 0
            light(0, false) -> 0
            nextLamp(0, 4, true) -> 11
            nextLamp(0, 4, false) -> 5
            """);
        Script.run("CELLS that are no WALLS are counted alone", """
            base(8, 3, 100) -> 24
            guard(8, 0, 239, 1) -> 0
            lay(11, 1) -> 0
            // 11 alone would be WATCHED more in its row, and is a WALL
            nextLamp(0, 1, false) -> 0
            """);
        Script.run("the next LAMP where nobody is on DUTY, and at the last MINUTE of one who is TIRED", """
            base(8, 3, 100) -> 24
            guard(8, 0, 238, 1) -> 0
            nextLamp(239, 4, false) -> 0
            nextLamp(239, 4, true) -> 0
            // in the dark it SEES 9, and 6 APART what is BRIGHT: 10 to 14, out of 10 with a REACH of 4
            nextLamp(238, 4, true) -> 10
            nextLamp(238, 4, false) -> 5
            """);
    }

    private static void many() {
        Script.run("how many: what is 0 to 12", """
            many(-1) -> argument
            many(0) -> 0
            many(12) -> 0
            many(13) -> argument
            many(-2147483648) -> argument
            many(2147483647) -> argument
            """);
        Script.run("how many of a new object: none of anything", """
            many(0) -> 0
            many(1) -> 0
            many(2) -> 0
            many(3) -> 0
            many(4) -> 0
            many(5) -> 0
            many(6) -> 0
            many(7) -> 0
            many(8) -> 0
            many(9) -> 0
            many(10) -> 0
            many(11) -> 0
            many(12) -> 0
            """);
        Script.run("how many CELLS: 9 to 64, WALLS too", """
            base(3, 3, 0) -> 7
            many(0) -> 9
            base(8, 8, 0) -> 52
            many(0) -> 64
            base(3, 8, 100) -> 24
            many(0) -> 24
            """);
    }

    private static void manyAtTheirMost() {
        Script.run("how many at their most: 6 LAMPS, 6 GUARDS, 4 POSTS, 4 INTRUDERS, 5 WIRES, 6 KEYS, 8 leaks", """
            base(3, 3, 100) -> 9
            lamp(0, 1) -> 0
            lamp(0, 1) -> 1
            lamp(0, 1) -> 2
            lamp(0, 1) -> 3
            lamp(0, 1) -> 4
            lamp(0, 1) -> 5
            light(5, false) -> 4
            guard(0, 0, 239, 1) -> 0
            guard(0, 0, 239, 1) -> 1
            guard(0, 0, 239, 1) -> 2
            guard(0, 0, 239, 1) -> 3
            guard(0, 0, 239, 1) -> 4
            guard(0, 0, 239, 1) -> 5
            post(8) -> 0
            post(8) -> 1
            post(8) -> 2
            post(8) -> 3
            intruder(0, 0, 0) -> 0
            intruder(0, 0, 0) -> 1
            intruder(0, 0, 0) -> 2
            intruder(0, 0, 0) -> 3
            wire(0, 1) -> 0
            wire(0, 1) -> 1
            wire(0, 1) -> 2
            wire(0, 1) -> 3
            wire(0, 1) -> 4
            key(0, 0) -> -1
            key(1, 1) -> -1
            key(2, 2) -> -1
            key(3, 3) -> -1
            key(4, 4) -> -1
            key(5, 5) -> -1
            leak(0) -> 38
            leak(0) -> 16
            leak(0) -> 92
            leak(0) -> 94
            leak(0) -> 43
            leak(0) -> 34
            leak(0) -> 21
            leak(0) -> 13
            many(0) -> 9
            many(1) -> 6
            many(2) -> 5
            many(3) -> 6
            many(4) -> 4
            many(5) -> 4
            many(6) -> 4
            many(7) -> 5
            many(8) -> 6
            many(9) -> 8
            many(10) -> 0
            many(11) -> 240
            many(12) -> 0
            lamp(0, 1) -> state
            guard(0, 0, 0, 1) -> state
            post(0) -> state
            intruder(0, 0, 0) -> state
            wire(0, 1) -> state
            leak(0) -> state
            many(1) -> 6
            many(3) -> 6
            many(4) -> 4
            many(5) -> 4
            many(7) -> 5
            many(9) -> 8
            // a refused call is not one who was REFUSED
            many(12) -> 0
            """);
        StringBuilder rows = new StringBuilder("base(3, 3, 100) -> 9\n");
        int[] words = {15, 69, 50, 1};
        for (int guard = 0; guard < 6; guard++) {
            rows.append("guard(0, 0, 239, 1) -> ").append(guard).append('\n');
            for (int hour = 0; hour < 4; hour++) {
                rows.append("answer(").append(guard).append(", ").append(60 * hour).append(", ").append(words[hour])
                    .append(") -> 0\nmany(10) -> ").append(4 * guard + hour + 1).append('\n');
            }
            rows.append("answer(").append(guard).append(", 0, 15) -> 1\n");
        }
        Script.run("answers of 0: at most 24, by 6 GUARDS in 4 HOURS", rows + "many(10) -> 24\nwords(0) -> 15\n"
            + "many(10) -> 0\nanswer(5, 0, 15) -> 0\nmany(10) -> 1\nbase(3, 3, 100) -> 9\nmany(10) -> 0\n");
    }

    private static void minutesOfEmptyPosts() {
        Script.run("MINUTES at which a POST is EMPTY: none without a POST", """
            base(3, 3, 100) -> 9
            guard(0, 0, 0, 1) -> 0
            many(11) -> 0
            """);
        Script.run("MINUTES at which a POST is EMPTY, each once", """
            base(3, 3, 100) -> 9
            post(0) -> 0
            post(1) -> 1
            many(11) -> 240
            guard(0, 0, 239, 1) -> 0
            many(11) -> 240
            guard(1, 0, 238, 1) -> 1
            many(11) -> 1
            guard(1, 239, 239, 1) -> 2
            many(11) -> 0
            post(1) -> 2
            many(11) -> 0
            """);
    }

    private static void drawn() {
        Script.run("drawn: there is such a row, the least and the greatest BASE", """
            drawn(0, 0) -> index
            base(3, 3, 100) -> 9
            drawn(0, 0) -> ...
            drawn(2, 0) -> ...
            drawn(3, 0) -> index
            drawn(-1, 0) -> index
            base(8, 8, 100) -> 64
            drawn(7, 0) -> ........
            drawn(8, 0) -> index
            drawn(-2147483648, 0) -> index
            drawn(2147483647, 0) -> index
            base(8, 3, 100) -> 24
            drawn(3, 0) -> index
            base(3, 8, 100) -> 24
            drawn(7, 0) -> ...
            """);
        Script.run("drawn: the MINUTE is 0 to 239", """
            base(3, 3, 100) -> 9
            drawn(0, -1) -> argument
            drawn(0, 240) -> argument
            drawn(0, -2147483648) -> argument
            drawn(0, 2147483647) -> argument
            drawn(0, 0) -> ...
            drawn(0, 239) -> ...
            """);
        Script.run("drawn: a WALL, a HEDGE and a GATE that are WATCHED have their own sign", """
            base(3, 3, 100) -> 9
            lay(0, 1) -> 0
            lay(1, 2) -> 0
            lay(2, 3) -> 0
            guard(4, 0, 0, 1) -> 0
            drawn(0, 0) -> #%+
            drawn(1, 0) -> :0:
            drawn(2, 0) -> :::
            drawn(0, 1) -> #%+
            drawn(1, 1) -> ...
            """);
        Script.run("drawn: a GUARD ahead of all, of several the first one that is there", """
            base(3, 3, 100) -> 9
            lay(4, 2) -> 0
            lay(5, 3) -> 0
            guard(4, 1, 1, 1) -> 0
            guard(4, 0, 1, 1) -> 1
            guard(5, 0, 1, 1) -> 2
            guard(5, 0, 1, 1) -> 3
            guard(3, 0, 1, 1) -> 4
            guard(3, 0, 0, 1) -> 5
            drawn(1, 0) -> 412
            drawn(1, 1) -> 402
            drawn(1, 2) -> .%+
            """);
        Script.run("drawn: the sixth GUARD alone", """
            base(3, 3, 100) -> 9
            guard(0, 0, 0, 1) -> 0
            guard(0, 0, 0, 1) -> 1
            guard(0, 0, 0, 1) -> 2
            guard(0, 0, 0, 1) -> 3
            guard(0, 0, 0, 1) -> 4
            guard(8, 0, 0, 1) -> 5
            drawn(0, 0) -> 0::
            drawn(2, 0) -> ::5
            """);
    }

    private static void isSound() {
        Script.run("SOUND: a new object, and a BASE without anything", """
            isSound() -> true
            base(3, 3, 100) -> 9
            isSound() -> true
            base(8, 8, 0) -> 52
            isSound() -> true
            """);
        Script.run("SOUND: with 3 STRIKES and more answers, with 4 STEPS of FORCE and one that is refused", """
            base(3, 3, 100) -> 9
            guard(4, 0, 239, 1) -> 0
            intruder(4, 0, 0) -> 0
            answer(0, 0, 5) -> 3
            answer(0, 0, 5) -> 3
            answer(0, 0, 5) -> 3
            answer(0, 0, 5) -> 4
            force(0, 0, 0) -> 1
            force(0, 1, 0) -> 2
            force(0, 2, 0) -> 3
            force(0, 3, 0) -> 4
            force(0, 3, 0) -> state
            isSound() -> true
            """);
        Script.run("SOUND: no WALL comes where something is, KEYS go with the GUARDS of the BASE ahead", """
            base(3, 3, 100) -> 9
            guard(0, 0, 239, 1) -> 0
            key(0, 0) -> -1
            lay(0, 1) -> state
            isSound() -> true
            base(3, 3, 100) -> 9
            many(8) -> 0
            key(0, -1) -> -1
            isSound() -> true
            """);
    }

    private static void knock() {
        Script.run("REFUSED ever: 0 at first, 1 with the first one, more with each, also over BASES and WORDS", """
            many(12) -> 0
            knock() -> 1
            many(12) -> 1
            base(3, 3, 100) -> 9
            many(12) -> 1
            knock() -> 2
            words(5) -> 33
            knock() -> 3
            many(12) -> 3
            """);
        Script.run("asking how many were REFUSED, and refused calls, are no knock", """
            base(2, 2, 100) -> argument
            lay(0, 0) -> index
            leak(4) -> argument
            many(12) -> 0
            many(12) -> 0
            knock() -> 1
            """);
    }

    private static void digest() {
        // 41 numbers that are 0, and the 1 for what is SOUND: 9241 times 31^42, which wraps around.
        long empty = 9241;
        for (int k = 0; k < 42; k++) {
            empty *= 31;
        }
        Script.run("the digest of a new object wraps around as a 64-bit integer", "digest() -> " + (empty + 1));
        Script.run("the digest counts who is REFUSED", "knock() -> 1\ndigest() -> "
            + (empty + 1 + powerOf31(42 - 13)));
        // NONE of the first MINUTE counts as -1; the same night with and without a refused call.
        Script.run("the digest takes NONE as -1, and is the same again", """
            base(3, 3, 100) -> 9
            intruder(0, 239, 0) -> 0
            guard(4, 0, 239, 1) -> 0
            post(4) -> 0
            """ + "digest() -> " + digestOfOne() + "\nlay(9, 0) -> index\ndigest() -> " + digestOfOne() + "\n");
    }

    private static long powerOf31(int times) {
        long power = 1;
        for (int k = 0; k < times; k++) {
            power *= 31;
        }
        return power;
    }

    /** Written out: 9 CELLS, an INTRUDER on 0 at the MINUTE 239, one GUARD in the middle for all of the NIGHT, its POST. */
    private static long digestOfOne() {
        int[] many = {9, 0, 0, 1, 1, 1, 1, 0, 0, 0, 0, 0, 0};
        int[][] minutes = {{0, 0, 1, 0, 0, 0, 0}, {0, 0, 1, 0, 0, 0, 0}, {0, 0, 1, 1, 0, 0, 0}, {0, 0, 1, 1, 0, 0, 0}};
        long d = 9241;
        for (int v : many) {
            d = d * 31 + v;
        }
        for (int[] minute : minutes) {
            for (int v : minute) {
                d = d * 31 + v;
            }
        }
        for (int cell = 0; cell < 9; cell++) {
            // TIRED at the MINUTE 120, with a RANGE of 1: it SEES all
            int[] ofCell = {0, 0, 1, cell == 4 ? 1 : 0, 1};
            for (int v : ofCell) {
                d = d * 31 + v;
            }
        }
        int[] rest = {0, 239, 1, 1, 0, 0, 0, 0, 150, -1, 0, 239, 0, 0, 239, 1, -1, -1, 0, -1, 1};
        for (int v : rest) {
            d = d * 31 + v;
        }
        return d;
    }

    private static void lastCall() {
        StringBuilder knocks = new StringBuilder();
        for (int call = 1; call <= 512; call++) {
            knocks.append("knock() -> ").append(call).append('\n');
        }
        Script.run("an object is used for at most 512 calls: the 512th one answers", knocks.toString());
        StringBuilder bases = new StringBuilder();
        for (int call = 1; call <= 511; call++) {
            bases.append(call % 2 == 0 ? "base(8, 8, 100) -> 64\n" : "base(3, 3, 100) -> 9\n");
        }
        Script.run("511 BASES, and the last one stands", bases + "many(0) -> 9\n");
    }
}
