/**
 * Each sentence of the document on the BASE, on light and on FOG (section 1, promises 1 to 7) that names a limit:
 * a run of calls of its own, with the least and the greatest number that is let and those just outside of them.
 * That a refused call changes nothing stands in RefusedTest, each pair of limits at once in CornerTest.
 */
public final class EdgeBaseTest {
    private EdgeBaseTest() {
    }

    public static void main(String[] args) {
        newObject();
        sizesOfTheBase();
        rowOfTheSeed();
        kindsOfTheRow();
        everyBase();
        baseAnew();
        kinds();
        noWallWhereSomethingIs();
        gates();
        lamps();
        reachOfLamps();
        viewOfLamps();
        light();
        fog();
        fogReports();
        Script.end();
    }

    private static void newObject() {
        Script.run("a new object has no BASE: no CELL, no row", """
            many(0) -> 0
            ofCell(0, 0, 0) -> index
            lay(0, 0) -> index
            drawn(0, 0) -> index
            lapse(0, 0, 0) -> index
            sneak(0, 0, 0, 0) -> index
            reach(0, 0, 0) -> index
            sees(-1, 0, 0) -> index
            """);
        Script.run("a new object has none of anything", """
            light(0, true) -> index
            place(0, 0) -> index
            round(0, 0) -> index
            answer(0, 0, 15) -> index
            ofGuard(0, 0) -> index
            empty(0, true) -> index
            where(0, 0) -> index
            ofIntruder(0, 0) -> index
            force(0, 0, 0) -> index
            ofWire(0, 0) -> index
            """);
        Script.run("a new object: what is told of the whole night can be told and asked", """
            gates(0, 239) -> 0
            fog(0, 5) -> 1
            ofMinute(0, 0) -> 5
            ofMinute(0, 1) -> 0
            ofMinute(239, 2) -> 0
            ofMinute(239, 3) -> 0
            ofMinute(239, 4) -> 0
            ofMinute(239, 5) -> 0
            ofMinute(239, 6) -> 0
            nextLamp(239, 4, true) -> -1
            nextLamp(239, 4, false) -> -1
            key(0, -1) -> -1
            many(11) -> 0
            isSound() -> true
            """);
    }

    private static void sizesOfTheBase() {
        Script.run("WIDE is 3 to 8", """
            base(2, 5, 100) -> argument
            many(0) -> 0
            base(3, 5, 100) -> 15
            many(0) -> 15
            base(8, 5, 100) -> 40
            many(0) -> 40
            base(9, 5, 100) -> argument
            base(0, 5, 100) -> argument
            base(-3, 5, 100) -> argument
            base(-2147483648, 5, 100) -> argument
            base(2147483647, 5, 100) -> argument
            many(0) -> 40
            """);
        Script.run("HIGH is 3 to 8", """
            base(5, 2, 100) -> argument
            many(0) -> 0
            base(5, 3, 100) -> 15
            drawn(2, 0) -> .....
            drawn(3, 0) -> index
            base(5, 8, 100) -> 40
            drawn(7, 0) -> .....
            drawn(8, 0) -> index
            base(5, 9, 100) -> argument
            base(5, 0, 100) -> argument
            base(5, -8, 100) -> argument
            base(5, -2147483648, 100) -> argument
            base(5, 2147483647, 100) -> argument
            many(0) -> 40
            """);
        Script.run("the seed of the BASE is 0 to 100", """
            base(3, 3, -1) -> argument
            many(0) -> 0
            base(3, 3, 0) -> 7
            base(3, 3, 99) -> 6
            base(3, 3, 100) -> 9
            base(3, 3, 101) -> argument
            base(3, 3, -2147483648) -> argument
            base(3, 3, 2147483647) -> argument
            drawn(0, 0) -> ...
            """);
        Script.run("CELLS are numbered row by row from 0 on: the least BASE", """
            base(3, 3, 100) -> 9
            ofCell(0, 0, 0) -> 0
            ofCell(8, 0, 0) -> 0
            ofCell(-1, 0, 0) -> index
            ofCell(9, 0, 0) -> index
            lay(2, 2) -> 0
            lay(3, 1) -> 0
            lay(8, 3) -> 0
            drawn(0, 0) -> ..%
            drawn(1, 0) -> #..
            drawn(2, 0) -> ..+
            """);
        Script.run("CELLS are numbered row by row from 0 on: the greatest BASE", """
            base(8, 8, 100) -> 64
            ofCell(63, 0, 0) -> 0
            ofCell(64, 0, 0) -> index
            lay(0, 1) -> 0
            lay(31, 3) -> 0
            lay(32, 3) -> 0
            lay(63, 2) -> 0
            ofMinute(0, 1) -> 63
            drawn(0, 0) -> #.......
            drawn(3, 0) -> .......+
            drawn(4, 0) -> +.......
            drawn(7, 0) -> .......%
            """);
    }

    private static void rowOfTheSeed() {
        // 23 * 96 + 15 = 2223 = 22 * 97 + 89; 97, 98 and 99 go on as 0, 1 and 2 do.
        Script.run("the ROW wraps around modulo 97", """
            words(0) -> 15
            words(97) -> 15
            leak(0) -> 38
            words(1) -> 38
            words(98) -> 38
            words(2) -> 61
            words(99) -> 61
            words(96) -> 89
            base(3, 3, 97) -> 7
            drawn(0, 0) -> ..#
            drawn(1, 0) -> #..
            drawn(2, 0) -> %.+
            """);
        // Behind a 0 the ROW goes on as that of the seed 0: 0, 15, 69 / 50, 1, 38 / 16, 92, 94.
        int nothing = seedWhoseFirstIs(0);
        int greatest = seedWhoseFirstIs(96);
        Script.run("a number of the ROW may be 0, and 96", "words(" + nothing + ") -> 0\n"
            + "words(" + greatest + ") -> 96\n"
            + "base(3, 3, " + nothing + ") -> 6\n"
            + "drawn(0, 0) -> #..\n"
            + "ofCell(0, 0, 0) -> 1\n");
    }

    private static int seedWhoseFirstIs(int number) {
        int seed = 0;
        while ((23 * seed + 15) % 97 != number) {
            seed++;
        }
        return seed;
    }

    private static void kindsOfTheRow() {
        // 15, 69, 50 / 1, 38, 16 / 92, 94, 43 / 34, 21, 13; the last digit 7 stands in everyBase.
        Script.run("0 and 1 a WALL, 2 a HEDGE, 3 a GATE, otherwise GROUND", """
            base(3, 4, 0) -> 9
            // 5, 9, 0
            ofCell(0, 0, 0) -> 0
            ofCell(1, 0, 0) -> 0
            ofCell(2, 0, 0) -> 1
            // 1, 8, 6
            ofCell(3, 0, 0) -> 1
            ofCell(4, 0, 0) -> 0
            ofCell(5, 0, 0) -> 0
            // 2, 4, 3
            ofCell(6, 0, 0) -> 2
            ofCell(7, 0, 0) -> 0
            ofCell(8, 0, 0) -> 3
            // 4, 1, 3
            ofCell(9, 0, 0) -> 0
            ofCell(10, 0, 0) -> 1
            ofCell(11, 0, 0) -> 3
            """);
        Script.run("by 100 all is GROUND", """
            base(8, 8, 100) -> 64
            gates(0, 0) -> 0
            drawn(0, 0) -> ........
            drawn(7, 0) -> ........
            """);
    }

    /** All sizes and seeds, with what they return and their rows as the document tells them. */
    private static void everyBase() {
        for (int wide = 3; wide <= 8; wide++) {
            for (int high = 3; high <= 8; high++) {
                for (int seed = 0; seed <= 100; seed++) {
                    StringBuilder rows = new StringBuilder();
                    int number = seed;
                    int open = 0;
                    for (int row = 0; row < high; row++) {
                        rows.append("drawn(").append(row).append(", 0) -> ");
                        for (int column = 0; column < wide; column++) {
                            number = (23 * number + 15) % 97;
                            char sign = seed == 100 ? '.' : "##%+......".charAt(number % 10);
                            open += sign == '#' ? 0 : 1;
                            rows.append(sign);
                        }
                        rows.append('\n');
                    }
                    String call = "base(" + wide + ", " + high + ", " + seed + ") -> " + open + "\n";
                    Script.run("every BASE, " + wide + " by " + high + " by " + seed, call + rows);
                }
            }
        }
    }

    private static void baseAnew() {
        Script.run("all else is gone: the BASE is full of all, then laid anew, and all can be told again", """
            base(3, 3, 100) -> 9
            lamp(0, 1) -> 0
            lamp(0, 1) -> 1
            lamp(0, 1) -> 2
            lamp(0, 1) -> 3
            lamp(0, 1) -> 4
            lamp(0, 1) -> 5
            fog(0, 5) -> 1
            fog(0, 5) -> 2
            fog(0, 5) -> 3
            fog(0, 5) -> 4
            fog(0, 5) -> 5
            fog(0, 5) -> 6
            fog(0, 5) -> 7
            fog(0, 5) -> 8
            guard(0, 0, 239, 1) -> 0
            guard(0, 0, 239, 1) -> 1
            guard(0, 0, 239, 1) -> 2
            guard(0, 0, 239, 1) -> 3
            guard(0, 0, 239, 1) -> 4
            guard(0, 0, 239, 1) -> 5
            round(5, 1) -> 2
            round(5, 2) -> 3
            round(5, 3) -> 4
            round(5, 4) -> 5
            round(5, 5) -> 6
            post(0) -> 0
            post(1) -> 1
            post(2) -> 2
            post(3) -> 3
            intruder(8, 0, 0) -> 0
            intruder(8, 0, 0) -> 1
            intruder(8, 0, 0) -> 2
            intruder(8, 0, 0) -> 3
            wire(8, 1) -> 0
            wire(8, 1) -> 1
            wire(8, 1) -> 2
            wire(8, 1) -> 3
            wire(8, 1) -> 4
            key(0, 5) -> -1
            key(5, 5) -> -1
            base(3, 3, 100) -> 9
            lamp(0, 1) -> 0
            many(1) -> 1
            fog(0, 5) -> 1
            guard(8, 0, 239, 1) -> 0
            round(0, 7) -> 2
            post(0) -> 0
            intruder(8, 0, 0) -> 0
            wire(8, 1) -> 0
            key(0, -1) -> -1
            key(5, -1) -> -1
            round(5, 0) -> index
            """);
        Script.run("the seed of WORDS, and how many were REFUSED, stand", """
            words(17) -> 18
            knock() -> 1
            knock() -> 2
            base(3, 3, 100) -> 9
            many(12) -> 2
            guard(0, 0, 239, 1) -> 0
            answer(0, 0, 18) -> 0
            base(8, 8, 100) -> 64
            many(12) -> 2
            guard(0, 0, 239, 1) -> 0
            answer(0, 0, 18) -> 0
            knock() -> 3
            """);
        Script.run("STRIKES, answers, OLD ones and leaks are gone with the BASE", """
            base(3, 3, 100) -> 9
            guard(0, 0, 239, 1) -> 0
            answer(0, 60, 69) -> 0
            leak(0) -> 38
            leak(0) -> 16
            leak(0) -> 92
            leak(0) -> 94
            leak(0) -> 43
            leak(0) -> 34
            leak(0) -> 21
            leak(0) -> 13
            leak(0) -> state
            answer(0, 60, 15) -> 2
            answer(0, 60, 69) -> 1
            answer(0, 60, 5) -> 3
            answer(0, 60, 69) -> 4
            base(3, 3, 100) -> 9
            many(9) -> 0
            many(10) -> 0
            leak(0) -> 38
            guard(0, 0, 239, 1) -> 0
            ofGuard(0, 4) -> 0
            ofGuard(0, 5) -> 0
            ofGuard(0, 7) -> 0
            answer(0, 60, 69) -> 0
            // of the leaks ahead only the one that was told anew
            answer(0, 60, 16) -> 3
            answer(0, 60, 15) -> 2
            """);
        Script.run("a refused BASE leaves the one ahead, with all that is on it", """
            base(4, 4, 100) -> 16
            lamp(15, 2) -> 0
            guard(15, 0, 239, 1) -> 0
            base(4, 4, 101) -> argument
            many(0) -> 16
            many(1) -> 1
            place(0, 239) -> 15
            """);
    }

    private static void kinds() {
        Script.run("KINDS are 0 to 3", """
            base(3, 3, 100) -> 9
            lay(4, -1) -> argument
            lay(4, 0) -> 0
            lay(4, 1) -> 0
            lay(4, 2) -> 1
            lay(4, 3) -> 2
            lay(4, 3) -> 3
            lay(4, 4) -> argument
            lay(4, -2147483648) -> argument
            lay(4, 2147483647) -> argument
            lay(4, 0) -> 3
            ofCell(4, 0, 0) -> 0
            """);
        Script.run("there is no such CELL", """
            base(3, 4, 100) -> 12
            lay(0, 2) -> 0
            lay(11, 2) -> 0
            lay(-1, 2) -> index
            lay(12, 2) -> index
            lay(63, 2) -> index
            lay(64, 2) -> index
            lay(-2147483648, 2) -> index
            lay(2147483647, 2) -> index
            drawn(0, 0) -> %..
            drawn(3, 0) -> ..%
            """);
        Script.run("all CELLS may be WALLS", """
            base(3, 3, 100) -> 9
            lay(0, 1) -> 0
            lay(1, 1) -> 0
            lay(2, 1) -> 0
            lay(3, 1) -> 0
            lay(4, 1) -> 0
            lay(5, 1) -> 0
            lay(6, 1) -> 0
            lay(7, 1) -> 0
            lay(8, 1) -> 0
            ofMinute(0, 1) -> 0
            drawn(1, 0) -> ###
            guard(4, 0, 0, 1) -> state
            lamp(4, 1) -> state
            post(4) -> state
            intruder(4, 0, 0) -> state
            nextLamp(0, 4, true) -> -1
            nextLamp(0, 4, false) -> -1
            isSound() -> true
            lay(4, 1) -> 1
            """);
    }

    private static void noWallWhereSomethingIs() {
        Script.run("no WALL where a LAMP is, LIT or out; a HEDGE or a GATE may be", """
            base(3, 3, 100) -> 9
            lamp(4, 1) -> 0
            lay(4, 1) -> state
            light(0, false) -> 0
            lay(4, 1) -> state
            lay(4, 2) -> 0
            lay(4, 3) -> 2
            lay(4, 0) -> 3
            lay(5, 1) -> 0
            """);
        Script.run("no WALL where the last of 6 LAMPS, or of 4 POSTS is", """
            base(4, 4, 100) -> 16
            lamp(0, 1) -> 0
            lamp(1, 1) -> 1
            lamp(2, 1) -> 2
            lamp(3, 1) -> 3
            lamp(4, 1) -> 4
            lamp(5, 1) -> 5
            post(8) -> 0
            post(9) -> 1
            post(10) -> 2
            post(11) -> 3
            lay(0, 1) -> state
            lay(5, 1) -> state
            lay(8, 1) -> state
            lay(11, 1) -> state
            lay(7, 1) -> 0
            """);
        Script.run("no WALL on a ROUND: its first and its sixth CELL, of the first and the sixth GUARD", """
            base(4, 4, 100) -> 16
            guard(0, 0, 0, 20) -> 0
            round(0, 1) -> 2
            round(0, 2) -> 3
            round(0, 3) -> 4
            round(0, 4) -> 5
            round(0, 5) -> 6
            guard(15, 239, 239, 20) -> 1
            guard(15, 239, 239, 20) -> 2
            guard(15, 239, 239, 20) -> 3
            guard(15, 239, 239, 20) -> 4
            guard(14, 239, 239, 20) -> 5
            lay(0, 1) -> state
            lay(5, 1) -> state
            lay(14, 1) -> state
            lay(15, 1) -> state
            lay(6, 1) -> 0
            """);
        Script.run("no WALL on the way of an INTRUDER: its first and its last CELL, and no other one", """
            base(4, 4, 100) -> 16
            // right, down: 0, 1, 5
            intruder(0, 10, 13) -> 0
            lay(0, 1) -> state
            lay(1, 1) -> state
            lay(5, 1) -> state
            lay(4, 1) -> 0
            lay(2, 1) -> 0
            // those MOVES that are not made do not matter: 15 alone
            intruder(15, 239, 24) -> 1
            lay(15, 1) -> state
            lay(14, 1) -> 0
            """);
        Script.run("a WIRE, and a GUARD who only SEES it, are no reason against a WALL", """
            base(3, 3, 100) -> 9
            wire(1, 1) -> 0
            guard(0, 0, 239, 1) -> 0
            lay(1, 1) -> 0
            ofWire(0, 0) -> 1
            """);
    }

    private static void gates() {
        Script.run("GATES are never OPEN at first", """
            base(3, 3, 100) -> 9
            lay(0, 3) -> 0
            ofCell(0, 0, 4) -> 0
            ofCell(0, 1, 4) -> 0
            ofCell(0, 120, 4) -> 0
            ofCell(0, 239, 4) -> 0
            """);
        Script.run("GATES are OPEN from one MINUTE to another one, both in it", """
            base(3, 3, 100) -> 9
            lay(0, 3) -> 0
            gates(100, 102) -> 1
            ofCell(0, 99, 4) -> 0
            ofCell(0, 100, 4) -> 1
            ofCell(0, 101, 4) -> 1
            ofCell(0, 102, 4) -> 1
            ofCell(0, 103, 4) -> 0
            """);
        Script.run("from and to may be one MINUTE", """
            base(3, 3, 100) -> 9
            lay(0, 3) -> 0
            gates(100, 100) -> 1
            ofCell(0, 99, 4) -> 0
            ofCell(0, 100, 4) -> 1
            ofCell(0, 101, 4) -> 0
            """);
        Script.run("with less than from they are never OPEN", """
            base(3, 3, 100) -> 9
            lay(0, 3) -> 0
            gates(0, 239) -> 1
            ofCell(0, 100, 4) -> 1
            gates(100, 99) -> 1
            ofCell(0, 98, 4) -> 0
            ofCell(0, 99, 4) -> 0
            ofCell(0, 100, 4) -> 0
            ofCell(0, 101, 4) -> 0
            gates(239, 0) -> 1
            ofCell(0, 0, 4) -> 0
            ofCell(0, 239, 4) -> 0
            """);
        Script.run("the MINUTES of GATES are 0 to 239", """
            base(3, 3, 100) -> 9
            lay(0, 3) -> 0
            gates(0, 239) -> 1
            ofCell(0, 0, 4) -> 1
            ofCell(0, 239, 4) -> 1
            gates(-1, 239) -> argument
            gates(240, 239) -> argument
            gates(0, -1) -> argument
            gates(0, 240) -> argument
            gates(-2147483648, 0) -> argument
            gates(0, 2147483647) -> argument
            ofCell(0, 0, 4) -> 1
            ofCell(0, 239, 4) -> 1
            """);
        Script.run("GATES are told for all of them, also for those that are laid later", """
            base(3, 3, 100) -> 9
            gates(5, 5) -> 0
            lay(0, 3) -> 0
            lay(8, 3) -> 0
            ofCell(0, 5, 4) -> 1
            ofCell(8, 5, 4) -> 1
            ofCell(8, 6, 4) -> 0
            gates(6, 6) -> 2
            ofCell(0, 5, 4) -> 0
            ofCell(8, 6, 4) -> 1
            """);
        Script.run("all CELLS may be GATES", """
            base(3, 3, 100) -> 9
            lay(0, 3) -> 0
            lay(1, 3) -> 0
            lay(2, 3) -> 0
            lay(3, 3) -> 0
            lay(4, 3) -> 0
            lay(5, 3) -> 0
            lay(6, 3) -> 0
            lay(7, 3) -> 0
            lay(8, 3) -> 0
            gates(0, 0) -> 9
            reach(4, 0, 0) -> 1
            reach(4, 0, 1) -> 0
            reach(4, 1, 0) -> 0
            """);
    }

    private static void lamps() {
        Script.run("LAMPS: at most 6, numbered from 0", """
            base(3, 3, 100) -> 9
            lamp(0, 1) -> 0
            lamp(8, 1) -> 1
            lamp(0, 1) -> 2
            lamp(8, 1) -> 3
            lamp(0, 1) -> 4
            light(5, true) -> index
            lamp(8, 1) -> 5
            // 0, 1, 3, 4 and 4, 5, 7, 8
            light(5, true) -> 7
            lamp(4, 1) -> state
            many(1) -> 6
            light(6, true) -> index
            // one that is out counts as well
            light(0, false) -> 7
            lamp(4, 1) -> state
            many(1) -> 6
            many(2) -> 5
            """);
        Script.run("a LAMP is on no WALL; on a HEDGE or a GATE it may be", """
            base(3, 3, 100) -> 9
            lay(0, 1) -> 0
            lay(1, 2) -> 0
            lay(2, 3) -> 0
            lamp(0, 1) -> state
            many(1) -> 0
            lamp(1, 1) -> 0
            lamp(2, 1) -> 1
            """);
        Script.run("a LAMP is on a CELL that there is", """
            base(3, 3, 100) -> 9
            lamp(-1, 1) -> index
            lamp(9, 1) -> index
            lamp(-2147483648, 1) -> index
            lamp(2147483647, 1) -> index
            lamp(0, 1) -> 0
            lamp(8, 1) -> 1
            """);
        Script.run("REACH is 1 to 4", """
            base(8, 3, 100) -> 24
            lamp(8, 0) -> argument
            lamp(8, -1) -> argument
            lamp(8, 5) -> argument
            lamp(8, -2147483648) -> argument
            lamp(8, 2147483647) -> argument
            many(1) -> 0
            lamp(8, 1) -> 0
            ofMinute(0, 5) -> 6
            lamp(8, 4) -> 1
            ofMinute(0, 5) -> 9
            """);
    }

    private static void reachOfLamps() {
        Script.run("BRIGHT no further APART than REACH: a row", """
            base(8, 3, 100) -> 24
            lamp(8, 4) -> 0
            ofCell(8, 0, 1) -> 1
            ofCell(12, 0, 1) -> 1
            ofCell(13, 0, 1) -> 0
            lamp(15, 1) -> 1
            ofCell(14, 0, 1) -> 1
            ofCell(13, 0, 1) -> 0
            """);
        Script.run("BRIGHT no further APART than REACH: a column", """
            base(3, 8, 100) -> 24
            lamp(1, 3) -> 0
            ofCell(10, 0, 1) -> 1
            ofCell(13, 0, 1) -> 0
            ofCell(22, 0, 1) -> 0
            """);
        Script.run("BRIGHT no further APART than REACH: a diagonal (the greater one of rows and columns)", """
            base(8, 8, 100) -> 64
            lamp(0, 2) -> 0
            ofCell(9, 0, 1) -> 1
            ofCell(18, 0, 1) -> 1
            ofCell(27, 0, 1) -> 0
            // 7, 14, 21, 28
            lamp(7, 2) -> 1
            ofCell(14, 0, 1) -> 1
            ofCell(21, 0, 1) -> 1
            ofCell(28, 0, 1) -> 0
            // not IN LINE: one row and two columns
            ofCell(10, 0, 1) -> 0
            ofCell(17, 0, 1) -> 0
            """);
        Script.run("no line goes on at the other end of the BASE", """
            base(8, 8, 100) -> 64
            lamp(31, 4) -> 0
            // 31 is the end of a row, 32 the first one of the next
            ofCell(32, 0, 1) -> 0
            ofCell(33, 0, 1) -> 0
            ofCell(40, 0, 1) -> 0
            ofCell(24, 0, 1) -> 0
            ofCell(30, 0, 1) -> 1
            ofCell(39, 0, 1) -> 1
            ofCell(23, 0, 1) -> 1
            ofCell(63, 0, 1) -> 1
            lamp(0, 4) -> 1
            ofCell(62, 0, 1) -> 0
            ofCell(56, 0, 1) -> 0
            """);
    }

    private static void viewOfLamps() {
        Script.run("a VIEW is clear if nothing is between: of two that are side by side always", """
            base(5, 3, 100) -> 15
            lamp(5, 4) -> 0
            lay(6, 1) -> 0
            ofCell(6, 0, 1) -> 1
            ofCell(7, 0, 1) -> 0
            lay(6, 2) -> 1
            ofCell(6, 0, 1) -> 1
            ofCell(7, 0, 1) -> 0
            lay(6, 3) -> 2
            ofCell(7, 0, 1) -> 1
            ofCell(9, 0, 1) -> 1
            """);
        Script.run("what stands just ahead of the last one hides it, the last one itself does not", """
            base(5, 3, 100) -> 15
            lamp(5, 4) -> 0
            lay(9, 1) -> 0
            ofCell(9, 0, 1) -> 1
            lay(8, 2) -> 0
            ofCell(8, 0, 1) -> 1
            ofCell(9, 0, 1) -> 0
            """);
        Script.run("a LAMP on a HEDGE is not hidden by it", """
            base(5, 3, 100) -> 15
            lay(5, 2) -> 0
            lamp(5, 4) -> 0
            ofCell(5, 0, 1) -> 1
            ofCell(9, 0, 1) -> 1
            """);
        Script.run("a diagonal is hidden by what is on it alone", """
            base(5, 5, 100) -> 25
            lamp(0, 4) -> 0
            lay(1, 1) -> 0
            lay(5, 1) -> 0
            ofCell(6, 0, 1) -> 1
            ofCell(24, 0, 1) -> 1
            lay(18, 1) -> 0
            ofCell(18, 0, 1) -> 1
            ofCell(24, 0, 1) -> 0
            """);
    }

    private static void light() {
        Script.run("a LAMP goes out, or is LIT: told twice it is so still", """
            base(3, 3, 100) -> 9
            lamp(4, 1) -> 0
            many(2) -> 1
            light(0, true) -> 9
            light(0, false) -> 0
            light(0, false) -> 0
            many(2) -> 0
            light(0, true) -> 9
            light(0, true) -> 9
            many(2) -> 1
            """);
        Script.run("there is no such LAMP", """
            base(3, 3, 100) -> 9
            light(0, true) -> index
            lamp(4, 1) -> 0
            light(0, true) -> 9
            light(-1, true) -> index
            light(1, false) -> index
            light(-2147483648, false) -> index
            light(2147483647, false) -> index
            many(2) -> 1
            """);
        Script.run("all CELLS may be BRIGHT, WALLS too", """
            base(3, 3, 100) -> 9
            lamp(4, 1) -> 0
            lay(0, 1) -> 0
            lay(8, 1) -> 0
            light(0, true) -> 9
            ofMinute(239, 5) -> 9
            """);
        Script.run("a CELL that is BRIGHT by two LAMPS is so once, and still by the other one", """
            base(3, 3, 100) -> 9
            lamp(4, 1) -> 0
            lamp(4, 1) -> 1
            light(1, true) -> 9
            light(1, false) -> 9
            light(0, false) -> 0
            """);
    }

    private static void fog() {
        Script.run("FOG is 0 to 5", """
            fog(0, -1) -> argument
            fog(0, 6) -> argument
            fog(0, -2147483648) -> argument
            fog(0, 2147483647) -> argument
            ofMinute(0, 0) -> 0
            fog(0, 5) -> 1
            ofMinute(0, 0) -> 5
            fog(0, 0) -> 2
            ofMinute(0, 0) -> 0
            """);
        Script.run("the MINUTES of FOG are 0 to 239", """
            fog(-1, 1) -> argument
            fog(240, 1) -> argument
            fog(-2147483648, 1) -> argument
            fog(2147483647, 1) -> argument
            fog(239, 1) -> 1
            ofMinute(238, 0) -> 0
            ofMinute(239, 0) -> 1
            fog(0, 2) -> 2
            ofMinute(0, 0) -> 2
            ofMinute(238, 0) -> 2
            ofMinute(239, 0) -> 1
            """);
        Script.run("FOG is told from a MINUTE on: that MINUTE, and not the one ahead", """
            fog(100, 3) -> 1
            ofMinute(99, 0) -> 0
            ofMinute(100, 0) -> 3
            ofMinute(101, 0) -> 3
            ofMinute(239, 0) -> 3
            """);
        Script.run("FOG is 0 without a report", """
            ofMinute(0, 0) -> 0
            ofMinute(239, 0) -> 0
            """);
    }

    private static void fogReports() {
        Script.run("at most 8 reports", """
            fog(0, 1) -> 1
            fog(0, 1) -> 2
            fog(0, 1) -> 3
            fog(0, 1) -> 4
            fog(0, 1) -> 5
            fog(0, 1) -> 6
            fog(0, 1) -> 7
            fog(0, 2) -> 8
            ofMinute(0, 0) -> 2
            fog(0, 3) -> state
            fog(239, 3) -> state
            ofMinute(0, 0) -> 2
            ofMinute(239, 0) -> 2
            """);
        Script.run("that with the greatest MINUTE that is not later holds, whenever it was told", """
            fog(100, 1) -> 1
            fog(50, 2) -> 2
            fog(150, 3) -> 3
            fog(99, 4) -> 4
            ofMinute(49, 0) -> 0
            ofMinute(50, 0) -> 2
            ofMinute(98, 0) -> 2
            ofMinute(99, 0) -> 4
            ofMinute(100, 0) -> 1
            ofMinute(149, 0) -> 1
            ofMinute(150, 0) -> 3
            """);
        Script.run("of several for one MINUTE that which was told last, the eighth one too", """
            fog(10, 1) -> 1
            fog(10, 2) -> 2
            fog(20, 5) -> 3
            fog(10, 3) -> 4
            ofMinute(10, 0) -> 3
            ofMinute(19, 0) -> 3
            ofMinute(20, 0) -> 5
            fog(10, 0) -> 5
            ofMinute(19, 0) -> 0
            fog(20, 4) -> 6
            fog(20, 1) -> 7
            fog(20, 2) -> 8
            ofMinute(20, 0) -> 2
            ofMinute(19, 0) -> 0
            """);
    }
}
