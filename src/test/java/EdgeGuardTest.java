/**
 * Each sentence of the document on GUARDS and POSTS (section 2, promises 8 to 16) that names a limit: a run of calls
 * of its own, with the least and the greatest number that is let and those just outside of them.
 */
public final class EdgeGuardTest {
    private EdgeGuardTest() {
    }

    public static void main(String[] args) {
        guards();
        duty();
        stays();
        rounds();
        tired();
        rangeInTheDark();
        rangeInTheLight();
        ownCell();
        views();
        posts();
        emptyPosts();
        place();
        sees();
        ofCell();
        ofMinute();
        keysOffDuty();
        lapse();
        Script.end();
    }

    private static void guards() {
        Script.run("GUARDS: at most 6, numbered from 0", """
            base(3, 3, 100) -> 9
            place(0, 0) -> index
            guard(0, 0, 0, 1) -> 0
            guard(0, 0, 0, 1) -> 1
            guard(0, 0, 0, 1) -> 2
            guard(0, 0, 0, 1) -> 3
            guard(0, 0, 0, 1) -> 4
            place(5, 0) -> index
            guard(8, 239, 239, 1) -> 5
            place(5, 239) -> 8
            guard(0, 0, 0, 1) -> state
            many(3) -> 6
            place(6, 0) -> index
            ofCell(0, 0, 3) -> 31
            ofCell(8, 239, 3) -> 32
            ofCell(8, 239, 2) -> 32
            """);
        Script.run("all 6 GUARDS on one CELL: the set of them is 63", """
            base(3, 3, 100) -> 9
            guard(4, 0, 0, 1) -> 0
            guard(4, 0, 0, 1) -> 1
            guard(4, 0, 0, 1) -> 2
            guard(4, 0, 0, 1) -> 3
            guard(4, 0, 0, 1) -> 4
            guard(4, 0, 0, 1) -> 5
            ofCell(4, 0, 3) -> 63
            ofCell(0, 0, 2) -> 63
            ofCell(4, 1, 3) -> 0
            ofCell(0, 1, 2) -> 0
            drawn(1, 0) -> :0:
            """);
        Script.run("the CELL of a GUARD is one that there is, and no WALL; a HEDGE or a GATE may be", """
            base(3, 3, 100) -> 9
            lay(0, 1) -> 0
            lay(1, 2) -> 0
            lay(8, 3) -> 0
            guard(-1, 0, 0, 1) -> index
            guard(9, 0, 0, 1) -> index
            guard(-2147483648, 0, 0, 1) -> index
            guard(2147483647, 0, 0, 1) -> index
            guard(0, 0, 0, 1) -> state
            many(3) -> 0
            guard(1, 0, 0, 1) -> 0
            guard(8, 0, 0, 1) -> 1
            """);
    }

    private static void duty() {
        Script.run("the first MINUTE of DUTY is 0 to 239", """
            base(3, 3, 100) -> 9
            guard(0, -1, 239, 1) -> argument
            guard(0, 240, 239, 1) -> argument
            guard(0, 240, 240, 1) -> argument
            guard(0, -2147483648, 239, 1) -> argument
            many(3) -> 0
            guard(0, 0, 239, 1) -> 0
            guard(0, 239, 239, 1) -> 1
            place(0, 0) -> 0
            place(1, 238) -> -1
            place(1, 239) -> 0
            """);
        Script.run("the last MINUTE of DUTY is 0 to 239", """
            base(3, 3, 100) -> 9
            guard(0, 0, 240, 1) -> argument
            guard(0, 0, -1, 1) -> argument
            guard(0, 0, 2147483647, 1) -> argument
            many(3) -> 0
            guard(0, 0, 0, 1) -> 0
            guard(0, 0, 239, 1) -> 1
            place(0, 0) -> 0
            place(0, 1) -> -1
            place(1, 239) -> 0
            """);
        Script.run("the last one may be the first one, and is not less", """
            base(3, 3, 100) -> 9
            guard(0, 100, 99, 1) -> argument
            guard(0, 239, 0, 1) -> argument
            many(3) -> 0
            guard(0, 100, 100, 1) -> 0
            place(0, 99) -> -1
            place(0, 100) -> 0
            place(0, 101) -> -1
            """);
        Script.run("DUTY from a MINUTE to another one, both in it; otherwise it is nowhere", """
            base(3, 3, 100) -> 9
            guard(4, 60, 120, 20) -> 0
            place(0, 59) -> -1
            place(0, 60) -> 4
            place(0, 120) -> 4
            place(0, 121) -> -1
            sees(0, 4, 59) -> false
            sees(0, 4, 60) -> true
            sees(0, 4, 120) -> true
            sees(0, 4, 121) -> false
            ofMinute(59, 2) -> 0
            ofMinute(60, 2) -> 1
            ofMinute(120, 2) -> 1
            ofMinute(121, 2) -> 0
            drawn(1, 59) -> ...
            drawn(1, 60) -> :0:
            drawn(1, 120) -> :0:
            drawn(1, 121) -> ...
            """);
    }

    private static void stays() {
        Script.run("STAY is 1 to 20", """
            base(3, 3, 100) -> 9
            guard(0, 0, 239, 0) -> argument
            guard(0, 0, 239, -1) -> argument
            guard(0, 0, 239, 21) -> argument
            guard(0, 0, 239, -2147483648) -> argument
            guard(0, 0, 239, 2147483647) -> argument
            many(3) -> 0
            guard(0, 0, 239, 1) -> 0
            guard(0, 0, 239, 20) -> 1
            ofGuard(0, 2) -> 1
            ofGuard(1, 2) -> 20
            """);
        Script.run("the least STAY: another CELL each MINUTE, and again from the first one on", """
            base(3, 3, 100) -> 9
            guard(0, 10, 239, 1) -> 0
            round(0, 1) -> 2
            round(0, 2) -> 3
            place(0, 10) -> 0
            place(0, 11) -> 1
            place(0, 12) -> 2
            place(0, 13) -> 0
            // 229 = 76 * 3 + 1
            place(0, 239) -> 1
            """);
        Script.run("the greatest STAY, counted from the first MINUTE of DUTY", """
            base(3, 3, 100) -> 9
            guard(0, 10, 239, 20) -> 0
            round(0, 8) -> 2
            place(0, 29) -> 0
            place(0, 30) -> 8
            place(0, 49) -> 8
            place(0, 50) -> 0
            place(0, 209) -> 8
            place(0, 210) -> 0
            place(0, 229) -> 0
            place(0, 230) -> 8
            """);
        Script.run("a DUTY shorter than its STAY, or than its ROUND", """
            base(3, 3, 100) -> 9
            guard(0, 0, 2, 5) -> 0
            round(0, 1) -> 2
            place(0, 2) -> 0
            place(0, 3) -> -1
            guard(0, 237, 239, 2) -> 1
            round(1, 1) -> 2
            round(1, 2) -> 3
            place(1, 238) -> 0
            place(1, 239) -> 1
            """);
    }

    private static void rounds() {
        Script.run("a ROUND has 1 to 6 CELLS", """
            base(3, 3, 100) -> 9
            guard(0, 0, 239, 1) -> 0
            ofGuard(0, 3) -> 1
            place(0, 1) -> 0
            place(0, 239) -> 0
            round(0, 1) -> 2
            round(0, 2) -> 3
            round(0, 3) -> 4
            round(0, 4) -> 5
            round(0, 5) -> 6
            round(0, 6) -> state
            ofGuard(0, 3) -> 6
            place(0, 5) -> 5
            place(0, 6) -> 0
            place(0, 11) -> 5
            place(0, 12) -> 0
            """);
        Script.run("the ROUND of the last GUARD is full, that of the first one is not", """
            base(3, 3, 100) -> 9
            guard(0, 0, 239, 1) -> 0
            guard(0, 0, 239, 1) -> 1
            guard(0, 0, 239, 1) -> 2
            guard(0, 0, 239, 1) -> 3
            guard(0, 0, 239, 1) -> 4
            guard(0, 0, 239, 1) -> 5
            round(5, 4) -> 2
            round(5, 5) -> 3
            round(5, 6) -> 4
            round(5, 7) -> 5
            round(5, 8) -> 6
            round(5, 8) -> state
            round(6, 8) -> index
            place(5, 5) -> 8
            place(4, 5) -> 0
            ofGuard(4, 3) -> 1
            round(0, 8) -> 2
            """);
        Script.run("one that is in it twice counts twice, also next to itself", """
            base(3, 3, 100) -> 9
            guard(0, 0, 239, 2) -> 0
            round(0, 0) -> 2
            round(0, 1) -> 3
            round(0, 0) -> 4
            ofGuard(0, 3) -> 4
            place(0, 3) -> 0
            place(0, 4) -> 1
            place(0, 5) -> 1
            place(0, 6) -> 0
            place(0, 11) -> 0
            place(0, 12) -> 1
            """);
        Script.run("a CELL of a ROUND is no WALL; a HEDGE or a GATE, and one far off, may be", """
            base(8, 8, 100) -> 64
            guard(0, 0, 239, 1) -> 0
            lay(1, 1) -> 0
            lay(2, 2) -> 0
            lay(63, 3) -> 0
            round(0, 1) -> state
            round(0, -1) -> index
            round(0, 64) -> index
            round(0, 2147483647) -> index
            ofGuard(0, 3) -> 1
            round(0, 2) -> 2
            round(0, 63) -> 3
            place(0, 2) -> 63
            """);
        Script.run("there is no such GUARD, for a ROUND", """
            base(3, 3, 100) -> 9
            round(0, 0) -> index
            guard(0, 0, 239, 1) -> 0
            round(-1, 0) -> index
            round(1, 0) -> index
            round(-2147483648, 0) -> index
            round(2147483647, 0) -> index
            round(0, 0) -> 2
            """);
    }

    private static void tired() {
        Script.run("TIRED from the 90th MINUTE behind the first one of its DUTY on", """
            base(3, 3, 100) -> 9
            guard(4, 30, 239, 1) -> 0
            ofMinute(30, 3) -> 0
            ofMinute(119, 3) -> 0
            ofMinute(120, 3) -> 1
            ofMinute(121, 3) -> 1
            ofMinute(239, 3) -> 1
            """);
        Script.run("TIRED is one on DUTY alone", """
            base(3, 3, 100) -> 9
            guard(4, 30, 119, 1) -> 0
            ofMinute(119, 3) -> 0
            ofMinute(120, 3) -> 0
            ofGuard(0, 8) -> 0
            guard(4, 30, 120, 1) -> 1
            ofMinute(120, 3) -> 1
            ofMinute(121, 3) -> 0
            ofGuard(1, 8) -> 1
            """);
        Script.run("at how many MINUTES of its DUTY it is TIRED: the most are 150", """
            base(3, 3, 100) -> 9
            guard(4, 0, 239, 1) -> 0
            ofGuard(0, 8) -> 150
            guard(4, 150, 239, 1) -> 1
            ofGuard(1, 8) -> 0
            guard(4, 149, 239, 1) -> 2
            ofGuard(2, 8) -> 1
            guard(4, 239, 239, 1) -> 3
            ofGuard(3, 8) -> 0
            guard(4, 0, 0, 1) -> 4
            ofGuard(4, 8) -> 0
            """);
    }

    private static void rangeInTheDark() {
        // 2 less FOG / 2, rounded down: 2, 2, 1, 1, 0, 0; TIRED 1, 1, 0, 0, 0, 0.
        String[] fresh = {"true true false", "true true false", "true false false", "true false false",
            "false false false", "false false false"};
        String[] tired = {"true false false", "true false false", "false false false", "false false false",
            "false false false", "false false false"};
        for (int fog = 0; fog <= 5; fog++) {
            String night = "base(8, 3, 100) -> 24\nguard(8, 0, 239, 1) -> 0\nfog(0, " + fog + ") -> 1\n";
            Script.run("2 less FOG / 2, FOG " + fog, night + sights(fresh[fog], 89, 9));
            Script.run("2 less FOG / 2, and 1 less TIRED (0 at least), FOG " + fog, night + sights(tired[fog], 90, 9));
        }
    }

    private static void rangeInTheLight() {
        // 7 less FOG: 7, 6, 5, 4, 3, 2; TIRED one less. The CELLS 13 to 15 are 5, 6 and 7 APART from 8.
        String[] fresh = {"true true true true true true true", "true true true true true true false",
            "true true true true true false false", "true true true true false false false",
            "true true true false false false false", "true true false false false false false"};
        String all = "true false false false false false false";
        for (int fog = 0; fog <= 5; fog++) {
            String night = "base(8, 3, 100) -> 24\nguard(8, 0, 239, 1) -> 0\nfog(0, " + fog + ") -> 1\n"
                + "lamp(9, 4) -> 0\nlamp(15, 4) -> 1\n";
            Script.run("7 less FOG, FOG " + fog, night + sights(fresh[fog], 89, 9));
            Script.run("7 less FOG, and 1 less TIRED, FOG " + fog,
                night + sights(fog == 5 ? all : fresh[fog + 1], 90, 9));
        }
        Script.run("RANGE is that to the CELL: what is BRIGHT is seen over what is dark", """
            base(8, 3, 100) -> 24
            guard(8, 0, 239, 1) -> 0
            lamp(15, 1) -> 0
            sees(0, 10, 0) -> true
            sees(0, 11, 0) -> false
            sees(0, 13, 0) -> false
            sees(0, 14, 0) -> true
            sees(0, 15, 0) -> true
            """);
    }

    /** Rows of sees() of the GUARD 0, one for each truth, CELL by CELL. */
    private static String sights(String truths, int minute, int cell) {
        StringBuilder rows = new StringBuilder();
        int next = cell;
        for (String truth : truths.split(" ")) {
            rows.append("sees(0, ").append(next).append(", ").append(minute).append(") -> ").append(truth).append('\n');
            next++;
        }
        return rows.toString();
    }

    private static void ownCell() {
        Script.run("it SEES the CELL that it is on, with a RANGE of 0 too", """
            base(3, 3, 100) -> 9
            guard(4, 0, 239, 1) -> 0
            fog(0, 5) -> 1
            sees(0, 4, 0) -> true
            sees(0, 4, 239) -> true
            sees(0, 1, 0) -> false
            sees(0, 0, 239) -> false
            ofMinute(239, 1) -> 8
            """);
        Script.run("it SEES the CELL that it is on, a HEDGE too, and out of it", """
            base(5, 3, 100) -> 15
            lay(5, 2) -> 0
            guard(5, 0, 239, 1) -> 0
            sees(0, 5, 0) -> true
            sees(0, 6, 0) -> true
            sees(0, 7, 0) -> true
            """);
    }

    private static void views() {
        Script.run("IN LINE: no line of a knight's move, however near", """
            base(5, 5, 100) -> 25
            guard(12, 0, 239, 1) -> 0
            lamp(12, 4) -> 0
            sees(0, 1, 0) -> false
            sees(0, 3, 0) -> false
            sees(0, 5, 0) -> false
            sees(0, 9, 0) -> false
            sees(0, 0, 0) -> true
            sees(0, 2, 0) -> true
            sees(0, 10, 0) -> true
            sees(0, 24, 0) -> true
            """);
        Script.run("a VIEW over the whole of the greatest BASE is 7 APART", """
            base(8, 8, 100) -> 64
            guard(0, 0, 89, 1) -> 0
            lamp(63, 1) -> 0
            lamp(7, 1) -> 1
            lamp(56, 1) -> 2
            sees(0, 63, 0) -> true
            sees(0, 7, 0) -> true
            sees(0, 56, 0) -> true
            lay(54, 2) -> 0
            sees(0, 63, 0) -> false
            sees(0, 54, 0) -> true
            """);
        Script.run("no VIEW goes on at the other end of the BASE", """
            base(8, 8, 100) -> 64
            guard(23, 0, 239, 1) -> 0
            lamp(24, 4) -> 0
            lamp(25, 4) -> 1
            sees(0, 24, 0) -> false
            sees(0, 25, 0) -> false
            sees(0, 8, 0) -> false
            // the other end of its own row, 7 APART and BRIGHT
            sees(0, 16, 0) -> true
            sees(0, 32, 0) -> false
            sees(0, 22, 0) -> true
            guard(40, 0, 239, 1) -> 1
            sees(1, 39, 0) -> false
            sees(1, 47, 0) -> false
            sees(1, 41, 0) -> true
            """);
        Script.run("WALLS and HEDGES between hide, GATES and what is at the ends do not", """
            base(5, 3, 100) -> 15
            guard(5, 0, 239, 1) -> 0
            lay(7, 1) -> 0
            sees(0, 7, 0) -> true
            lay(7, 2) -> 1
            sees(0, 7, 0) -> true
            lay(6, 3) -> 0
            sees(0, 7, 0) -> true
            lay(6, 2) -> 3
            sees(0, 7, 0) -> false
            sees(0, 6, 0) -> true
            lay(6, 1) -> 2
            sees(0, 7, 0) -> false
            sees(0, 6, 0) -> true
            """);
        Script.run("a GUARD between hides nothing", """
            base(5, 3, 100) -> 15
            guard(5, 0, 239, 1) -> 0
            guard(6, 0, 239, 1) -> 1
            sees(0, 7, 0) -> true
            """);
    }

    private static void posts() {
        Script.run("POSTS: at most 4, numbered from 0", """
            base(3, 3, 100) -> 9
            empty(0, true) -> index
            post(0) -> 0
            post(0) -> 1
            post(8) -> 2
            empty(3, true) -> index
            post(8) -> 3
            empty(3, true) -> 0
            post(0) -> state
            many(4) -> 4
            empty(4, true) -> index
            ofMinute(0, 4) -> 4
            """);
        Script.run("the CELL of a POST is one that there is, and no WALL; a HEDGE or a GATE may be", """
            base(3, 3, 100) -> 9
            lay(0, 1) -> 0
            lay(1, 2) -> 0
            lay(8, 3) -> 0
            post(0) -> state
            post(-1) -> index
            post(9) -> index
            post(-2147483648) -> index
            post(2147483647) -> index
            many(4) -> 0
            post(1) -> 0
            post(8) -> 1
            """);
    }

    private static void emptyPosts() {
        Script.run("a POST without a GUARD is EMPTY all NIGHT: from the MINUTE 0, at 240 of them", """
            base(3, 3, 100) -> 9
            post(8) -> 0
            empty(0, true) -> 0
            empty(0, false) -> 240
            many(11) -> 240
            """);
        Script.run("a POST that is never EMPTY: NONE, at 0 of them", """
            base(3, 3, 100) -> 9
            post(8) -> 0
            guard(8, 0, 239, 20) -> 0
            empty(0, true) -> -1
            empty(0, false) -> 0
            many(11) -> 0
            """);
        Script.run("EMPTY at the last MINUTE alone", """
            base(3, 3, 100) -> 9
            post(8) -> 0
            guard(8, 0, 238, 20) -> 0
            empty(0, true) -> 239
            empty(0, false) -> 1
            many(11) -> 1
            ofMinute(238, 4) -> 0
            ofMinute(239, 4) -> 1
            """);
        Script.run("EMPTY at the first MINUTE alone", """
            base(3, 3, 100) -> 9
            post(8) -> 0
            guard(8, 1, 239, 20) -> 0
            empty(0, true) -> 0
            empty(0, false) -> 1
            """);
        Script.run("EMPTY, if no GUARD is on it: one who SEES it is not enough, one of several is", """
            base(3, 3, 100) -> 9
            post(4) -> 0
            guard(3, 0, 239, 20) -> 0
            empty(0, false) -> 240
            guard(4, 0, 100, 20) -> 1
            guard(4, 50, 200, 20) -> 2
            empty(0, true) -> 201
            empty(0, false) -> 39
            """);
        Script.run("there is no such POST", """
            base(3, 3, 100) -> 9
            empty(0, false) -> index
            post(4) -> 0
            empty(-1, true) -> index
            empty(1, false) -> index
            empty(-2147483648, true) -> index
            empty(2147483647, false) -> index
            empty(0, false) -> 240
            """);
    }

    private static void place() {
        Script.run("where a GUARD is: there is such a GUARD", """
            base(3, 3, 100) -> 9
            place(0, 0) -> index
            guard(8, 0, 239, 1) -> 0
            place(0, 0) -> 8
            place(-1, 0) -> index
            place(1, 0) -> index
            place(-2147483648, 0) -> index
            place(2147483647, 0) -> index
            """);
        Script.run("where a GUARD is: the MINUTE is 0 to 239", """
            base(3, 3, 100) -> 9
            guard(8, 0, 239, 1) -> 0
            place(0, 0) -> 8
            place(0, 239) -> 8
            place(0, -1) -> argument
            place(0, 240) -> argument
            place(0, -2147483648) -> argument
            place(0, 2147483647) -> argument
            """);
    }

    private static void sees() {
        Script.run("who SEES: NONE is any of them, other numbers below 0 are no GUARD", """
            base(3, 3, 100) -> 9
            sees(-1, 0, 0) -> false
            sees(0, 0, 0) -> index
            guard(0, 0, 239, 1) -> 0
            sees(-1, 0, 0) -> true
            sees(0, 0, 0) -> true
            sees(-2, 0, 0) -> index
            sees(1, 0, 0) -> index
            sees(-2147483648, 0, 0) -> index
            sees(2147483647, 0, 0) -> index
            """);
        Script.run("who SEES: there is such a CELL, also for NONE", """
            base(3, 3, 100) -> 9
            guard(0, 0, 239, 1) -> 0
            sees(0, 8, 0) -> true
            sees(0, -1, 0) -> index
            sees(0, 9, 0) -> index
            sees(-1, -1, 0) -> index
            sees(-1, 9, 0) -> index
            sees(-1, 2147483647, 0) -> index
            """);
        Script.run("who SEES: the MINUTE is 0 to 239", """
            base(3, 3, 100) -> 9
            guard(0, 0, 239, 1) -> 0
            sees(0, 0, 0) -> true
            sees(-1, 0, 239) -> true
            sees(0, 0, -1) -> argument
            sees(0, 0, 240) -> argument
            sees(-1, 0, 2147483647) -> argument
            """);
        Script.run("WATCHED, if one of several SEES it, the first or the last one", """
            base(8, 3, 100) -> 24
            guard(0, 0, 239, 1) -> 0
            guard(7, 0, 239, 1) -> 1
            sees(-1, 2, 0) -> true
            sees(-1, 5, 0) -> true
            sees(-1, 3, 0) -> false
            sees(-1, 4, 0) -> false
            """);
    }

    private static void ofCell() {
        Script.run("what of a CELL is 0 to 4", """
            base(3, 3, 100) -> 9
            ofCell(0, 0, -1) -> argument
            ofCell(0, 0, 0) -> 0
            ofCell(0, 0, 1) -> 0
            ofCell(0, 0, 2) -> 0
            ofCell(0, 0, 3) -> 0
            ofCell(0, 0, 4) -> 1
            ofCell(0, 0, 5) -> argument
            ofCell(0, 0, -2147483648) -> argument
            ofCell(0, 0, 2147483647) -> argument
            """);
        Script.run("of a CELL: the MINUTE is 0 to 239, also where it does not matter", """
            base(3, 3, 100) -> 9
            ofCell(8, 0, 0) -> 0
            ofCell(8, 239, 0) -> 0
            ofCell(8, -1, 0) -> argument
            ofCell(8, 240, 0) -> argument
            ofCell(8, 240, 1) -> argument
            ofCell(8, -2147483648, 4) -> argument
            ofCell(8, 2147483647, 4) -> argument
            """);
        Script.run("of a CELL: there is such a CELL", """
            base(3, 3, 100) -> 9
            ofCell(-1, 0, 0) -> index
            ofCell(9, 0, 0) -> index
            ofCell(-2147483648, 0, 4) -> index
            ofCell(2147483647, 0, 4) -> index
            """);
        Script.run("one can walk on what is no WALL, on a HEDGE, on a GATE if it is OPEN", """
            base(3, 3, 100) -> 9
            lay(0, 1) -> 0
            lay(1, 2) -> 0
            lay(2, 3) -> 0
            gates(7, 7) -> 1
            ofCell(0, 7, 4) -> 0
            ofCell(1, 6, 4) -> 1
            ofCell(2, 6, 4) -> 0
            ofCell(2, 7, 4) -> 1
            ofCell(2, 8, 4) -> 0
            ofCell(3, 6, 4) -> 1
            """);
    }

    private static void ofMinute() {
        Script.run("what of a MINUTE is 0 to 6", """
            ofMinute(0, -1) -> argument
            ofMinute(0, 0) -> 0
            ofMinute(0, 6) -> 0
            ofMinute(0, 7) -> argument
            ofMinute(0, -2147483648) -> argument
            ofMinute(0, 2147483647) -> argument
            """);
        Script.run("of a MINUTE: it is 0 to 239", """
            ofMinute(-1, 0) -> argument
            ofMinute(0, 1) -> 0
            ofMinute(239, 1) -> 0
            ofMinute(240, 0) -> argument
            ofMinute(-2147483648, 0) -> argument
            ofMinute(2147483647, 0) -> argument
            """);
        Script.run("CELLS that are no WALLS and not WATCHED: all without a GUARD, none if all are WATCHED", """
            base(8, 8, 100) -> 64
            ofMinute(0, 1) -> 64
            base(3, 3, 100) -> 9
            guard(4, 0, 89, 1) -> 0
            ofMinute(0, 1) -> 0
            ofMinute(89, 1) -> 0
            ofMinute(90, 1) -> 9
            lay(0, 1) -> 0
            ofMinute(0, 1) -> 0
            ofMinute(90, 1) -> 8
            """);
        Script.run("GUARDS on DUTY, and of these TIRED ones: none, and all 6", """
            base(3, 3, 100) -> 9
            ofMinute(239, 2) -> 0
            ofMinute(239, 3) -> 0
            guard(0, 0, 239, 1) -> 0
            guard(0, 0, 239, 1) -> 1
            guard(0, 0, 239, 1) -> 2
            guard(0, 0, 239, 1) -> 3
            guard(0, 0, 239, 1) -> 4
            guard(0, 0, 239, 1) -> 5
            ofMinute(239, 2) -> 6
            ofMinute(89, 3) -> 0
            ofMinute(90, 3) -> 6
            """);
        Script.run("POSTS that are EMPTY: none, and all 4", """
            base(3, 3, 100) -> 9
            ofMinute(0, 4) -> 0
            post(0) -> 0
            post(0) -> 1
            post(0) -> 2
            post(0) -> 3
            ofMinute(0, 4) -> 4
            guard(0, 1, 1, 1) -> 0
            ofMinute(0, 4) -> 4
            ofMinute(1, 4) -> 0
            ofMinute(2, 4) -> 4
            """);
    }

    private static void keysOffDuty() {
        Script.run("KEYS that GUARDS have who are not on DUTY: those on the BOARD are not among them", """
            base(3, 3, 100) -> 9
            ofMinute(0, 6) -> 0
            guard(0, 10, 20, 1) -> 0
            ofMinute(0, 6) -> 0
            key(0, 0) -> -1
            key(5, 0) -> -1
            ofMinute(9, 6) -> 2
            ofMinute(10, 6) -> 0
            ofMinute(20, 6) -> 0
            ofMinute(21, 6) -> 2
            ofMinute(239, 6) -> 2
            key(5, -1) -> 0
            ofMinute(21, 6) -> 1
            """);
        Script.run("all 6 KEYS with one who is not on DUTY", """
            base(3, 3, 100) -> 9
            guard(0, 10, 20, 1) -> 0
            key(0, 0) -> -1
            key(1, 0) -> -1
            key(2, 0) -> -1
            key(3, 0) -> -1
            key(4, 0) -> -1
            key(5, 0) -> -1
            ofMinute(0, 6) -> 6
            ofMinute(15, 6) -> 0
            """);
    }

    private static void lapse() {
        Script.run("from may be to: that MINUTE alone", """
            base(3, 3, 100) -> 9
            guard(4, 10, 20, 20) -> 0
            lapse(4, 9, 9) -> 9
            lapse(4, 10, 10) -> -1
            lapse(4, 20, 20) -> -1
            lapse(4, 21, 21) -> 21
            lapse(4, 0, 0) -> 0
            lapse(4, 239, 239) -> 239
            """);
        Script.run("both MINUTES are asked for", """
            base(3, 3, 100) -> 9
            guard(4, 10, 20, 20) -> 0
            lapse(4, 9, 20) -> 9
            lapse(4, 10, 20) -> -1
            lapse(4, 10, 21) -> 21
            """);
        Script.run("NONE without one, for the whole NIGHT", """
            base(3, 3, 100) -> 9
            guard(4, 0, 239, 20) -> 0
            lapse(4, 0, 239) -> -1
            lapse(0, 0, 239) -> -1
            fog(239, 5) -> 1
            lapse(4, 0, 239) -> -1
            lapse(0, 0, 239) -> 239
            """);
        Script.run("to is not less than from, and both are 0 to 239", """
            base(3, 3, 100) -> 9
            lapse(0, 100, 99) -> argument
            lapse(0, 239, 0) -> argument
            lapse(0, -1, 5) -> argument
            lapse(0, -1, -1) -> argument
            lapse(0, 0, 240) -> argument
            lapse(0, 240, 240) -> argument
            lapse(0, -2147483648, 2147483647) -> argument
            lapse(0, 0, 239) -> 0
            """);
        Script.run("a lapse of a CELL that there is, of a WALL too", """
            base(3, 3, 100) -> 9
            lay(8, 1) -> 0
            lapse(8, 0, 0) -> 0
            lapse(-1, 0, 0) -> index
            lapse(9, 0, 0) -> index
            lapse(2147483647, 0, 0) -> index
            """);
    }
}
