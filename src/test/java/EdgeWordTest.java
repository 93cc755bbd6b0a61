/**
 * Each sentence of the document on WORDS and KEYS (section 3, promises 17 to 21) that names a limit: a run of calls
 * of its own, with the least and the greatest number that is let and those just outside of them.
 * The ROW of 0 is 15, 69, 50, 1, 38, 16, 92, 94, 43, 34, 21, 13; that of 17 is 18, 41, 85, 30, 26, 31, 49, 75, 91,
 * 71, 96, 89.
 */
public final class EdgeWordTest {
    private EdgeWordTest() {
    }

    public static void main(String[] args) {
        seeds();
        everySeed();
        hours();
        leaks();
        leaksAndOldOnes();
        answers();
        replays();
        strikes();
        barred();
        wordsToldAnew();
        keys();
        ofGuard();
        Script.end();
    }

    private static void seeds() {
        Script.run("the seed of WORDS is 0 to 99", """
            words(-1) -> argument
            words(0) -> 15
            words(99) -> 61
            words(100) -> argument
            words(-2147483648) -> argument
            words(2147483647) -> argument
            leak(0) -> 48
            """);
        Script.run("the seed of WORDS is 0 at first", """
            base(3, 3, 100) -> 9
            guard(0, 0, 239, 1) -> 0
            answer(0, 0, 15) -> 0
            answer(0, 60, 69) -> 0
            answer(0, 120, 50) -> 0
            answer(0, 180, 1) -> 0
            leak(0) -> 38
            """);
        Script.run("a refused seed leaves the one ahead, also for the next BASE", """
            words(17) -> 18
            words(100) -> argument
            leak(0) -> 26
            base(3, 3, 100) -> 9
            leak(0) -> 26
            """);
    }

    /** All seeds: the four WORDS as a GUARD answers with them, and the eight leaks behind them. */
    private static void everySeed() {
        for (int seed = 0; seed <= 99; seed++) {
            int number = (23 * seed + 15) % 97;
            StringBuilder rows = new StringBuilder("base(3, 3, 100) -> 9\nguard(0, 0, 239, 1) -> 0\n");
            rows.append("words(").append(seed).append(") -> ").append(number).append('\n');
            for (int hour = 0; hour < 4; hour++) {
                rows.append("answer(0, ").append(60 * hour).append(", ").append(number).append(") -> 0\n");
                number = (23 * number + 15) % 97;
            }
            for (int leak = 0; leak < 8; leak++) {
                rows.append("leak(").append(leak % 4).append(") -> ").append(number).append('\n');
                number = (23 * number + 15) % 97;
            }
            rows.append("leak(0) -> state\n");
            Script.run("the WORDS of the seed " + seed, rows.toString());
        }
    }

    private static void hours() {
        Script.run("HOUR is MINUTE / 60, rounded down: the last MINUTE of each", """
            base(3, 3, 100) -> 9
            guard(0, 0, 239, 1) -> 0
            answer(0, 59, 15) -> 0
            answer(0, 119, 69) -> 0
            answer(0, 179, 50) -> 0
            answer(0, 239, 1) -> 0
            ofGuard(0, 7) -> 15
            """);
        Script.run("HOUR is MINUTE / 60, rounded down: the first MINUTE of each", """
            base(3, 3, 100) -> 9
            guard(0, 0, 239, 1) -> 0
            answer(0, 0, 15) -> 0
            answer(0, 60, 69) -> 0
            answer(0, 120, 50) -> 0
            answer(0, 180, 1) -> 0
            ofGuard(0, 7) -> 15
            """);
        Script.run("HOUR is MINUTE / 60: the MINUTE ahead has the WORD of another HOUR", """
            base(3, 3, 100) -> 9
            guard(0, 0, 239, 1) -> 0
            answer(0, 59, 69) -> 2
            answer(0, 119, 50) -> 2
            answer(0, 60, 69) -> 0
            ofGuard(0, 7) -> 2
            """);
        Script.run("the HOUR of a leak is 0 to 3", """
            leak(-1) -> argument
            leak(4) -> argument
            leak(-2147483648) -> argument
            leak(2147483647) -> argument
            many(9) -> 0
            leak(0) -> 38
            leak(3) -> 16
            many(9) -> 2
            """);
    }

    private static void leaks() {
        Script.run("for the first leak the fifth number of the ROW, and so on; 8 leaks at most", """
            words(17) -> 18
            many(9) -> 0
            leak(3) -> 26
            leak(2) -> 31
            leak(1) -> 49
            leak(0) -> 75
            leak(3) -> 91
            leak(3) -> 71
            leak(3) -> 96
            many(9) -> 7
            leak(3) -> 89
            many(9) -> 8
            leak(3) -> state
            leak(0) -> state
            leak(4) -> argument
            leak(-1) -> argument
            many(9) -> 8
            """);
        Script.run("behind 8 leaks those WORDS stand, a refused leak changes none", """
            base(3, 3, 100) -> 9
            guard(0, 0, 239, 1) -> 0
            leak(0) -> 38
            leak(0) -> 16
            leak(0) -> 92
            leak(0) -> 94
            leak(0) -> 43
            leak(0) -> 34
            leak(1) -> 21
            leak(3) -> 13
            leak(2) -> state
            answer(0, 0, 34) -> 0
            answer(0, 60, 21) -> 0
            answer(0, 120, 50) -> 0
            answer(0, 180, 13) -> 0
            """);
        Script.run("a new seed, and a new BASE, let 8 leaks again", """
            leak(0) -> 38
            leak(0) -> 16
            leak(0) -> 92
            leak(0) -> 94
            leak(0) -> 43
            leak(0) -> 34
            leak(0) -> 21
            leak(0) -> 13
            leak(0) -> state
            words(0) -> 15
            many(9) -> 0
            leak(0) -> 38
            leak(0) -> 16
            leak(0) -> 92
            leak(0) -> 94
            leak(0) -> 43
            leak(0) -> 34
            leak(0) -> 21
            leak(0) -> 13
            leak(0) -> state
            base(3, 3, 100) -> 9
            leak(0) -> 38
            many(9) -> 1
            """);
    }

    private static void leaksAndOldOnes() {
        Script.run("its WORD till then is an OLD one: the first and the eighth one", """
            base(3, 3, 100) -> 9
            guard(0, 0, 239, 1) -> 0
            guard(0, 0, 239, 1) -> 1
            leak(0) -> 38
            leak(0) -> 16
            leak(0) -> 92
            leak(0) -> 94
            leak(0) -> 43
            leak(0) -> 34
            leak(0) -> 21
            leak(0) -> 13
            answer(0, 0, 15) -> 2
            answer(0, 0, 21) -> 2
            answer(1, 180, 15) -> 2
            answer(1, 180, 34) -> 2
            answer(0, 0, 13) -> 0
            """);
        Script.run("what would be the next one is no WORD yet", """
            base(3, 3, 100) -> 9
            guard(0, 0, 239, 1) -> 0
            answer(0, 0, 38) -> 3
            leak(3) -> 38
            answer(0, 0, 38) -> 2
            answer(0, 180, 38) -> 0
            answer(0, 180, 16) -> 3
            """);
        Script.run("the OLD one of one HOUR is that of each HOUR; the HOURS that did not leak have theirs", """
            base(3, 3, 100) -> 9
            guard(0, 0, 239, 1) -> 0
            guard(0, 0, 239, 1) -> 1
            leak(1) -> 38
            answer(0, 0, 15) -> 0
            answer(0, 60, 38) -> 0
            answer(0, 120, 50) -> 0
            answer(0, 180, 1) -> 0
            answer(1, 0, 69) -> 2
            answer(1, 60, 69) -> 2
            answer(1, 180, 69) -> 2
            """);
    }

    private static void answers() {
        Script.run("0, if it is the WORD of that HOUR, once an HOUR", """
            base(3, 3, 100) -> 9
            guard(0, 0, 239, 1) -> 0
            answer(0, 0, 15) -> 0
            answer(0, 60, 69) -> 0
            answer(0, 180, 1) -> 0
            ofGuard(0, 4) -> 0
            ofGuard(0, 7) -> 11
            many(10) -> 3
            """);
        Script.run("2, if it is the WORD of another HOUR: an earlier one, and a later one", """
            base(3, 3, 100) -> 9
            guard(0, 0, 239, 1) -> 0
            answer(0, 60, 15) -> 2
            answer(0, 0, 1) -> 2
            ofGuard(0, 4) -> 2
            ofGuard(0, 7) -> 0
            """);
        Script.run("3 otherwise: any other number", """
            base(3, 3, 100) -> 9
            guard(0, 0, 239, 1) -> 0
            guard(0, 0, 239, 1) -> 1
            answer(0, 0, 14) -> 3
            answer(0, 0, -1) -> 3
            answer(0, 0, -2147483648) -> 3
            answer(1, 0, 2147483647) -> 3
            answer(1, 0, 0) -> 3
            answer(1, 0, 97) -> 3
            """);
        Script.run("numbers that are the WORD modulo 97 only are none", """
            base(3, 3, 100) -> 9
            guard(0, 0, 239, 1) -> 0
            answer(0, 0, 112) -> 3
            answer(0, 0, -82) -> 3
            answer(0, 0, 15) -> 0
            """);
        Script.run("the MINUTE of a CHALLENGE is 0 to 239", """
            base(3, 3, 100) -> 9
            guard(0, 0, 239, 1) -> 0
            answer(0, -1, 15) -> argument
            answer(0, 240, 1) -> argument
            answer(0, -2147483648, 15) -> argument
            answer(0, 2147483647, 1) -> argument
            ofGuard(0, 4) -> 0
            answer(0, 0, 15) -> 0
            answer(0, 239, 1) -> 0
            """);
        Script.run("there is such a GUARD who answers", """
            base(3, 3, 100) -> 9
            answer(0, 0, 15) -> index
            guard(0, 0, 239, 1) -> 0
            answer(-1, 0, 15) -> index
            answer(1, 0, 15) -> index
            answer(-2147483648, 0, 15) -> index
            answer(2147483647, 0, 15) -> index
            many(10) -> 0
            answer(0, 0, 15) -> 0
            """);
    }

    private static void replays() {
        Script.run("1, if it is that WORD, and it did answer rightly in that HOUR: a REPLAY, at the same MINUTE too", """
            base(3, 3, 100) -> 9
            guard(0, 0, 239, 1) -> 0
            answer(0, 0, 15) -> 0
            answer(0, 0, 15) -> 1
            answer(0, 59, 15) -> 1
            ofGuard(0, 4) -> 2
            many(10) -> 1
            """);
        Script.run("a REPLAY is that of this GUARD and of that HOUR alone", """
            base(3, 3, 100) -> 9
            guard(0, 0, 239, 1) -> 0
            guard(0, 0, 239, 1) -> 1
            answer(0, 0, 15) -> 0
            answer(1, 0, 15) -> 0
            answer(0, 60, 69) -> 0
            answer(1, 60, 69) -> 0
            ofGuard(0, 4) -> 0
            ofGuard(1, 4) -> 0
            """);
        Script.run("a REPLAY also if the WORD is another one by now", """
            base(3, 3, 100) -> 9
            guard(0, 0, 239, 1) -> 0
            answer(0, 0, 15) -> 0
            leak(0) -> 38
            answer(0, 0, 38) -> 1
            // the one ahead is an OLD one
            answer(0, 0, 15) -> 2
            many(10) -> 1
            """);
        Script.run("who answered wrongly first may answer rightly then", """
            base(3, 3, 100) -> 9
            guard(0, 0, 239, 1) -> 0
            answer(0, 0, 3) -> 3
            answer(0, 0, 69) -> 2
            answer(0, 0, 15) -> 0
            ofGuard(0, 4) -> 2
            ofGuard(0, 5) -> 0
            ofGuard(0, 7) -> 1
            """);
    }

    private static void strikes() {
        Script.run("with 1 it has a STRIKE more, with 3 STRIKES it is BARRED", """
            base(3, 3, 100) -> 9
            guard(0, 0, 239, 1) -> 0
            answer(0, 0, 15) -> 0
            ofGuard(0, 4) -> 0
            answer(0, 0, 15) -> 1
            ofGuard(0, 4) -> 1
            ofGuard(0, 5) -> 0
            answer(0, 0, 15) -> 1
            ofGuard(0, 4) -> 2
            ofGuard(0, 5) -> 0
            answer(0, 0, 15) -> 1
            ofGuard(0, 4) -> 3
            ofGuard(0, 5) -> 1
            answer(0, 0, 15) -> 4
            """);
        Script.run("with 2 it has a STRIKE more, with 3 STRIKES it is BARRED", """
            base(3, 3, 100) -> 9
            guard(0, 0, 239, 1) -> 0
            answer(0, 0, 69) -> 2
            answer(0, 0, 69) -> 2
            ofGuard(0, 5) -> 0
            answer(0, 0, 69) -> 2
            ofGuard(0, 4) -> 3
            ofGuard(0, 5) -> 1
            answer(0, 0, 69) -> 4
            """);
        Script.run("with 3 it has a STRIKE more, with 3 STRIKES it is BARRED", """
            base(3, 3, 100) -> 9
            guard(0, 0, 239, 1) -> 0
            answer(0, 0, 5) -> 3
            answer(0, 0, 5) -> 3
            ofGuard(0, 5) -> 0
            answer(0, 0, 5) -> 3
            ofGuard(0, 4) -> 3
            ofGuard(0, 5) -> 1
            answer(0, 0, 5) -> 4
            """);
        Script.run("STRIKES are those of one GUARD, the sixth one too", """
            base(3, 3, 100) -> 9
            guard(0, 0, 239, 1) -> 0
            guard(0, 0, 239, 1) -> 1
            guard(0, 0, 239, 1) -> 2
            guard(0, 0, 239, 1) -> 3
            guard(0, 0, 239, 1) -> 4
            guard(0, 0, 239, 1) -> 5
            answer(5, 0, 5) -> 3
            answer(5, 0, 5) -> 3
            answer(5, 0, 5) -> 3
            answer(5, 0, 15) -> 4
            ofGuard(4, 4) -> 0
            answer(4, 0, 15) -> 0
            answer(0, 0, 15) -> 0
            isSound() -> true
            """);
    }

    private static void barred() {
        Script.run("BARRED: each answer is 4, right, OLD or wrong, in each HOUR, and nothing is counted", """
            base(3, 3, 100) -> 9
            guard(0, 0, 239, 1) -> 0
            answer(0, 0, 15) -> 0
            leak(1) -> 38
            answer(0, 0, 5) -> 3
            answer(0, 0, 5) -> 3
            answer(0, 0, 5) -> 3
            answer(0, 0, 15) -> 4
            answer(0, 60, 38) -> 4
            answer(0, 60, 69) -> 4
            answer(0, 120, 50) -> 4
            answer(0, 239, -1) -> 4
            ofGuard(0, 4) -> 3
            ofGuard(0, 7) -> 1
            many(10) -> 1
            """);
        Script.run("who is BARRED has no MINUTE outside of the NIGHT either", """
            base(3, 3, 100) -> 9
            guard(0, 0, 239, 1) -> 0
            answer(0, 0, 5) -> 3
            answer(0, 0, 5) -> 3
            answer(0, 0, 5) -> 3
            answer(0, 240, 15) -> argument
            answer(0, -1, 15) -> argument
            answer(0, 239, 15) -> 4
            """);
    }

    private static void wordsToldAnew() {
        Script.run("with a seed of WORDS STRIKES are gone: who was BARRED is so no more", """
            base(3, 3, 100) -> 9
            guard(0, 0, 239, 1) -> 0
            answer(0, 0, 5) -> 3
            answer(0, 0, 5) -> 3
            answer(0, 0, 5) -> 3
            ofGuard(0, 5) -> 1
            words(0) -> 15
            ofGuard(0, 4) -> 0
            ofGuard(0, 5) -> 0
            answer(0, 0, 15) -> 0
            """);
        Script.run("with a seed of WORDS answers are gone: no REPLAY", """
            base(3, 3, 100) -> 9
            guard(0, 0, 239, 1) -> 0
            answer(0, 0, 15) -> 0
            words(0) -> 15
            ofGuard(0, 7) -> 0
            many(10) -> 0
            answer(0, 0, 15) -> 0
            many(10) -> 1
            """);
        Script.run("with a seed of WORDS OLD ones and leaks are gone", """
            base(3, 3, 100) -> 9
            guard(0, 0, 239, 1) -> 0
            leak(0) -> 38
            leak(0) -> 16
            words(17) -> 18
            many(9) -> 0
            answer(0, 0, 38) -> 3
            answer(0, 0, 15) -> 3
            answer(0, 0, 18) -> 0
            leak(0) -> 26
            """);
        Script.run("a refused seed of WORDS leaves STRIKES, answers, OLD ones and leaks", """
            base(3, 3, 100) -> 9
            guard(0, 0, 239, 1) -> 0
            answer(0, 0, 15) -> 0
            leak(1) -> 38
            answer(0, 0, 69) -> 2
            words(-1) -> argument
            words(100) -> argument
            many(9) -> 1
            many(10) -> 1
            ofGuard(0, 4) -> 1
            ofGuard(0, 7) -> 1
            answer(0, 0, 69) -> 2
            """);
        Script.run("a seed of WORDS leaves GUARDS, KEYS and all else", """
            base(3, 3, 100) -> 9
            guard(4, 0, 239, 1) -> 0
            key(5, 0) -> -1
            knock() -> 1
            words(17) -> 18
            place(0, 239) -> 4
            many(8) -> 1
            many(12) -> 1
            """);
    }

    private static void keys() {
        Script.run("KEYS: 6, numbered from 0, on the BOARD at first", """
            key(0, -1) -> -1
            key(1, -1) -> -1
            key(2, -1) -> -1
            key(3, -1) -> -1
            key(4, -1) -> -1
            key(5, -1) -> -1
            key(6, -1) -> index
            key(-1, -1) -> index
            key(-2147483648, -1) -> index
            key(2147483647, -1) -> index
            many(8) -> 0
            """);
        Script.run("a KEY for a GUARD that there is, or for NONE", """
            base(3, 3, 100) -> 9
            key(0, 0) -> index
            guard(0, 0, 239, 1) -> 0
            key(0, 1) -> index
            key(0, -2) -> index
            key(0, -2147483648) -> index
            key(0, 2147483647) -> index
            many(8) -> 0
            key(0, 0) -> -1
            key(0, 1) -> index
            key(0, -1) -> 0
            key(0, -1) -> -1
            """);
        Script.run("all 6 KEYS with the sixth GUARD", """
            base(3, 3, 100) -> 9
            guard(0, 0, 239, 1) -> 0
            guard(0, 0, 239, 1) -> 1
            guard(0, 0, 239, 1) -> 2
            guard(0, 0, 239, 1) -> 3
            guard(0, 0, 239, 1) -> 4
            guard(0, 0, 239, 1) -> 5
            key(0, 5) -> -1
            key(1, 5) -> -1
            key(2, 5) -> -1
            key(3, 5) -> -1
            key(4, 5) -> -1
            ofGuard(5, 6) -> 31
            key(5, 5) -> -1
            ofGuard(5, 6) -> 63
            ofGuard(0, 6) -> 0
            many(8) -> 6
            key(5, 0) -> 5
            ofGuard(5, 6) -> 31
            ofGuard(0, 6) -> 32
            many(8) -> 6
            isSound() -> true
            """);
        Script.run("a KEY that is given to the one who has it", """
            base(3, 3, 100) -> 9
            guard(0, 0, 239, 1) -> 0
            key(5, 0) -> -1
            key(5, 0) -> 0
            many(8) -> 1
            ofGuard(0, 6) -> 32
            """);
    }

    private static void ofGuard() {
        Script.run("what of a GUARD is 0 to 8", """
            base(3, 3, 100) -> 9
            guard(0, 0, 239, 1) -> 0
            ofGuard(0, -1) -> argument
            ofGuard(0, 0) -> 0
            ofGuard(0, 1) -> 239
            ofGuard(0, 2) -> 1
            ofGuard(0, 3) -> 1
            ofGuard(0, 4) -> 0
            ofGuard(0, 5) -> 0
            ofGuard(0, 6) -> 0
            ofGuard(0, 7) -> 0
            ofGuard(0, 8) -> 150
            ofGuard(0, 9) -> argument
            ofGuard(0, -2147483648) -> argument
            ofGuard(0, 2147483647) -> argument
            """);
        Script.run("of a GUARD: there is such a GUARD (NONE is not let here)", """
            base(3, 3, 100) -> 9
            ofGuard(0, 0) -> index
            guard(0, 0, 239, 1) -> 0
            ofGuard(-1, 0) -> index
            ofGuard(1, 0) -> index
            ofGuard(-2147483648, 0) -> index
            ofGuard(2147483647, 0) -> index
            """);
        Script.run("the set of HOURS in which it answered rightly: none, the last one, all", """
            base(3, 3, 100) -> 9
            guard(0, 0, 239, 1) -> 0
            ofGuard(0, 7) -> 0
            answer(0, 180, 1) -> 0
            ofGuard(0, 7) -> 8
            answer(0, 0, 15) -> 0
            ofGuard(0, 7) -> 9
            answer(0, 120, 50) -> 0
            answer(0, 60, 69) -> 0
            ofGuard(0, 7) -> 15
            """);
    }
}
