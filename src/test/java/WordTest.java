/** Promises 17 to 21: WORDS and KEYS. */
public final class WordTest {
    private WordTest() {
    }

    public static void main(String[] args) {
        words();
        leak();
        answer();
        answersBehindLeaks();
        constantRow();
        key();
        ofGuard();
        Script.end();
    }

    private static void words() {
        // The ROW of 17: 18, 41, 85, 30, 26, 31, 49, 75, 91, 71, 96, 89.
        Script.run("promise 17", """
            words(17) -> 18
            words(0) -> 15
            words(99) -> 61
            words(1) -> 38
            words(100) -> argument
            words(-1) -> argument
            base(3, 3, 100) -> 9
            guard(0, 0, 239, 1) -> 0
            guard(1, 0, 239, 1) -> 1
            // nothing was changed by the wrong ones
            answer(0, 0, 38) -> 0
            answer(0, 60, 16) -> 0
            answer(0, 120, 92) -> 0
            answer(0, 180, 94) -> 0
            leak(0) -> 43
            answer(1, 0, 38) -> 2
            answer(1, 0, 39) -> 3
            many(9) -> 1
            many(10) -> 4
            // the same seed again: STRIKES, answers, OLD ones and leaks are gone
            words(1) -> 38
            many(9) -> 0
            many(10) -> 0
            ofGuard(0, 7) -> 0
            ofGuard(1, 4) -> 0
            answer(1, 0, 43) -> 3
            answer(1, 0, 38) -> 0
            leak(3) -> 43
            words(17) -> 18
            answer(0, 0, 94) -> 3
            // they stand till the next BASE and behind it
            base(3, 3, 100) -> 9
            guard(0, 0, 239, 1) -> 0
            answer(0, 180, 30) -> 0
            """);
    }

    private static void leak() {
        Script.run("promise 18", """
            leak(4) -> argument
            leak(-1) -> argument
            words(17) -> 18
            leak(0) -> 26
            leak(0) -> 31
            leak(3) -> 49
            leak(1) -> 75
            leak(1) -> 91
            leak(2) -> 71
            leak(2) -> 96
            many(9) -> 7
            leak(3) -> 89
            many(9) -> 8
            leak(3) -> state
            leak(4) -> argument
            many(9) -> 8
            base(3, 3, 100) -> 9
            leak(0) -> 26
            """);
    }

    private static void answer() {
        Script.run("promise 19", """
            answer(0, 0, 0) -> index
            base(3, 3, 100) -> 9
            guard(0, 10, 39, 5) -> 0
            guard(0, 0, 239, 5) -> 1
            words(17) -> 18
            answer(2, 0, 18) -> index
            answer(-1, 0, 18) -> index
            answer(2, 240, 18) -> index
            answer(0, 240, 18) -> argument
            answer(0, -1, 18) -> argument
            ofGuard(0, 4) -> 0
            // right, also of one who is not on DUTY
            answer(0, 59, 18) -> 0
            answer(0, 60, 41) -> 0
            answer(0, 119, 41) -> 1
            answer(0, 120, 85) -> 0
            ofGuard(0, 4) -> 1
            ofGuard(0, 7) -> 7
            many(10) -> 3
            // the WORD of another HOUR, earlier or later, and none at all
            answer(1, 0, 41) -> 2
            answer(1, 0, 30) -> 2
            ofGuard(1, 4) -> 2
            ofGuard(1, 5) -> 0
            answer(1, 0, 18) -> 0
            answer(1, 0, 26) -> 3
            ofGuard(1, 4) -> 3
            ofGuard(1, 5) -> 1
            ofGuard(1, 7) -> 1
            many(10) -> 4
            // BARRED: nothing is counted
            answer(1, 60, 41) -> 4
            answer(1, 60, 5) -> 4
            ofGuard(1, 4) -> 3
            ofGuard(1, 7) -> 1
            many(10) -> 4
            answer(1, 240, 41) -> argument
            // the other one is not
            answer(0, 180, -1) -> 3
            answer(0, 180, 2147483647) -> 3
            answer(0, 180, 30) -> 4
            isSound() -> true
            """);
        Script.run("promise 19, a REPLAY alone", """
            base(3, 3, 100) -> 9
            guard(0, 10, 39, 5) -> 0
            words(17) -> 18
            answer(0, 0, 18) -> 0
            answer(0, 0, 18) -> 1
            answer(0, 0, 18) -> 1
            answer(0, 0, 18) -> 1
            answer(0, 0, 18) -> 4
            many(10) -> 1
            """);
    }

    private static void answersBehindLeaks() {
        Script.run("promise 19, behind a leak", """
            base(3, 3, 100) -> 9
            guard(0, 0, 239, 5) -> 0
            guard(0, 0, 239, 5) -> 1
            guard(0, 0, 239, 5) -> 2
            words(17) -> 18
            answer(0, 0, 18) -> 0
            leak(0) -> 26
            // the WORD is another one by now: a REPLAY all the same
            answer(0, 1, 26) -> 1
            // its OLD one, in its HOUR and in others
            answer(0, 1, 18) -> 2
            answer(0, 61, 18) -> 2
            answer(0, 61, 41) -> 4
            answer(1, 0, 18) -> 2
            answer(1, 0, 26) -> 0
            answer(1, 60, 26) -> 2
            leak(0) -> 31
            answer(2, 0, 26) -> 2
            answer(2, 0, 18) -> 2
            answer(2, 0, 31) -> 0
            answer(2, 0, 49) -> 3
            """);
    }

    private static void constantRow() {
        // From 39 the ROW has 39 alone; it is told by places, and the WORD of the HOUR goes ahead of OLD ones.
        Script.run("promises 17 to 19, the seed 39", """
            base(3, 3, 100) -> 9
            guard(0, 0, 239, 5) -> 0
            words(39) -> 39
            answer(0, 0, 39) -> 0
            leak(1) -> 39
            answer(0, 60, 39) -> 0
            answer(0, 60, 39) -> 1
            """);
    }

    private static void key() {
        Script.run("promise 20", """
            key(0, -1) -> -1
            key(0, 0) -> index
            key(6, -1) -> index
            key(-1, -1) -> index
            base(3, 3, 100) -> 9
            guard(0, 0, 9, 5) -> 0
            guard(0, 0, 9, 5) -> 1
            key(0, 1) -> -1
            key(5, 1) -> -1
            many(8) -> 2
            key(0, 0) -> 1
            key(0, 0) -> 0
            many(8) -> 2
            key(0, -2) -> index
            key(0, 2) -> index
            key(6, 0) -> index
            key(5, -1) -> 1
            key(5, -1) -> -1
            many(8) -> 1
            key(0, -1) -> 0
            many(8) -> 0
            isSound() -> true
            """);
    }

    private static void ofGuard() {
        Script.run("promise 21", """
            ofGuard(0, 0) -> index
            base(3, 3, 100) -> 9
            guard(0, 10, 99, 5) -> 0
            guard(1, 10, 100, 7) -> 1
            guard(2, 0, 239, 20) -> 2
            round(1, 1) -> 2
            round(1, 2) -> 3
            ofGuard(0, 0) -> 10
            ofGuard(0, 1) -> 99
            ofGuard(0, 2) -> 5
            ofGuard(0, 3) -> 1
            ofGuard(1, 1) -> 100
            ofGuard(1, 2) -> 7
            // one that is in it twice counts twice
            ofGuard(1, 3) -> 3
            ofGuard(0, 8) -> 0
            ofGuard(1, 8) -> 1
            ofGuard(2, 8) -> 150
            key(0, 1) -> -1
            key(3, 1) -> -1
            key(5, 2) -> -1
            ofGuard(0, 6) -> 0
            ofGuard(1, 6) -> 9
            ofGuard(2, 6) -> 32
            words(17) -> 18
            answer(2, 200, 30) -> 0
            answer(2, 70, 41) -> 0
            answer(2, 70, 0) -> 3
            ofGuard(2, 7) -> 10
            ofGuard(2, 4) -> 1
            ofGuard(2, 5) -> 0
            ofGuard(1, 4) -> 0
            ofGuard(1, 7) -> 0
            ofGuard(3, 9) -> index
            ofGuard(-1, 0) -> index
            ofGuard(0, 9) -> argument
            ofGuard(0, -1) -> argument
            """);
    }
}
