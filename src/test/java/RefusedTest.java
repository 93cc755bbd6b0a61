import java.util.ArrayList;
import java.util.List;

/**
 * Each refused call with what it throws, of several exceptions that which is named first, and with nothing changed by
 * it: each row is called on a night of its own, of which all is asked then, and to which all is told then.
 */
public final class RefusedTest {
    private static final String INT_LEAST = "-2147483648";
    private static final String INT_MOST = "2147483647";

    private RefusedTest() {
    }

    public static void main(String[] args) {
        ofANewObject();
        base();
        lay();
        gatesAndFog();
        lamps();
        guards();
        rounds();
        posts();
        asking();
        words();
        keys();
        intruders();
        wires();
        force();
        wouldBe();
        all();
        full();
        whatIsAsked();
        Script.end();
    }

    /** Rows of calls, each with what it throws; MIN and MAX stand for the least and the greatest int. */
    private static void refuses(Nights night, String rows) {
        for (String row : rows.split("\n")) {
            String told = row.strip();
            if (!told.isEmpty()) {
                int arrow = told.indexOf("->");
                String call = told.substring(0, arrow).strip().replace("MIN", INT_LEAST).replace("MAX", INT_MOST);
                night.refuses(call, told.substring(arrow + 2).strip());
            }
        }
    }

    private static void ofANewObject() {
        refuses(Nights.NEW, """
            base(2, 3, 0) -> argument
            lay(0, 0) -> index
            lay(0, 4) -> index
            gates(0, 240) -> argument
            lamp(0, 1) -> index
            lamp(0, 0) -> index
            light(0, true) -> index
            light(-1, false) -> index
            fog(240, 0) -> argument
            guard(0, 0, 0, 1) -> index
            guard(0, 5, 4, 0) -> index
            round(0, 0) -> index
            post(0) -> index
            place(0, 0) -> index
            place(0, 240) -> index
            sees(-1, 0, 0) -> index
            sees(-1, 0, 240) -> index
            ofCell(0, 0, 0) -> index
            ofCell(0, 240, 5) -> index
            ofMinute(240, 0) -> argument
            empty(0, true) -> index
            lapse(0, 0, 0) -> index
            lapse(0, 1, 0) -> index
            words(100) -> argument
            leak(4) -> argument
            answer(0, 0, 15) -> index
            answer(0, 240, 15) -> index
            key(0, 0) -> index
            key(6, -1) -> index
            ofGuard(0, 0) -> index
            ofGuard(0, 9) -> index
            intruder(0, 0, 0) -> index
            intruder(0, 240, -1) -> index
            wire(0, 1) -> index
            wire(0, 0) -> index
            where(0, 0) -> index
            where(0, 240) -> index
            ofIntruder(0, 0) -> index
            ofIntruder(0, 9) -> index
            force(0, 0, 0) -> index
            force(0, 4, 240) -> index
            ofWire(0, 0) -> index
            ofWire(0, 5) -> index
            sneak(0, 0, 0, 0) -> index
            sneak(0, 0, 240, 61) -> index
            reach(0, 0, 0) -> index
            reach(0, 240, 61) -> index
            nextLamp(0, 0, true) -> argument
            many(13) -> argument
            drawn(0, 0) -> index
            drawn(0, 240) -> index
            """);
    }

    private static void base() {
        refuses(Nights.SOME, """
            base(2, 4, 100) -> argument
            base(9, 4, 100) -> argument
            base(5, 2, 100) -> argument
            base(5, 9, 100) -> argument
            base(5, 4, -1) -> argument
            base(5, 4, 101) -> argument
            base(2, 9, 101) -> argument
            base(MIN, MAX, MIN) -> argument
            """);
    }

    private static void lay() {
        refuses(Nights.SOME, """
            lay(-1, 0) -> index
            lay(20, 0) -> index
            lay(MIN, 0) -> index
            lay(MAX, 0) -> index
            lay(20, 4) -> index
            lay(3, -1) -> argument
            lay(3, 4) -> argument
            lay(3, MIN) -> argument
            lay(3, MAX) -> argument
            lay(0, 4) -> argument
            lay(0, 1) -> state
            lay(16, 1) -> state
            lay(19, 1) -> state
            lay(5, 1) -> state
            lay(6, 1) -> state
            lay(11, 1) -> state
            lay(10, 1) -> state
            lay(15, 1) -> state
            lay(4, 1) -> state
            """);
    }

    private static void gatesAndFog() {
        refuses(Nights.SOME, """
            gates(-1, 0) -> argument
            gates(240, 0) -> argument
            gates(0, -1) -> argument
            gates(0, 240) -> argument
            gates(MIN, MAX) -> argument
            fog(-1, 0) -> argument
            fog(240, 0) -> argument
            fog(0, -1) -> argument
            fog(0, 6) -> argument
            fog(MAX, MIN) -> argument
            """);
    }

    private static void lamps() {
        refuses(Nights.SOME, """
            lamp(-1, 1) -> index
            lamp(20, 1) -> index
            lamp(MIN, 1) -> index
            lamp(MAX, 1) -> index
            lamp(20, 0) -> index
            lamp(3, 0) -> argument
            lamp(3, 5) -> argument
            lamp(3, MIN) -> argument
            lamp(3, MAX) -> argument
            lamp(2, 5) -> argument
            lamp(2, 1) -> state
            light(-1, true) -> index
            light(2, true) -> index
            light(2, false) -> index
            light(MIN, true) -> index
            light(MAX, false) -> index
            """);
    }

    private static void guards() {
        refuses(Nights.SOME, """
            guard(-1, 0, 0, 1) -> index
            guard(20, 0, 0, 1) -> index
            guard(MIN, 0, 0, 1) -> index
            guard(MAX, 0, 0, 1) -> index
            guard(20, 240, 0, 0) -> index
            guard(3, -1, 0, 1) -> argument
            guard(3, 240, 240, 1) -> argument
            guard(3, 0, 240, 1) -> argument
            guard(3, 0, -1, 1) -> argument
            guard(3, 5, 4, 1) -> argument
            guard(3, 0, 0, 0) -> argument
            guard(3, 0, 0, 21) -> argument
            guard(3, MIN, MAX, 1) -> argument
            guard(3, 0, 0, MIN) -> argument
            guard(3, 0, 0, MAX) -> argument
            guard(2, 5, 4, 1) -> argument
            guard(2, 0, 0, 0) -> argument
            guard(2, 0, 0, 1) -> state
            """);
    }

    private static void rounds() {
        refuses(Nights.SOME, """
            round(-1, 0) -> index
            round(3, 0) -> index
            round(MIN, 0) -> index
            round(MAX, 0) -> index
            round(0, -1) -> index
            round(0, 20) -> index
            round(0, MIN) -> index
            round(0, MAX) -> index
            round(3, 2) -> index
            round(0, 2) -> state
            round(2, 2) -> state
            """);
    }

    private static void posts() {
        refuses(Nights.SOME, """
            post(-1) -> index
            post(20) -> index
            post(MIN) -> index
            post(MAX) -> index
            post(2) -> state
            empty(-1, true) -> index
            empty(2, true) -> index
            empty(MIN, false) -> index
            empty(MAX, false) -> index
            """);
    }

    private static void asking() {
        refuses(Nights.SOME, """
            place(-1, 0) -> index
            place(3, 0) -> index
            place(3, 240) -> index
            place(0, -1) -> argument
            place(0, 240) -> argument
            sees(-2, 0, 0) -> index
            sees(3, 0, 0) -> index
            sees(0, -1, 0) -> index
            sees(0, 20, 0) -> index
            sees(-1, 20, 0) -> index
            sees(3, 20, 240) -> index
            sees(0, 20, 240) -> index
            sees(0, 0, -1) -> argument
            sees(-1, 0, 240) -> argument
            ofCell(-1, 0, 0) -> index
            ofCell(20, 0, 0) -> index
            ofCell(20, 240, 5) -> index
            ofCell(0, -1, 0) -> argument
            ofCell(0, 240, 0) -> argument
            ofCell(0, 0, -1) -> argument
            ofCell(0, 0, 5) -> argument
            ofMinute(-1, 0) -> argument
            ofMinute(240, 0) -> argument
            ofMinute(0, -1) -> argument
            ofMinute(0, 7) -> argument
            ofMinute(240, 7) -> argument
            lapse(-1, 0, 0) -> index
            lapse(20, 0, 0) -> index
            lapse(20, 5, 4) -> index
            lapse(0, -1, 0) -> argument
            lapse(0, 0, 240) -> argument
            lapse(0, 240, 240) -> argument
            lapse(0, -1, -1) -> argument
            lapse(0, 5, 4) -> argument
            """);
    }

    private static void words() {
        refuses(Nights.SOME, """
            words(-1) -> argument
            words(100) -> argument
            words(MIN) -> argument
            words(MAX) -> argument
            leak(-1) -> argument
            leak(4) -> argument
            leak(MIN) -> argument
            leak(MAX) -> argument
            answer(-1, 0, 18) -> index
            answer(3, 0, 18) -> index
            answer(3, 240, 18) -> index
            answer(MIN, 0, 18) -> index
            answer(MAX, 0, 18) -> index
            answer(0, -1, 18) -> argument
            answer(0, 240, 18) -> argument
            answer(1, 240, 18) -> argument
            answer(2, MIN, 18) -> argument
            answer(2, MAX, 30) -> argument
            """);
    }

    private static void keys() {
        refuses(Nights.SOME, """
            key(-1, 0) -> index
            key(6, 0) -> index
            key(6, -1) -> index
            key(MIN, 0) -> index
            key(MAX, 0) -> index
            key(0, -2) -> index
            key(0, 3) -> index
            key(3, MIN) -> index
            key(3, MAX) -> index
            ofGuard(-1, 0) -> index
            ofGuard(3, 0) -> index
            ofGuard(3, 9) -> index
            ofGuard(0, -1) -> argument
            ofGuard(0, 9) -> argument
            """);
    }

    private static void intruders() {
        refuses(Nights.SOME, """
            intruder(-1, 0, 0) -> index
            intruder(20, 0, 0) -> index
            intruder(MIN, 0, 0) -> index
            intruder(MAX, 0, 0) -> index
            intruder(20, 240, -1) -> index
            intruder(3, -1, 0) -> argument
            intruder(3, 240, 0) -> argument
            intruder(3, 0, -1) -> argument
            intruder(3, 0, MIN) -> argument
            intruder(2, 240, 0) -> argument
            intruder(2, 0, -1) -> argument
            intruder(2, 0, 0) -> state
            intruder(3, 0, 4) -> state
            intruder(3, 0, 1) -> state
            intruder(4, 238, 2) -> state
            intruder(0, 0, 12) -> state
            intruder(17, 0, 17) -> state
            intruder(19, 0, 1220703127) -> state
            intruder(15, 0, MAX) -> state
            where(-1, 0) -> index
            where(2, 0) -> index
            where(2, 240) -> index
            where(0, -1) -> argument
            where(0, 240) -> argument
            ofIntruder(-1, 0) -> index
            ofIntruder(2, 0) -> index
            ofIntruder(2, 9) -> index
            ofIntruder(0, -1) -> argument
            ofIntruder(0, 9) -> argument
            """);
    }

    private static void wires() {
        refuses(Nights.SOME, """
            wire(-1, 1) -> index
            wire(20, 1) -> index
            wire(20, 0) -> index
            wire(MIN, 1) -> index
            wire(MAX, 1) -> index
            wire(0, 0) -> argument
            wire(0, 13) -> argument
            wire(0, MIN) -> argument
            wire(0, MAX) -> argument
            ofWire(-1, 0) -> index
            ofWire(2, 0) -> index
            ofWire(2, 5) -> index
            ofWire(0, -1) -> argument
            ofWire(0, 5) -> argument
            """);
    }

    private static void force() {
        refuses(Nights.SOME, """
            force(-1, 2, 120) -> index
            force(2, 2, 120) -> index
            force(2, 4, 240) -> index
            force(MIN, 0, 0) -> index
            force(MAX, 0, 0) -> index
            force(0, -1, 120) -> argument
            force(0, 4, 120) -> argument
            force(0, 2, -1) -> argument
            force(0, 2, 240) -> argument
            force(0, 3, 240) -> argument
            force(1, 0, 240) -> argument
            force(0, 0, 120) -> state
            force(0, 1, 120) -> state
            force(0, 2, 119) -> state
            force(0, 2, 0) -> state
            force(0, 3, 120) -> state
            force(1, 0, 239) -> state
            force(1, 0, 0) -> state
            """);
    }

    private static void wouldBe() {
        refuses(Nights.SOME, """
            sneak(-1, 0, 0, 0) -> index
            sneak(20, 0, 0, 0) -> index
            sneak(0, -1, 0, 0) -> index
            sneak(0, 20, 0, 0) -> index
            sneak(0, 20, 240, 61) -> index
            sneak(0, 0, -1, 0) -> argument
            sneak(0, 0, 240, 0) -> argument
            sneak(0, 0, 0, -1) -> argument
            sneak(0, 0, 0, 61) -> argument
            sneak(2, 2, 0, MAX) -> argument
            reach(-1, 0, 0) -> index
            reach(20, 0, 0) -> index
            reach(20, 240, 61) -> index
            reach(0, -1, 0) -> argument
            reach(0, 240, 0) -> argument
            reach(0, 0, -1) -> argument
            reach(0, 0, 61) -> argument
            reach(0, 180, 60) -> argument
            reach(0, 239, 1) -> argument
            reach(0, MAX, MAX) -> argument
            nextLamp(-1, 1, true) -> argument
            nextLamp(240, 1, false) -> argument
            nextLamp(0, 0, true) -> argument
            nextLamp(0, 5, false) -> argument
            """);
    }

    private static void all() {
        refuses(Nights.SOME, """
            many(-1) -> argument
            many(13) -> argument
            many(MIN) -> argument
            many(MAX) -> argument
            drawn(-1, 0) -> index
            drawn(4, 0) -> index
            drawn(4, 240) -> index
            drawn(MIN, 0) -> index
            drawn(MAX, 0) -> index
            drawn(0, -1) -> argument
            drawn(0, 240) -> argument
            """);
    }

    /** What is refused where no more is let; what is wrong besides is named first. */
    private static void full() {
        refuses(Nights.FULL, """
            lamp(6, 1) -> state
            lamp(15, 1) -> state
            lamp(6, 5) -> argument
            lamp(16, 1) -> index
            fog(0, 0) -> state
            fog(239, 5) -> state
            fog(0, 6) -> argument
            fog(-1, 0) -> argument
            guard(6, 0, 0, 1) -> state
            guard(15, 0, 0, 1) -> state
            guard(6, 0, 0, 21) -> argument
            guard(6, 1, 0, 1) -> argument
            guard(16, 0, 0, 1) -> index
            round(0, 6) -> state
            round(0, 0) -> state
            round(0, 15) -> state
            round(0, 16) -> index
            round(6, 0) -> index
            post(6) -> state
            post(15) -> state
            post(16) -> index
            leak(0) -> state
            leak(3) -> state
            leak(4) -> argument
            leak(-1) -> argument
            intruder(6, 0, 0) -> state
            intruder(15, 0, 0) -> state
            intruder(0, 0, 1) -> state
            intruder(6, 0, -1) -> argument
            intruder(6, 240, 0) -> argument
            intruder(16, 0, 0) -> index
            wire(6, 1) -> state
            wire(6, 0) -> argument
            wire(6, 13) -> argument
            wire(16, 1) -> index
            force(0, 0, 239) -> state
            force(0, 3, 239) -> state
            force(0, 4, 239) -> argument
            force(4, 0, 239) -> index
            answer(5, 240, 7) -> argument
            key(0, 6) -> index
            lay(0, 1) -> state
            lay(5, 1) -> state
            lay(13, 1) -> state
            lay(11, 1) -> state
            lay(8, 1) -> state
            lay(12, 1) -> state
            """);
    }

    /** What is asked changes nothing: neither all of the questions, nor one that is asked twice. */
    private static void whatIsAsked() {
        for (Nights night : new Nights[] {Nights.NEW, Nights.SOME, Nights.FULL}) {
            List<String> twice = new ArrayList<>();
            for (String question : night.questions()) {
                twice.add(question);
                twice.add(question);
            }
            night.isNotChangedBy(twice);
        }
    }
}
