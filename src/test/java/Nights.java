import java.util.ArrayList;
import java.util.List;

/**
 * Three nights: a new object, one with something of each kind, and one that is full of all. Of each of them all that
 * can be asked, in parts, and what can be told to it then: a part of either kind, with the calls that built the night
 * and one more, stays within the 512 calls for which an object answers.
 */
final class Nights {
    private static final int PART = 400;
    private static final int[] MINUTES = {0, 1, 29, 30, 59, 60, 89, 90, 119, 120, 150, 179, 180, 238, 239};

    static final Nights NEW = new Nights("a new object", 0);

    static final Nights SOME = new Nights("a night with some of each", 17,
        "base(5, 4, 100)", "lay(2, 1)", "lay(7, 2)", "lay(12, 3)", "lay(18, 3)", "gates(30, 90)", "lamp(0, 2)",
        "lamp(16, 3)", "light(1, false)", "fog(20, 2)", "fog(100, 5)", "fog(180, 1)", "guard(5, 0, 150, 7)",
        "round(0, 6)", "round(0, 11)", "guard(19, 60, 239, 20)", "guard(11, 100, 110, 1)", "post(5)", "post(19)",
        "words(17)", "leak(2)", "leak(2)", "answer(0, 0, 18)", "answer(0, 0, 18)", "answer(1, 0, 5)",
        "answer(1, 0, 5)", "answer(1, 0, 5)", "key(0, 0)", "key(3, 2)", "intruder(5, 10, 92)", "intruder(4, 239, 0)",
        "wire(4, 6)", "wire(2, 12)", "force(0, 0, 100)", "force(0, 1, 120)", "knock()");

    static final Nights FULL = new Nights("a night that is full", 0,
        "base(4, 4, 100)", "lay(15, 1)", "lay(9, 2)", "lay(14, 3)", "lamp(0, 1)", "lamp(1, 2)", "lamp(2, 3)",
        "lamp(3, 4)", "lamp(4, 1)", "lamp(5, 1)", "light(3, false)", "fog(0, 1)", "fog(50, 2)", "fog(50, 3)",
        "fog(100, 4)", "fog(150, 5)", "fog(200, 0)", "fog(220, 1)", "fog(239, 5)", "guard(0, 0, 239, 20)",
        "guard(5, 0, 100, 1)", "guard(10, 50, 150, 2)", "guard(3, 100, 200, 3)", "guard(12, 0, 0, 4)",
        "guard(13, 239, 239, 5)", "round(0, 1)", "round(0, 2)", "round(0, 3)", "round(0, 7)", "round(0, 11)",
        "post(0)", "post(5)", "post(10)", "post(13)", "leak(0)", "leak(1)", "leak(2)", "leak(3)", "leak(0)",
        "leak(1)", "leak(2)", "leak(3)", "answer(0, 0, 43)", "answer(5, 0, 7)", "answer(5, 0, 7)", "answer(5, 0, 7)",
        "key(0, 0)", "key(1, 1)", "key(2, 2)", "key(3, 3)", "key(4, 4)", "key(5, 5)", "intruder(0, 0, 13)",
        "intruder(8, 100, 0)", "intruder(6, 200, 1)", "intruder(12, 230, 0)", "wire(0, 1)", "wire(5, 6)",
        "wire(15, 10)", "wire(8, 11)", "wire(6, 12)", "force(0, 0, 0)", "force(0, 1, 5)", "force(0, 2, 5)",
        "force(0, 3, 239)");

    private final String name;
    private final int wordSeed;
    private final String[] calls;
    private final PlainNight plain = new PlainNight();
    private final List<String> questions = new ArrayList<>();
    /** Each part is asked, or told, to an object of its own. */
    private final List<List<String>> parts = new ArrayList<>();
    private final List<List<String>> answers = new ArrayList<>();

    private Nights(String name, int wordSeed, String... calls) {
        this.name = name;
        this.wordSeed = wordSeed;
        this.calls = calls;
        build(plain);
        askOfAll();
        askOfMinutes();
        askOfCells();
        askOfNumbers();
        askWhatWouldBe();
        for (int from = 0; from < questions.size(); from += PART) {
            parts.add(new ArrayList<>(questions.subList(from, Math.min(from + PART, questions.size()))));
        }
        tellWords();
        tellAll();
        for (List<String> part : parts) {
            answers.add(answersOf(build(new PlainNight()), part));
        }
    }

    /** The night on a new object: none of its calls may throw. */
    <T> T build(T night) {
        for (String call : calls) {
            String got = Script.answer(night, call);
            if (got.equals("index") || got.equals("argument") || got.equals("state") || got.startsWith("throws")) {
                Script.due(name + ": " + call, "an answer", got);
            }
        }
        return night;
    }

    PlainNight plain() {
        return plain;
    }

    String name() {
        return name;
    }

    List<String> questions() {
        return questions;
    }

    private static List<String> answersOf(Object night, List<String> calls) {
        List<String> got = new ArrayList<>();
        for (String call : calls) {
            got.add(Script.answer(night, call));
        }
        return got;
    }

    /** That a call throws this, and that all that is asked and told behind it is answered as without it. */
    void refuses(String call, String thrown) {
        for (int part = 0; part < parts.size(); part++) {
            NightwatchWall night = build(new NightwatchWall());
            Script.due(name + ": " + call, thrown, Script.answer(night, call));
            stands(night, part, call);
        }
    }

    /** That all these calls, which are questions, change nothing; they are made on one object for each part. */
    void isNotChangedBy(List<String> asked) {
        for (int from = 0; from < asked.size(); from += 40) {
            List<String> some = asked.subList(from, Math.min(from + 40, asked.size()));
            for (int part = 0; part < parts.size(); part++) {
                NightwatchWall night = build(new NightwatchWall());
                answersOf(night, some);
                stands(night, part, some.get(0) + " and so on");
            }
        }
    }

    private void stands(NightwatchWall night, int part, String call) {
        List<String> got = answersOf(night, parts.get(part));
        String first = "nothing";
        for (int k = got.size() - 1; k >= 0; k--) {
            first = got.get(k).equals(answers.get(part).get(k)) ? first : parts.get(part).get(k);
        }
        Script.due(name + ": what is changed by " + call, "nothing", first);
    }

    // ---- what is asked

    private void ask(String method, int... numbers) {
        StringBuilder call = new StringBuilder(method).append('(');
        for (int k = 0; k < numbers.length; k++) {
            call.append(k == 0 ? "" : ", ").append(numbers[k]);
        }
        questions.add(call.append(')').toString());
    }

    private void askOfAll() {
        ask("digest");
        ask("isSound");
        for (int what = 0; what <= 12; what++) {
            ask("many", what);
        }
    }

    private void askOfMinutes() {
        for (int minute : MINUTES) {
            for (int what = 0; what <= 6; what++) {
                ask("ofMinute", minute, what);
            }
            for (int row = 0; row < 4; row++) {
                ask("drawn", row, minute);
            }
            for (int guard = 0; guard < plain.many(3); guard++) {
                ask("place", guard, minute);
            }
            for (int intruder = 0; intruder < plain.many(5); intruder++) {
                ask("where", intruder, minute);
            }
        }
    }

    private void askOfCells() {
        for (int cell = 0; cell < plain.many(0); cell++) {
            for (int minute = 0; minute < 240; minute += 60) {
                for (int what = 0; what <= 4; what++) {
                    ask("ofCell", cell, minute, what);
                }
                for (int guard = -1; guard < plain.many(3); guard++) {
                    ask("sees", guard, cell, minute);
                }
            }
            ask("lapse", cell, 0, 239);
            ask("lapse", cell, 100, 150);
        }
    }

    private void askOfNumbers() {
        for (int guard = 0; guard < plain.many(3); guard++) {
            for (int what = 0; what <= 8; what++) {
                ask("ofGuard", guard, what);
            }
        }
        for (int post = 0; post < plain.many(4); post++) {
            questions.add("empty(" + post + ", true)");
            questions.add("empty(" + post + ", false)");
        }
        for (int intruder = 0; intruder < plain.many(5); intruder++) {
            for (int what = 0; what <= 8; what++) {
                ask("ofIntruder", intruder, what);
            }
        }
        for (int wire = 0; wire < plain.many(7); wire++) {
            for (int what = 0; what <= 4; what++) {
                ask("ofWire", wire, what);
            }
        }
    }

    private void askWhatWouldBe() {
        for (int cell = 0; cell < plain.many(0); cell++) {
            ask("sneak", 3, cell, 170, 20);
            ask("reach", cell, 29, 3);
        }
        for (int reach = 1; reach <= 4; reach++) {
            questions.add("nextLamp(0, " + reach + ", true)");
            questions.add("nextLamp(90, " + reach + ", false)");
        }
    }

    // ---- what is told behind it, to see what cannot be asked

    /** WORDS, OLD ones and answers, by GUARDS who answer with each number of the ROW; and leaks. */
    private void tellWords() {
        int number = wordSeed;
        for (int place = 0; place < 13; place++) {
            number = (23 * number + 15) % 97;
            List<String> part = new ArrayList<>();
            for (int hour = 0; hour < 4; hour++) {
                for (int guard = 0; guard < plain.many(3); guard++) {
                    part.add("answer(" + guard + ", " + 60 * hour + ", " + number + ")");
                }
            }
            part.add("many(10)");
            part.add("digest()");
            for (int leak = 0; leak < 9; leak++) {
                part.add("leak(" + leak % 4 + ")");
            }
            parts.add(part);
        }
    }

    /** One more of each, till there are too many, and all that can be told anew. */
    private void tellAll() {
        List<String> part = new ArrayList<>();
        part.add("knock()");
        for (int key = 0; key < 6; key++) {
            part.add("key(" + key + ", -1)");
        }
        for (int lamp = 0; lamp < plain.many(1); lamp++) {
            part.add("light(" + lamp + ", true)");
        }
        for (int guard = 0; guard < plain.many(3); guard++) {
            for (int k = 0; k < 6; k++) {
                part.add("round(" + guard + ", " + k + ")");
            }
        }
        for (int k = 0; k < 9; k++) {
            part.add("fog(" + 25 * k + ", " + k % 6 + ")");
            part.add("lamp(" + k + ", 1)");
            part.add("guard(" + k + ", 0, 239, 3)");
            part.add("post(" + k + ")");
            part.add("intruder(" + k + ", 50, 0)");
            part.add("wire(" + k + ", 6)");
        }
        for (int intruder = 0; intruder < plain.many(5); intruder++) {
            for (int step = 0; step < 4; step++) {
                part.add("force(" + intruder + ", " + step + ", 119)");
                part.add("force(" + intruder + ", " + step + ", 239)");
            }
        }
        part.add("gates(0, 239)");
        part.add("digest()");
        for (int cell = 0; cell < plain.many(0); cell++) {
            part.add("lay(" + cell + ", 1)");
        }
        part.add("digest()");
        part.add("words(17)");
        part.add("base(4, 3, 20)");
        part.add("leak(0)");
        part.add("digest()");
        parts.add(part);
    }
}
