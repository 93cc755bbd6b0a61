import java.lang.reflect.InvocationTargetException;
import java.lang.reflect.Method;
import java.util.HashMap;
import java.util.Map;

/**
 * Runs of calls, told a row each: {@code lay(4, 1) -> 0}. An answer "index", "argument" or "state" means that
 * the call throws just IndexOutOfBoundsException, IllegalArgumentException or IllegalStateException.
 * A row that starts with "//" is a remark. Every script is run on the program, and on PlainNight as well,
 * so that the two tellings of the document, and the tests, have to agree.
 */
final class Script {
    private static final Map<String, Method> METHODS = new HashMap<>();
    private static int good;
    private static int wrong;

    private Script() {
    }

    /** A run on a new object of each kind. */
    static void run(String title, String rows) {
        run(title, rows, new NightwatchWall());
        run(title, rows, new PlainNight());
    }

    private static void run(String title, String rows, Object night) {
        for (String row : rows.split("\n")) {
            String told = row.strip();
            if (told.isEmpty() || told.startsWith("//")) {
                continue;
            }
            int arrow = told.indexOf("->");
            String call = told.substring(0, arrow).strip();
            due(title + ": " + night.getClass().getSimpleName() + ": " + call,
                    told.substring(arrow + 2).strip(), answer(night, call));
        }
    }

    static void due(String what, String want, String got) {
        if (want.equals(got)) {
            good++;
        } else {
            wrong++;
            System.out.println(what + " answered " + got + ", due is " + want);
        }
    }

    /** The answer of a call that is told as a text, as a text. */
    static String answer(Object night, String call) {
        int open = call.indexOf('(');
        String told = call.substring(open + 1, call.length() - 1).strip();
        String[] texts = told.isEmpty() ? new String[0] : told.split(",");
        Object[] arguments = new Object[texts.length];
        for (int k = 0; k < texts.length; k++) {
            String text = texts[k].strip();
            boolean isTruth = text.equals("true") || text.equals("false");
            arguments[k] = isTruth ? (Object) Boolean.valueOf(text) : (Object) Integer.valueOf(text);
        }
        return answer(night, call.substring(0, open), arguments);
    }

    static String answer(Object night, String name, Object... arguments) {
        try {
            String key = night.getClass().getName() + "." + name;
            return String.valueOf(METHODS.computeIfAbsent(key, k -> methodOf(night, name)).invoke(night, arguments));
        } catch (InvocationTargetException thrown) {
            return nameOf(thrown.getCause());
        } catch (IllegalAccessException e) {
            throw new IllegalStateException(e);
        }
    }

    private static Method methodOf(Object night, String name) {
        for (Method method : night.getClass().getDeclaredMethods()) {
            if (method.getName().equals(name)) {
                method.setAccessible(true);
                return method;
            }
        }
        throw new IllegalStateException("no method " + name);
    }

    private static String nameOf(Throwable thrown) {
        if (thrown.getClass() == IndexOutOfBoundsException.class) {
            return "index";
        }
        if (thrown.getClass() == IllegalArgumentException.class) {
            return "argument";
        }
        if (thrown.getClass() == IllegalStateException.class) {
            return "state";
        }
        return "throws " + thrown;
    }

    static void end() {
        System.out.println(good + " answers as due, " + wrong + " not");
        if (wrong != 0 || good == 0) {
            System.exit(1);
        }
    }
}
