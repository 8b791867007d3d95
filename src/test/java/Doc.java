import java.lang.reflect.InvocationTargetException;
import java.lang.reflect.Method;
import java.util.ArrayList;
import java.util.Arrays;
import java.util.HashMap;
import java.util.List;
import java.util.Map;
import java.util.regex.Matcher;
import java.util.regex.Pattern;

/**
 * Sentences of the document, each with rows of calls on a new object. A row is "call", "call = answer" or some
 * of them behind one another, parted by "; ". Behind each row whose answer is below 0 it is looked at whether
 * all is as it would be without that call.
 */
final class Doc {
    /** Behind the 512th call of an object every answer is free. */
    private static final int MOST_CALLS = 512;
    private static final Pattern CALL = Pattern.compile("(\\w+)\\(([^()]*)\\)(?: = (\\S+))?");
    private static final Map<String, Integer> WORDS = Map.of("UNKNOWN", -1, "OUTSIDE", -2, "STATE", -3,
            "FULL", -4, "NO", -5, "NONE", -6, "MIN", Integer.MIN_VALUE, "MAX", Integer.MAX_VALUE);
    private static final Map<String, Method> METHODS = methods();

    private record Call(String text, Method method, Object[] numbers, Integer due) { }

    private Doc() {
    }

    static void says(String sentence, String... rows) {
        List<Call> calls = calls(rows);
        Due.holds("no more than 512 calls: " + sentence, calls.size() <= MOST_CALLS);
        DiskRests x = new DiskRests();
        for (int i = 0; i < calls.size(); i++) {
            Call call = calls.get(i);
            long got = answer(x, call);
            if (call.due == null) {
                continue;
            }
            String where = '"' + sentence + "\", call " + (i + 1) + ": " + call.text;
            Due.due(where, got, call.due);
            if (call.due < 0) {
                changesNothing(where, calls.subList(0, i), call);
            }
        }
    }

    /** "call = answer" for each of these numbers, which stands in the row as "?". */
    static String[] each(String row, int... numbers) {
        return Arrays.stream(numbers).mapToObj(n -> row.replace("?", Integer.toString(n))).toArray(String[]::new);
    }

    static String[] join(String[]... parts) {
        return Arrays.stream(parts).flatMap(Arrays::stream).toArray(String[]::new);
    }

    static String[] rows(String... rows) {
        return rows;
    }

    private static Map<String, Method> methods() {
        Map<String, Method> found = new HashMap<>();
        for (Method method : DiskRests.class.getMethods()) {
            if (method.getDeclaringClass() == DiskRests.class) {
                found.put(method.getName(), method);
            }
        }
        return found;
    }

    private static List<Call> calls(String... rows) {
        List<Call> found = new ArrayList<>();
        for (String row : rows) {
            for (String text : row.split("; ")) {
                Matcher parts = CALL.matcher(text);
                if (!parts.matches() || !METHODS.containsKey(parts.group(1))) {
                    throw new IllegalArgumentException("no call: " + text);
                }
                Object[] numbers = Arrays.stream(parts.group(2).split(", ")).map(Doc::number).toArray();
                Integer due = parts.group(3) == null ? null : number(parts.group(3));
                found.add(new Call(text, METHODS.get(parts.group(1)), numbers, due));
            }
        }
        return found;
    }

    private static Integer number(String text) {
        return WORDS.containsKey(text) ? WORDS.get(text) : Integer.valueOf(text);
    }

    /** The answer; one that no call gives, if the call throws. */
    private static long answer(DiskRests x, Call call) {
        try {
            return (Integer) call.method.invoke(x, call.numbers);
        } catch (InvocationTargetException thrown) {
            System.out.println(call.text + " threw " + thrown.getCause());
            return Long.MIN_VALUE;
        } catch (IllegalAccessException closed) {
            throw new IllegalStateException(closed);
        }
    }

    /** Looks at all that is told now, and at all that is told when each of the images has been restored. */
    private static void changesNothing(String where, List<Call> before, Call refused) {
        for (int image = -1; image < 2; image++) {
            DiskRests with = made(before);
            answer(with, refused);
            List<String> got = Told.all(with, image, MOST_CALLS - before.size() - 1);
            List<String> want = Told.all(made(before), image, MOST_CALLS - before.size() - 1);
            for (int i = 0; i < want.size(); i++) {
                if (!got.get(i).equals(want.get(i))) {
                    Due.holds(where + " changes nothing, but then " + got.get(i) + ", else " + want.get(i), false);
                    return;
                }
            }
        }
    }

    private static DiskRests made(List<Call> calls) {
        DiskRests x = new DiskRests();
        for (Call call : calls) {
            answer(x, call);
        }
        return x;
    }
}
