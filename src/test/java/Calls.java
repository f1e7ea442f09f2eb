import java.lang.reflect.Method;
import java.util.ArrayList;
import java.util.Arrays;
import java.util.HashMap;
import java.util.List;
import java.util.Map;

/**
 * Runs of calls written as text, each with the answers that are due:
 * {@code bag(0..3)=0,1,2,FULL}, {@code 20*step()=0}, {@code way[..ub]=4}, {@code set(0,1,50)}.
 * A range stands for one call for each number in it, a number ahead of {@code *} for that many rounds of all these;
 * one answer alone is due for each of them, no answer is not looked at. Text in [] is typed ahead of the call
 * (and {@code type[..]} types it alone).
 */
final class Calls {
    /** What later calls of one object answer is free. */
    static final int MOST = 512;

    private static final Map<String, Method> FACE = new HashMap<>();
    private static final Map<String, Long> NAMES = Map.ofEntries(
        Map.entry("BAD", -1L), Map.entry("NOT", -2L), Map.entry("FULL", -3L), Map.entry("NONE", -4L),
        Map.entry("NULL", -11L), Map.entry("CAST", -12L), Map.entry("INDEX", -13L), Map.entry("SIZE", -14L),
        Map.entry("LOW", (long) Integer.MIN_VALUE), Map.entry("HIGH", (long) Integer.MAX_VALUE));

    static {
        for (Method m : TornBag.class.getDeclaredMethods()) FACE.put(m.getName(), m);
    }

    private final String say;
    private final TornBag x = new TornBag();
    private int made = 0;
    private String text = "";
    private int at = 0;

    Calls(String say) {
        this.say = say;
    }

    /** A run on a new object. */
    static Calls due(String say, String... lines) {
        return new Calls(say).go(lines);
    }

    /** How many calls the object has had. */
    int made() {
        return made;
    }

    Calls go(String... lines) {
        answers(lines);
        return this;
    }

    /** All answers in their order, also those that are not looked at. */
    List<Long> answers(String... lines) {
        List<Long> all = new ArrayList<>();
        for (String line : lines) {
            text = line;
            at = 0;
            for (blanks(); at < text.length(); blanks()) item(all);
        }
        if (made > MOST) Check.due(say + ": calls of one object", made, MOST);
        return all;
    }

    private void item(List<Long> all) {
        int from = at;
        int rounds = Character.isDigit(text.charAt(at)) ? (int) number() : 1;
        if (peek() == '*') at++;
        String name = word();
        List<long[]> rows = peek() == '[' ? typed(name) : arguments();
        String call = text.substring(from, at);
        List<Long> due = dues();
        int k = 0;
        for (int round = 0; round < rounds; round++) {
            for (long[] row : rows) {
                long got = call(name, row);
                all.add(got);
                if (!due.isEmpty()) Check.due(say + ": " + call + " (" + k + ")", got, due.get(Math.min(k, due.size() - 1)));
                k++;
            }
        }
        if (due.size() > 1) Check.due(say + ": " + call + ", answers told", due.size(), k);
    }

    private List<long[]> typed(String name) {
        int end = text.indexOf(']', at);
        for (at++; at < end; at++) call("type", new long[] {text.charAt(at)});
        at++;
        List<long[]> rows = new ArrayList<>();
        if (!name.equals("type")) rows.add(new long[0]);
        return rows;
    }

    private List<long[]> arguments() {
        List<long[]> rows = new ArrayList<>();
        rows.add(new long[0]);
        at++;
        while (peek() != ')') {
            long first = number();
            long last = first;
            if (text.startsWith("..", at)) {
                at += 2;
                last = number();
            }
            rows = widened(rows, first, last);
            if (peek() == ',') at++;
        }
        at++;
        return rows;
    }

    private static List<long[]> widened(List<long[]> rows, long first, long last) {
        List<long[]> wide = new ArrayList<>();
        for (long[] row : rows) {
            for (long k = 0; k <= last - first; k++) {
                long[] longer = Arrays.copyOf(row, row.length + 1);
                longer[row.length] = first + k;
                wide.add(longer);
            }
        }
        return wide;
    }

    private List<Long> dues() {
        List<Long> due = new ArrayList<>();
        while (peek() == (due.isEmpty() ? '=' : ',')) {
            at++;
            due.add(number());
        }
        return due;
    }

    private long number() {
        if (Character.isUpperCase(peek())) return NAMES.get(word());
        int from = at;
        if (peek() == '-') at++;
        while (Character.isDigit(peek())) at++;
        return Long.parseLong(text.substring(from, at));
    }

    private String word() {
        int from = at;
        while (Character.isLetter(peek())) at++;
        return text.substring(from, at);
    }

    private char peek() {
        return at < text.length() ? text.charAt(at) : ' ';
    }

    private void blanks() {
        while (at < text.length() && peek() == ' ') at++;
    }

    private long call(String name, long[] row) {
        Method m = FACE.get(name);
        Object[] given = new Object[row.length];
        for (int k = 0; k < row.length; k++) {
            if (m.getParameterTypes()[k] == long.class) given[k] = row[k];
            else given[k] = (int) row[k];
        }
        made++;
        try {
            return (int) m.invoke(x, given);
        } catch (ReflectiveOperationException thrown) {
            Check.holds(say + ": " + name + " throws " + thrown.getCause(), false);
            return 0;
        }
    }
}
