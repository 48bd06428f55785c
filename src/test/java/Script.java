import java.lang.reflect.InvocationTargetException;
import java.lang.reflect.Method;
import java.util.ArrayList;
import java.util.List;
import java.util.regex.Matcher;
import java.util.regex.Pattern;

/**
 * Calls on one new object, written as a text: "type(a:40)=4 rule(0)=0 12*done(0,0,false) count(1)=12". A
 * call is one of the document's or one of the helpers below; behind "=" stands the answer that is due;
 * "12*" makes it twelve times, and then the answer is that of the last time.
 */
final class Script {
    private static final int MOST_CALLS = 512;
    private static final Pattern CALL = Pattern.compile("(?:(\\d+)\\*)?(\\w+)\\(([^)]*)\\)(?:=(-?\\d+))?");

    private final DaysOnBread x = new DaysOnBread();
    private final List<String> asked = new ArrayList<>();
    private final List<Integer> answers = new ArrayList<>();
    private final List<String> wrong = new ArrayList<>();
    private int calls;

    Script(String... parts) {
        for (String part : parts) {
            go(part);
        }
        if (calls > MOST_CALLS) {
            wrong.add(calls + " calls, and nothing is promised behind " + MOST_CALLS);
        }
    }

    /** What was not as it is due, a line each. */
    List<String> wrong() {
        return wrong;
    }

    /** The answers of all written calls from the one with this number on. */
    List<String> from(int first) {
        List<String> lines = new ArrayList<>();
        for (int i = first; i < answers.size(); i++) {
            lines.add(asked.get(i) + " answered " + answers.get(i));
        }
        return lines;
    }

    int size() {
        return answers.size();
    }

    void go(String part) {
        for (String word : part.trim().split("\\s+")) {
            if (!word.isEmpty()) {
                goWord(word);
            }
        }
    }

    private void goWord(String word) {
        Matcher m = CALL.matcher(word);
        if (!m.matches()) {
            wrong.add("no call: " + word);
            return;
        }
        String[] args = m.group(3).isEmpty() ? new String[0] : m.group(3).split(",", -1);
        int times = m.group(1) == null ? 1 : Integer.parseInt(m.group(1));
        int answer = 0;
        for (int i = 0; i < times; i++) {
            answer = call(m.group(2), args);
        }
        asked.add(word);
        answers.add(answer);
        if (m.group(4) != null && answer != Integer.parseInt(m.group(4))) {
            wrong.add(word + " answered " + answer);
        }
    }

    private int call(String name, String[] args) {
        switch (name) {
            case "type":
                return type(args[0]);
            case "write":
                type(args.length == 2 ? args[1] : "");
                return ask("rule", args[0]);
            case "row":
                return row(args[0]);
            case "only":
                return only(args);
            case "pay":
                return pay(args);
            default:
                return ask(name, args);
        }
    }

    /** Feeds a text: how many bytes the tape has. */
    private int type(String text) {
        int has = 0;
        for (int at = 0; at < text.length(); at += 8) {
            int n = Math.min(8, text.length() - at);
            long bytes = 0;
            for (int i = 0; i < n; i++) {
                bytes |= (long) text.charAt(at + i) << 8 * i;
            }
            has = ask("feed", Integer.toString(n), Long.toString(bytes));
        }
        return has;
    }

    /** Puts digits: how many bytes the row has. */
    private int row(String digits) {
        int has = 0;
        for (int i = 0; i < digits.length(); i++) {
            has = ask("put", digits.substring(i, i + 1));
        }
        return has;
    }

    /** A kind with its worth, hardness, a day and stock, and no stock of the others. */
    private int only(String[] args) {
        for (int kind = 0; kind < 6; kind++) {
            ask("paying", Integer.toString(kind), "3", "0");
        }
        return pay(args);
    }

    /** A kind with its worth, hardness, a day and stock. */
    private int pay(String[] args) {
        for (int what = 0; what < 4; what++) {
            ask("paying", args[0], Integer.toString(what), args[what + 1]);
        }
        return 0;
    }

    private int ask(String name, String... args) {
        calls++;
        for (Method m : DaysOnBread.class.getDeclaredMethods()) {
            if (m.getName().equals(name) && m.getParameterCount() == args.length) {
                return invoke(m, args);
            }
        }
        wrong.add("no method " + name + " of " + args.length);
        return 0;
    }

    private int invoke(Method m, String[] args) {
        Object[] values = new Object[args.length];
        for (int i = 0; i < args.length; i++) {
            Class<?> type = m.getParameterTypes()[i];
            values[i] = type == boolean.class ? (Object) Boolean.valueOf(args[i])
                : type == long.class ? (Object) Long.decode(args[i]) : (Object) Integer.decode(args[i]);
        }
        try {
            return (Integer) m.invoke(x, values);
        } catch (IllegalAccessException | InvocationTargetException e) {
            wrong.add(m.getName() + " threw " + e.getCause());
            return 0;
        }
    }
}
