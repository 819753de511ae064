import java.lang.reflect.InvocationTargetException;
import java.lang.reflect.Method;
import java.util.ArrayList;
import java.util.List;
import java.util.function.Supplier;
import java.util.regex.Matcher;
import java.util.regex.Pattern;

/**
 * Calls that are written down, one a line, with the answers that are due:
 * <pre>
 * size(3) = 2               a call; without "= .." its answer is not looked at
 * size(0..3) = 0 1 1 2      a call for each number from one to the other, and its answers
 * house "house law .." = 1  a text on the TAPE, and house()
 * house "x" = fault 1 at 0  .. which answers -4, with what fault(0) and fault(1) answer
 * walk(3) "ppt" = 5         letters on the TAPE, and walk(3)
 * tape "ppt"                a text on the TAPE alone
 * told(3) = f 5|b           tell(3), and all bytes of OUT
 * new                       another new object
 * // ..                     why
 * </pre>
 * In texts {put 0 1;*40} is forty times as much, and &lt;9&gt; the byte 9; max and min are the bounds of int.
 */
final class Script {
    private static final int MOST_CALLS = 512;
    private static final Pattern TEXT = Pattern.compile("(house|tape|walk\\((-?\\w+)\\)) \"([^\"]*)\"(?: = (.*))?");
    private static final Pattern CALL = Pattern.compile("(\\w+)\\(([^)]*)\\)(?: = (.*))?");
    private static final Pattern RUNNING = Pattern.compile("(-?\\w+)\\.\\.(-?\\w+)");

    private final Check check;
    private final Supplier<Object> maker;
    private Object x;
    private int calls;
    private int asked;

    private Script(Check check, Supplier<Object> maker) {
        this.check = check;
        this.maker = maker;
    }

    static void run(Check check, Supplier<Object> maker, String lines) {
        Script script = new Script(check, maker);
        script.renew();
        for (String line : lines.split("\n")) {
            script.runLine(line.trim());
        }
        check.truth("nothing is asked", script.asked > 0);
    }

    private void renew() {
        x = maker.get();
        calls = 0;
    }

    private void runLine(String line) {
        Matcher text = TEXT.matcher(line);
        Matcher call = CALL.matcher(line);
        if (line.equals("new")) {
            renew();
        } else if (text.matches()) {
            runText(line, text);
        } else if (call.matches() && call.group(1).equals("told")) {
            same(line, told(call.group(2)), expand(String.valueOf(call.group(3))));
        } else if (call.matches()) {
            runCalls(call.group(1), call.group(2), call.group(3));
        } else if (!line.isEmpty() && !line.startsWith("//")) {
            check.truth("no call: " + line, false);
        }
    }

    private void runText(String line, Matcher m) {
        tape(expand(m.group(3)));
        if (m.group(1).equals("tape")) {
            return;
        }
        long got = m.group(2) == null ? call("house") : call("walk", m.group(2));
        String due = String.valueOf(m.group(4));
        if (due.startsWith("fault ")) {
            same(line, got + ": fault " + call("fault", "0") + " at " + call("fault", "1"), "-4: " + due);
        } else if (m.group(4) != null) {
            same(line, String.valueOf(got), due);
        }
    }

    private void runCalls(String name, String arguments, String due) {
        String[] args = arguments.isEmpty() ? new String[0] : arguments.split(", ");
        List<String> answers = new ArrayList<>();
        for (String[] each : running(args)) {
            answers.add(String.valueOf(call(name, each)));
        }
        if (due != null) {
            same(name + "(" + arguments + ")", String.join(" ", answers), due.replace("NONE", "-1"));
        }
    }

    private static List<String[]> running(String[] args) {
        List<String[]> all = new ArrayList<>();
        for (int i = 0; i < args.length; i++) {
            Matcher m = RUNNING.matcher(args[i]);
            if (m.matches()) {
                for (long n = number(m.group(1)); n <= number(m.group(2)); n++) {
                    String[] each = args.clone();
                    each[i] = String.valueOf(n);
                    all.add(each);
                }
                return all;
            }
        }
        all.add(args);
        return all;
    }

    private void same(String what, String got, String due) {
        asked++;
        check.truth(what + " answered '" + got + "', due is '" + due + "'", got.equals(due));
    }

    private void tape(String text) {
        call("end", "0");
        for (int block = 0; block < Feeder.blocks(text); block++) {
            int[] w = Feeder.words(text, block);
            String[] args = new String[5];
            for (int i = 0; i < 5; i++) {
                args[i] = String.valueOf(w[i]);
            }
            call("feed", args);
        }
        call("end", String.valueOf(text.length()));
    }

    private String told(String version) {
        long bytes = call("tell", version);
        StringBuilder s = new StringBuilder();
        for (long i = 0; i < bytes; i++) {
            s.append((char) call("octet", String.valueOf(i)));
        }
        check.same("OUT behind tell(" + version + ")", call("octet", String.valueOf(bytes)), -1);
        return s.toString();
    }

    private static String expand(String text) {
        String many = Pattern.compile("\\{([^}]*)\\*(\\d+)\\}").matcher(text)
                .replaceAll(m -> Matcher.quoteReplacement(m.group(1).repeat(Integer.parseInt(m.group(2)))));
        return Pattern.compile("<(\\d+)>").matcher(many).replaceAll(
                m -> Matcher.quoteReplacement(String.valueOf((char) Integer.parseInt(m.group(1)))));
    }

    private static long number(String word) {
        return switch (word) {
            case "max" -> Integer.MAX_VALUE;
            case "min" -> Integer.MIN_VALUE;
            case "longmax" -> Long.MAX_VALUE;
            case "longmin" -> Long.MIN_VALUE;
            default -> Long.decode(word);
        };
    }

    private long call(String name, String... args) {
        calls++;
        check.truth("more than " + MOST_CALLS + " calls of one object", calls <= MOST_CALLS);
        Class<?>[] types = new Class<?>[args.length];
        Object[] values = new Object[args.length];
        for (int i = 0; i < args.length; i++) {
            boolean isSet = name.equals("held");
            types[i] = isSet ? long.class : int.class;
            long value = number(args[i]);
            values[i] = isSet ? (Object) value : (Object) (int) value;
        }
        try {
            Method method = x.getClass().getDeclaredMethod(name, types);
            return (Integer) method.invoke(x, values);
        } catch (InvocationTargetException e) {
            throw new IllegalStateException(name + List.of(args) + " threw " + e.getCause(), e);
        } catch (ReflectiveOperationException e) {
            throw new IllegalStateException("no such call: " + name + List.of(args), e);
        }
    }
}
