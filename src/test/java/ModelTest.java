import java.lang.reflect.InvocationTargetException;
import java.lang.reflect.Method;
import java.lang.reflect.Modifier;
import java.util.ArrayList;
import java.util.Arrays;
import java.util.Comparator;
import java.util.List;
import java.util.Random;

/** Runs of random calls (always the same ones), each answer compared with that of the Model: all promises. */
public final class ModelTest {
    private static final int RUNS = 400;
    private static final int CALLS = 512;
    private static final Random dice = new Random(20261119);
    private static final List<Method> calls = new ArrayList<>();
    private static final List<Method> twins = new ArrayList<>();
    private static RingOffices x;
    private static Model y;
    private static int run;
    private static final int[] ODD = {-1, -2, Integer.MIN_VALUE, Integer.MAX_VALUE, 10, 11, 21, 60, 61, 99, 100, 101,
        300, 301, 512, 1201, -60, 1 << 30, 2147483637};

    public static void main(String[] args) throws Exception {
        Method[] all = RingOffices.class.getDeclaredMethods();
        Arrays.sort(all, Comparator.comparing(Method::getName));
        for (Method m : all) {
            if (!Modifier.isPublic(m.getModifiers())) continue;
            calls.add(m);
            twins.add(Model.class.getMethod(m.getName(), m.getParameterTypes()));
        }
        Check.due("how many calls", calls.size(), 38 - 1);
        for (run = 0; run < RUNS && Check.wrong() == 0; run++) oneRun();
        Check.end("ModelTest");
    }

    private static void oneRun() throws Exception {
        x = new RingOffices();
        y = new Model();
        if (run % 3 > 0) setup(run % 3 == 1 ? 0 : dice.nextInt(3));
        for (int call = 0; call < CALLS && Check.wrong() == 0; call++) {
            if (dice.nextInt(60) == 0) setup(dice.nextInt(4) == 0 ? dice.nextInt(3) : 3);
            else oneCall();
            if (call % 16 == 0) whole();
        }
        whole();
    }

    private static final String[] MOVES = {"minute", "minute", "minute", "minute", "minute", "minute", "letter", "letter",
        "letter", "letter", "stray", "stray", "shut", "cancel", "lose", "set", "rule", "undo", "keep", "restore"};

    private static void oneCall() throws Exception {
        int i = dice.nextInt(calls.size());
        if (dice.nextInt(3) > 0) i = named(MOVES[dice.nextInt(MOVES.length)]);
        Method m = calls.get(i);
        // A load that comes by chance would only ever see an odd tape.
        if (m.getName().equals("load") && dice.nextInt(8) > 0) return;
        Object[] with = new Object[m.getParameterCount()];
        for (int k = 0; k < with.length; k++) with[k] = argument(m.getName(), k);
        compare(i, with);
    }

    private static int named(String name) {
        for (int i = 0; i < calls.size(); i++) if (calls.get(i).getName().equals(name)) return i;
        throw new IllegalStateException(name);
    }

    private static void compare(int i, Object... with) throws Exception {
        Object got;
        try {
            got = calls.get(i).invoke(x, with);
        } catch (InvocationTargetException e) {
            System.out.println("run " + run + ": " + calls.get(i).getName() + Arrays.toString(with) + " threw " + e.getCause());
            got = Double.NaN;
        }
        Object want = twins.get(i).invoke(y, with);
        Check.due("run " + run + ": " + calls.get(i).getName() + Arrays.toString(with),
            ((Number) got).doubleValue(), ((Number) want).doubleValue());
    }

    private static int argument(String call, int k) {
        if (dice.nextInt(25) == 0) return ODD[dice.nextInt(ODD.length)];
        int offices = y.value(4);
        switch (call + k) {
            case "append0": case "append1": case "append2": case "append3": case "append4": return dice.nextInt();
            case "truncate0": return dice.nextInt(40);
            case "letter0": case "letter1": case "cancel0": case "shut0": case "stray0": case "set0": case "office0":
            case "queue0": case "why0": case "comesIn0": case "ifShut0": return dice.nextInt(offices + 1) - dice.nextInt(20) / 19;
            case "letter2": return dice.nextInt(11);
            case "cancel1": case "queue1": return dice.nextInt(8) - 1;
            case "lose0": case "token0": return dice.nextInt(4);
            case "minute0": return 1 + (dice.nextInt(4) > 0 ? dice.nextInt(5) : dice.nextInt(101));
            case "shut1": return dice.nextInt(2);
            case "set1": return dice.nextInt(3);
            case "set2": return dice.nextInt(12);
            case "rule0": case "ifRule0": return dice.nextInt(3);
            case "rule1": case "ifRule1": return dice.nextInt(25);
            case "keep0": case "restore0": return dice.nextInt(2);
            case "value0": return dice.nextInt(23) - 1;
            case "office1": return dice.nextInt(11) - 1;
            case "queue2": case "log1": return dice.nextInt(5) - 1;
            case "token1": return dice.nextInt(7) - 1;
            case "ifPassed0": case "ifRule2": case "ifShut1": case "bestSpeak0":
                return dice.nextInt(dice.nextBoolean() ? 302 : 30) - dice.nextInt(20) / 19;
            case "ifPassed1": case "ifRule3": case "ifShut2": return dice.nextInt(8) - 1;
            case "log0": return dice.nextInt(43) - 1;
            case "listByte0": case "setupByte0": return dice.nextInt(120) - 1;
            default: throw new IllegalStateException(call + k);
        }
    }

    private static int up(int most) {
        return 1 + dice.nextInt(most);
    }

    private static String space() {
        return dice.nextInt(6) == 0 ? dice.nextBoolean() ? "\n" : "  " : " ";
    }

    private static String numeral(int n) {
        return (n < 10 && dice.nextInt(9) == 0 ? "0" : "") + n;
    }

    /** Loads a setup text with some faults; 3 asks for a few of them at least. */
    private static void setup(int faults) throws Exception {
        StringBuilder text = new StringBuilder("speak" + space() + up(20) + " quiet" + numeral(up(20)) + " quota "
            + numeral(up(60)) + ";");
        int offices = dice.nextInt(20) == 0 ? 1 + dice.nextInt(12) : 2 + dice.nextInt(9);
        for (int o = 0; o < offices; o++) {
            int name = dice.nextInt(100) == 0 ? up(99) : o * 9 + up(9);
            text.append("office " + numeral(up(9)) + space() + name + (dice.nextInt(6) == 0 ? " shut;" : ";"));
        }
        int letters = dice.nextInt(12) + (dice.nextInt(10) == 0 ? 40 : 0);
        for (int i = 0; i < letters; i++) {
            int from = dice.nextInt(offices);
            int to = (from + (dice.nextInt(60) == 0 ? 0 : up(Math.max(1, offices - 1)))) % offices;
            text.append("letter " + from + " " + numeral(to) + space() + up(9) + ";");
        }
        if (dice.nextInt(4) > 0) text.append("token " + dice.nextInt(offices) + space() + ";");
        for (int fault = 0; fault < faults; fault++) spoil(text);
        while (text.length() > 1200) text.setLength(text.length() - 1);
        send(text.toString());
        compare(named("load"));
        compare(named("errorPosition"));
    }

    private static void spoil(StringBuilder text) {
        String signs = "  \n;;0123456789aegostz{A/:\t\u00ff`";
        int i = dice.nextInt(text.length());
        char sign = signs.charAt(dice.nextInt(signs.length()));
        switch (dice.nextInt(6)) {
            case 0: text.deleteCharAt(i); break;
            case 1: text.insert(i, sign); break;
            case 2: text.setCharAt(i, sign); break;
            case 3: if (i > 8) text.setLength(i); break;
            case 4: text.append(sign); break;
            default: int j = text.indexOf(" ", i); if (j > 0) text.deleteCharAt(j);
        }
    }

    private static void send(String text) throws Exception {
        compare(named("truncate"), y.truncate(0));
        int append = named("append");
        for (int i = 0; i < text.length(); i += 20) {
            Object[] five = new Object[5];
            for (int k = 0; k < 5; k++) {
                int four = 0;
                for (int b = 0; b < 4; b++) {
                    int place = i + 4 * k + b;
                    four = four << 8 | (place < text.length() ? text.charAt(place) & 255 : 32);
                }
                five[k] = four;
            }
            compare(append, five);
            if (i + 20 > text.length()) compare(named("truncate"), i + 20 - text.length());
        }
    }

    private static void whole() throws Exception {
        for (int what = -1; what <= 21; what++) compare(named("value"), what);
        for (int o = 0; o <= 10; o++) {
            for (int what = -1; what <= 9; what++) compare(named("office"), o, what);
            for (int i = 0; i <= 6; i++) for (int what = 0; what <= 2; what++) compare(named("queue"), o, i, what);
            compare(named("why"), o);
        }
        for (int t = 0; t <= 3; t++) for (int what = -1; what <= 5; what++) compare(named("token"), t, what);
        for (int i = 0; i <= 40; i++) for (int what = 0; what <= 2; what++) compare(named("log"), i, what);
        for (String name : new String[] {"winner", "round", "busiest", "doneIn", "leastQuota", "spoken", "meanLength",
            "listLength", "setupLength", "errorPosition"}) compare(named(name));
        for (int i = 0; i <= y.listLength(); i++) compare(named("listByte"), i);
        int end = y.setupLength();
        for (int i = 0; i <= end; i += 1 + end / 60) compare(named("setupByte"), i);
        compare(named("setupByte"), end - 1);
        compare(named("setupByte"), end);
    }
}
