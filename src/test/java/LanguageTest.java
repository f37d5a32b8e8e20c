import java.io.IOException;
import java.lang.management.ManagementFactory;
import java.lang.reflect.Constructor;
import java.lang.reflect.Field;
import java.lang.reflect.Method;
import java.lang.reflect.Modifier;
import java.nio.file.Files;
import java.nio.file.Path;
import java.util.ArrayList;
import java.util.HashSet;
import java.util.List;
import java.util.Set;
import java.util.TreeSet;
import java.util.regex.Matcher;
import java.util.regex.Pattern;

/** The document's face, that calls make no objects, and what can be told of LANGUAGE.md by a look at the text. */
public final class LanguageTest {
    private static final String[] FACE = {"append(int,int,int,int,int)int", "truncate(int)int", "load()int",
        "errorPosition()int", "letter(int,int,int)int", "cancel(int,int)int", "shut(int,int)int", "lose(int)int",
        "stray(int)int", "minute(int)int", "set(int,int,int)int", "rule(int,int)int", "keep(int)int", "restore(int)int",
        "undo()int", "value(int)int", "office(int,int)int", "queue(int,int,int)int", "token(int,int)int", "winner()int",
        "round()int", "busiest()int", "why(int)int", "comesIn(int)int", "doneIn()int", "ifPassed(int,int)int",
        "ifRule(int,int,int,int)int", "ifShut(int,int,int)int", "bestSpeak(int)int", "leastQuota()int", "log(int,int)int",
        "spoken()float", "meanLength()double", "listLength()int", "listByte(int)int", "setupLength()int", "setupByte(int)int"};

    public static void main(String[] args) throws IOException {
        face();
        noObjects();
        text(Files.readString(Path.of(args.length > 0 ? args[0] : ".", "src/main/java/RingOffices.java")));
        Check.end("LanguageTest");
    }

    private static void face() {
        Set<String> found = new TreeSet<>();
        Set<String> publicNames = new HashSet<>();
        for (Method m : RingOffices.class.getDeclaredMethods()) {
            if (Modifier.isPrivate(m.getModifiers())) continue;
            StringBuilder types = new StringBuilder();
            for (Class<?> type : m.getParameterTypes()) types.append(types.length() == 0 ? "" : ",").append(type);
            found.add(m.getName() + "(" + types + ")" + m.getReturnType());
            publicNames.add(m.getName());
        }
        Check.dueText("methods", found.toString(), new TreeSet<>(List.of(FACE)).toString());
        Check.due("constructors", RingOffices.class.getDeclaredConstructors().length, 1);
        for (Constructor<?> c : RingOffices.class.getConstructors()) Check.due("parameters", c.getParameterCount(), 0);
        Check.due("a final class", Modifier.isFinal(RingOffices.class.getModifiers()) ? 1 : 0, 1);
        Set<String> constants = new TreeSet<>();
        for (Field f : RingOffices.class.getDeclaredFields()) if (!Modifier.isPrivate(f.getModifiers())) constants.add(f.getName());
        Check.dueText("constants", constants.toString(), "[FULL, INVALID, NOT_FOUND, WRONG_STATE]");
        for (Class<?> inside : RingOffices.class.getDeclaredClasses()) {
            Check.due(inside + " is static", Modifier.isStatic(inside.getModifiers()) ? 1 : 0, 1);
            Check.due(inside + " is public or protected", inside.getModifiers() & (Modifier.PUBLIC | Modifier.PROTECTED), 0);
        }
        List<Class<?>> all = new ArrayList<>(List.of(RingOffices.class.getDeclaredClasses()));
        all.add(RingOffices.class);
        Check.due("at most some twelve classes", all.size() <= 12 ? 1 : 0, 1);
        for (Class<?> one : all) {
            for (Method m : one.getDeclaredMethods()) {
                boolean bears = publicNames.contains(m.getName()) && !Modifier.isPublic(m.getModifiers());
                Check.due(one + " " + m.getName() + " bears a public name", bears ? 1 : 0, 0);
                Check.due(m.getName() + " takes at most seven", m.getParameterCount() <= 7 ? 1 : 0, 1);
            }
            int fields = 0;
            for (Field f : one.getDeclaredFields()) if (!Modifier.isStatic(f.getModifiers())) fields++;
            Check.due(one + " has at most some twenty fields", fields <= 20 ? 1 : 0, 1);
        }
    }

    private static int everyCall(RingOffices x) {
        int sum = x.load() + x.append(1, 2, 3, 4, 5) + x.truncate(20) + x.errorPosition();
        sum += x.letter(0, 1, 2) + x.letter(0, 2, 3) + x.cancel(0, 0) + x.stray(2) + x.minute(20) + x.lose(0) + x.shut(2, 0);
        sum += x.shut(2, 1) + x.set(0, 0, 5) + x.rule(0, 7) + x.keep(0) + x.restore(0) + x.undo() + x.value(8) + x.office(0, 8);
        sum += x.queue(0, 0, 2) + x.token(0, 0) + x.winner() + x.round() + x.busiest() + x.why(0) + x.comesIn(2) + x.doneIn();
        sum += x.ifPassed(300, 0) + x.ifRule(2, 1, 300, 1) + x.ifShut(0, 300, 2) + x.bestSpeak(300) + x.leastQuota();
        sum += x.log(0, 0) + (int) x.spoken() + (int) x.meanLength() + x.listLength() + x.listByte(5) + x.setupLength();
        return sum + x.setupByte(60) + Check.load(x, "speak 6 quiet 1 quota 30;office 2 40;office 3 70;office 1 20;token 0;");
    }

    private static void noObjects() {
        if (!(ManagementFactory.getThreadMXBean() instanceof com.sun.management.ThreadMXBean)) return;
        com.sun.management.ThreadMXBean threads = (com.sun.management.ThreadMXBean) ManagementFactory.getThreadMXBean();
        RingOffices x = new RingOffices();
        long self = Thread.currentThread().getId();
        int sum = 0;
        for (int i = 0; i < 20; i++) sum += everyCall(x);
        long before = threads.getThreadAllocatedBytes(self);
        for (int i = 0; i < 500; i++) sum += everyCall(x);
        long used = threads.getThreadAllocatedBytes(self) - before;
        // One small object a round would come to 8000 bytes at least; asking itself may take some.
        Check.due("calls make no objects; they made bytes: " + used + " (" + sum + ")", used < 4000 ? 1 : 0, 1);
    }

    private static void text(String source) {
        Check.due("signs are 1 to 127", source.chars().allMatch(c -> c > 0 && c < 128) ? 1 : 0, 1);
        String[] lines = source.split("\n");
        StringBuilder bare = new StringBuilder();
        boolean inside = false;
        for (String line : lines) {
            String code = line.strip();
            if (code.startsWith("/*")) inside = true;
            if (!inside && !code.startsWith("//")) bare.append(line).append('\n');
            if (code.endsWith("*/")) inside = false;
        }
        for (String word : new String[] {"import", "package", "->", "::", "catch", "throw", "finally", "synchronized", "assert",
            "instanceof", "protected", "Exact(", "System.nano", "System.current", "Random", "float[", "static {"}) {
            Check.due("[" + word + "] in the text", bare.indexOf(word), -1);
        }
        Matcher method = Pattern.compile("^( {8}| {4})(?=\\S)(?!return|else|if|for|while)[\\w\\[\\] ]+\\([^;]*\\) \\{$", Pattern.MULTILINE).matcher(bare);
        int methods = 0;
        while (method.find()) {
            int end = bare.indexOf("\n" + method.group(1) + "}", method.end());
            long length = bare.substring(method.start(), end).lines().count() + 1;
            Check.due(method.group() + " has some sixty lines at most: " + length, length <= 60 ? 1 : 0, 1);
            methods++;
        }
        Check.due("methods that were looked at", methods > 100 ? 1 : 0, 1);
    }
}
