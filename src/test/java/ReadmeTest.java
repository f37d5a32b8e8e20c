import java.io.IOException;
import java.nio.file.Files;
import java.nio.file.Path;

/** The examples of README.md: they answer what it says, and each of its lines of Java stands here, too. */
public final class ReadmeTest {
    public static void main(String[] args) throws IOException {
        String root = args.length > 0 ? args[0] : ".";
        RingOffices ring = calls();
        setups(ring);
        lines(Files.readString(Path.of(root, "README.md")), Files.readString(Path.of(root, "src/test/java/ReadmeTest.java")));
        Check.end("ReadmeTest");
    }

    private static RingOffices calls() {
        RingOffices ring = new RingOffices();
        int waiting = ring.letter(0, 1, 4);
        int why = ring.why(0);
        int done = ring.doneIn();
        int read = ring.minute(10);
        int where = ring.token(0, 1);
        int left = ring.undo();
        Check.due("waiting", waiting, 1);
        Check.due("why", why, 6);
        Check.due("done", done, 5);
        Check.due("read", read, 1);
        Check.due("where", where, 2);
        Check.due("left", left, 1);
        return ring;
    }

    static int four(String text, int i) {
        int four = 0;
        for (int k = i; k < i + 4; k++) four = four << 8 | (k < text.length() ? text.charAt(k) : ' ');
        return four;
    }

    static int load(RingOffices ring, String text) {
        int length = 0;
        for (int i = 0; i < text.length(); i += 20) {
            length = ring.append(four(text, i), four(text, i + 4), four(text, i + 8), four(text, i + 12), four(text, i + 16));
        }
        ring.truncate(length - text.length());
        return ring.load();
    }

    private static void setups(RingOffices ring) {
        int offices = load(ring, "speak 6 quiet 4 quota 9;office 1 5;office 2 6 shut;letter 0 1 3;token 0;");
        int wrong = load(ring, "speak 6 quiet 4 quota 99;");
        int position = ring.errorPosition();
        Check.due("offices", offices, 2);
        Check.due("wrong", wrong, RingOffices.INVALID);
        Check.due("position", position, 22);
        StringBuilder list = new StringBuilder();
        for (int i = 0; i < ring.listLength(); i++) list.append((char) ring.listByte(i));
        Check.dueText("list", list.toString(), "0:5/3>1@1\n1:6x\n");
    }

    private static void lines(String readme, String source) {
        boolean isJava = false;
        int looked = 0;
        for (String line : readme.split("\n")) {
            if (line.startsWith("```")) {
                isJava = line.equals("```java");
                continue;
            }
            String code = line.split(" // ", 2)[0].strip();
            if (!isJava || code.isEmpty()) continue;
            looked++;
            Check.due("[" + code + "] stands in ReadmeTest", source.contains(code + "\n") ? 1 : 0, 1);
        }
        Check.due("lines of Java in README.md: " + looked, looked > 20 ? 1 : 0, 1);
    }
}
