/** Promises 1 to 5 and 35 to 38: the new object, the tape, the setup text, the list. */
public final class TextsTest {
    private static final String RULES = "speak 6 quiet 4 quota 9;";
    private static final String TWO = RULES + "office 1 5;office 2 6;";

    public static void main(String[] args) {
        newObject();
        append();
        truncate();
        load();
        loadReplacesEverything();
        loadThatFails();
        errorPositions();
        ranges();
        tooMany();
        list();
        setup();
        longestTexts();
        Check.end("TextsTest");
    }

    private static void newObject() {
        RingOffices x = new RingOffices();
        Check.dueText("new: list", Check.list(x), "0:40@1\n1:70\n2:20\n");
        Check.dueText("new: setup", Check.setup(x),
            "speak 6 quiet 10 quota 30;office 2 40;office 3 70;office 1 20;token 0;");
        Check.dueText("new: as loaded", Check.all(x), Check.all(Check.made(Check.setup(x))));
        Check.due("new: errorPosition", x.errorPosition(), RingOffices.NOT_FOUND);
        Check.due("new: tape", x.truncate(1), RingOffices.INVALID);
        Check.due("new: slot 0", x.restore(0), RingOffices.NOT_FOUND);
        Check.due("new: slot 1", x.restore(1), RingOffices.NOT_FOUND);
        Check.due("new: undo", x.undo(), RingOffices.INVALID);
        Check.due("new: the next NUMBER", x.stray(1), 2);
    }

    private static void append() {
        RingOffices x = new RingOffices();
        // "speak 1 quiet 1quota", its bytes in order, the most significant first
        Check.due("append", x.append(0x73706561, 0x6b203120, 0x71756965, 0x74203171, 0x756f7461), 20);
        Check.write(x, "1;office 1 1;office 1 2;");
        Check.due("append: load", x.load(), 2);
        for (int i = 1; i <= 60; i++) Check.due("append " + i, x.append(0x20202020, 0x20202020, 0x20202020, 0x20202020, 0x20202020), 20 * i);
        Check.due("append: too much", x.append(0, 0, 0, 0, 0), RingOffices.INVALID);
        Check.due("append: nothing is appended", x.truncate(0), 1200);
        Check.due("append: one byte less", x.truncate(1), 1199);
        Check.due("append: still too much", x.append(0, 0, 0, 0, 0), RingOffices.INVALID);
        Check.due("append: room again", x.truncate(18), 1181);
        Check.due("append: one byte too much", x.append(0, 0, 0, 0, 0), RingOffices.INVALID);
        Check.due("append: room again", x.truncate(1), 1180);
        Check.due("append: fits", x.append(-1, -1, -1, -1, -1), 1200);
        Check.due("append: load", x.load(), RingOffices.INVALID);
        Check.due("append: bytes 255 are none", x.errorPosition(), 1180);
    }

    private static void truncate() {
        RingOffices x = new RingOffices();
        Check.write(x, TWO);
        int length = TWO.length();
        Check.due("truncate(-1)", x.truncate(-1), RingOffices.INVALID);
        Check.due("truncate(least)", x.truncate(Integer.MIN_VALUE), RingOffices.INVALID);
        Check.due("truncate(length + 1)", x.truncate(length + 1), RingOffices.INVALID);
        Check.due("truncate(greatest)", x.truncate(Integer.MAX_VALUE), RingOffices.INVALID);
        Check.due("truncate(0)", x.truncate(0), length);
        Check.due("truncate(11)", x.truncate(11), length - 11);
        Check.write(x, "office 3 7;");
        Check.due("truncate: the last ones went", x.load(), 2);
        Check.dueText("truncate: setup", Check.setup(x), RULES + "office 1 5;office 3 7;");
        Check.write(x, TWO);
        Check.due("truncate(all)", x.truncate(length), 0);
        Check.due("truncate(1) of nothing", x.truncate(1), RingOffices.INVALID);
    }

    private static void load() {
        String[] good = {TWO, TWO + "token 1;", TWO + "letter 0 1 9;letter 0 1 1;letter 1 0 4;token 0;",
            RULES + "office 9 99 shut;office 1 1 shut;", RULES + "office 1 5;office 2 6 shut;letter 0 1 1;letter 1 0 2;"};
        for (String text : good) {
            RingOffices x = new RingOffices();
            Check.due("load [" + text + "]", Check.load(x, text), 2);
            Check.due("load: errorPosition", x.errorPosition(), RingOffices.NOT_FOUND);
            Check.due("load: tape", x.truncate(0), 0);
            Check.dueText("load: setup", Check.setup(x), text);
        }
        RingOffices x = Check.made("\n speak06quiet\n 99quota60 ;office\n9 01shut\n;office01 99;letter1 0 09 ; token1;\n ");
        Check.dueText("load: white space and zeros", Check.setup(x),
            "speak 6 quiet 99 quota 60;office 9 1 shut;office 1 99;letter 1 0 9;token 1;");
        StringBuilder ten = new StringBuilder(RULES);
        for (int o = 0; o < 10; o++) ten.append("office 1 ").append(o + 1).append(';');
        Check.due("load: 10 offices", Check.load(x, ten.toString()), 10);
        Check.due("load: a new TIME, letters that came", x.value(10), 0);
        Check.due("load: without a token the first NUMBER", x.stray(0), 1);
    }

    private static void loadReplacesEverything() {
        RingOffices x = new RingOffices();
        x.letter(0, 1, 5);
        x.minute(6);
        x.stray(2);
        x.stray(2);
        x.lose(0);
        x.letter(0, 2, 5);
        x.cancel(0, 0);
        x.keep(0);
        x.keep(1);
        x.lose(0);
        x.minute(12);
        // What was only tried must leave nothing behind for a setup.
        x.shut(0, 0);
        x.ifPassed(30, 0);
        String text = TWO + "letter 0 1 3;letter 1 0 4;token 1;";
        Check.due("load: replaces", Check.load(x, text), 2);
        Check.dueText("load: as on a new object", Check.all(x), Check.all(Check.made(text)));
        Check.due("load: letters of the setup came", x.value(10), 2);
        for (int what : new int[] {3, 7, 11, 12, 13, 14, 15, 16, 17, 18, 19, 20}) Check.due("load: value " + what, x.value(what), 0);
        for (int o = 0; o < 2; o++) Check.due("load: READ to it", x.office(o, 7), 0);
        Check.due("load: slot 0", x.restore(0), RingOffices.NOT_FOUND);
        Check.due("load: slot 1", x.restore(1), RingOffices.NOT_FOUND);
        Check.due("load: undo", x.undo(), RingOffices.INVALID);
        Check.due("load: NUMBERS begin again", x.stray(0), 2);
    }

    private static void loadThatFails() {
        RingOffices x = new RingOffices();
        x.letter(0, 1, 5);
        x.minute(2);
        x.keep(1);
        x.minute(1);
        String before = Check.all(x);
        Check.due("load of nothing", x.load(), RingOffices.INVALID);
        Check.due("load of nothing: errorPosition", x.errorPosition(), 0);
        Check.due("failed load", Check.load(x, TWO + "token 1;;"), RingOffices.INVALID);
        Check.due("failed load: errorPosition", x.errorPosition(), TWO.length() + 8);
        Check.due("failed load: tape", x.truncate(0), 0);
        Check.dueText("failed load: everything stays", Check.all(x), before);
        Check.due("failed load: what can be undone stays", x.value(20), 3);
        Check.due("failed load: undo", x.undo(), 2);
        Check.due("failed load: errorPosition stays at undo", x.errorPosition(), TWO.length() + 8);
        Check.due("failed load: slot 1", x.restore(1), 2);
        Check.due("failed load: slot 0", x.restore(0), RingOffices.NOT_FOUND);
        Check.due("good load behind it", Check.load(x, TWO), 2);
        Check.due("good load: errorPosition", x.errorPosition(), RingOffices.NOT_FOUND);
    }

    private static void errorPositions() {
        Check.fault("|");
        Check.fault("  \n|");
        Check.fault("|;");
        Check.fault("|office 1 1;");
        Check.fault("|speaks 1 quiet");
        Check.fault("|speakz");
        Check.fault("|zpeak 1 quiet 1");
        Check.fault("|Speak 1");
        Check.fault("|s");
        Check.fault("|spea k");
        Check.fault("speak |S");
        Check.fault("speak |quiet");
        Check.fault("speak 1 |1");
        Check.fault("speak |123 quiet");
        Check.fault("speak |006 quiet");
        Check.fault("speak 1|\t");
        Check.fault("speak 1|;");
        Check.fault("speak 1|x");
        Check.fault("speak 1 |quote 1");
        Check.fault("speak 1 |quota 1");
        Check.fault("speak 1 quiet 1 |quiet 1");
        Check.fault("speak 1 quiet 1 quota 1 |office");
        Check.fault("speak 1 quiet 1 quota 1|");
        Check.fault("speak 1 quiet 1 quota 1; \n |");
        Check.fault(RULES + "|letter 0 1 1;");
        Check.fault(RULES + "office 1 1;|letter 0 1 1;");
        Check.fault(RULES + "office 1 1;|token 0;");
        Check.fault(RULES + "office 1 1;|;");
        Check.fault(RULES + "office |shut 1 1;");
        Check.fault(RULES + "office 1 |shut 1;");
        Check.fault(RULES + "office 1 1 shut |shut;");
        Check.fault(RULES + "office 1 1 |1;");
        Check.fault(RULES + "office 1 1 |office");
        Check.fault(RULES + "office 1 1;office 1 |1;");
        Check.fault(RULES + "office 1 1 shut;office 1 |01;");
        Check.fault(RULES + "office 1 1;office 1 2;office 1 |2;");
        Check.fault(RULES + "office 1 1;office 1 2|:");
        Check.fault(TWO + "|shut;");
        Check.fault(TWO + "|7");
        Check.fault(TWO + "|speak 6");
        Check.fault(TWO + "letter 0 1 1|");
        Check.fault(TWO + "letter 0 1 1 |token 0;");
        Check.fault(TWO + "letter 0 1 1;|office 1 1;");
        Check.fault(TWO + "letter 0 |0 1;");
        Check.fault(TWO + "letter 1 |01 1;");
        Check.fault(TWO + "letter |;");
        Check.fault(TWO + "token |;");
        Check.fault(TWO + "token 0|");
        Check.fault(TWO + "token 0 |0");
        Check.fault(TWO + "token 0;|token 1;");
        Check.fault(TWO + "token 0;|letter 0 1 1;");
        Check.fault(TWO + "token 0;|office 1 1;");
        Check.fault(TWO + "token 0;|.");
        Check.fault(TWO + "|{");
        Check.fault(TWO + "|`");
        Check.fault(TWO + "|/");
        Check.fault(TWO + "|:");
        Check.fault(TWO + "|" + (char) 0);
        Check.fault(TWO + "|" + (char) 160);
        Check.fault(TWO + "|\r\n");
        Check.fault(RULES + "office 1 5;office 2 6 shut;token |1;");
        Check.fault(RULES + "office 1 5 shut;office 2 6;token |0;");
        Check.fault("|speak" + "a".repeat(1100));
        Check.fault("speak |" + "1".repeat(1100));
        Check.fault(" ".repeat(1200) + "|");
    }

    private static void ranges() {
        String[] ahead = {"speak ", "speak 1 quiet ", "speak 1 quiet 1 quota ", RULES + "office ", RULES + "office 1 ",
            TWO + "letter ", TWO + "letter 1 ", TWO + "letter 0 1 ", TWO + "token "};
        String[] behind = {" quiet 1 quota 1;office 1 1;office 1 2;", " quota 1;office 1 1;office 1 2;",
            ";office 1 1;office 1 2;", " 1;office 1 2;", ";office 1 2;", " 0 1;", " 1;", ";", ";"};
        int[] least = {1, 1, 1, 1, 1, 1, 0, 1, 0};
        int[] most = {20, 99, 60, 9, 99, 1, 0, 9, 1};
        for (int i = 0; i < ahead.length; i++) {
            RingOffices x = new RingOffices();
            Check.due(ahead[i] + least[i], Check.load(x, ahead[i] + least[i] + behind[i]), 2);
            Check.due(ahead[i] + most[i], Check.load(x, ahead[i] + most[i] + behind[i]), 2);
            // A letter of the office 0 may stand as such; here its TO is what can't.
            if (least[i] > 0 && i != 5) Check.fault(ahead[i] + "|0" + behind[i]);
            if (least[i] > 0 && i != 5) Check.fault(ahead[i] + "|00" + behind[i]);
            Check.fault(ahead[i] + "|" + (most[i] + 1) + behind[i]);
            Check.fault(ahead[i] + "|1000" + behind[i]);
            Check.fault(ahead[i] + "|;");
            Check.fault(ahead[i] + "|");
        }
    }

    private static void tooMany() {
        StringBuilder text = new StringBuilder(RULES);
        for (int o = 0; o < 10; o++) text.append("office 1 ").append(o + 1).append(';');
        String ten = text.toString();
        Check.fault(ten + "|office 1 11;");
        Check.fault(ten + "letter |10 0 1;");
        Check.fault(ten + "letter 0 |10 1;");
        Check.fault(ten + "token |10;");
        for (int i = 0; i < 6; i++) text.append("letter 3 0 1;");
        Check.fault(text + "letter |3 0 1;");
        Check.fault(text + "letter |3");
        Check.fault(text + "letter 4 0 1;letter |3 0 1;");
        for (int o = 0; o < 10; o++) {
            for (int i = 0; i < 6; i++) if (o != 3) text.append("letter ").append(o).append(o == 0 ? " 1 1;" : " 0 1;");
        }
        RingOffices x = new RingOffices();
        Check.due("60 letters", Check.load(x, text + "token 9;"), 10);
        Check.due("60 letters came", x.value(10), 60);
        Check.due("60 letters in the queues", x.value(8), 60);
        Check.fault(text + "letter |9 0 1;");
        Check.fault(text + "letter |0 1 1;");
        Check.fault(text + "letter|");
        x = new RingOffices();
        Check.load(x, text.toString());
        StringBuilder again = new StringBuilder(TWO);
        for (int i = 0; i < 6; i++) again.append("letter 0 1 1;");
        Check.due("full queues of an earlier load do not count", Check.load(x, again.toString()), 2);
        Check.load(x, ten);
        Check.due("nor do open offices", Check.load(x, TWO + "token 2;"), RingOffices.INVALID);
        Check.due("nor do open offices: errorPosition", x.errorPosition(), TWO.length() + 6);
    }

    private static void list() {
        RingOffices x = Check.made(RULES + "office 1 5;office 2 99 shut;office 3 7;letter 0 1 9;letter 0 2 1;letter 1 0 4;token 2;");
        Check.dueText("list", Check.list(x), "0:5/9>1/1>2\n1:99x/4>0\n2:7@1\n");
        Check.due("listLength", x.listLength(), 28);
        Check.due("listByte(-1)", x.listByte(-1), RingOffices.INVALID);
        Check.due("listByte(least)", x.listByte(Integer.MIN_VALUE), RingOffices.INVALID);
        Check.due("listByte(27)", x.listByte(27), 10);
        Check.due("listByte(28)", x.listByte(28), RingOffices.NOT_FOUND);
        Check.due("listByte(greatest)", x.listByte(Integer.MAX_VALUE), RingOffices.NOT_FOUND);
        x.stray(0);
        Check.dueText("list: two tokens", Check.list(x), "0:5/9>1/1>2@2\n1:99x/4>0\n2:7@1\n");
        x.minute(1);
        Check.dueText("list: tokens on the way are not in it", Check.list(x), "0:5/9>1/1>2\n1:99x/4>0\n2:7\n");
        for (int i = 0; i < 14; i++) {
            x.stray(0);
            x.lose(x.value(6) - 1);
        }
        x.stray(0);
        Check.dueText("list: a NUMBER of two digits", Check.list(x), "0:5/9>1/1>2@17\n1:99x/4>0\n2:7\n");
        x = new RingOffices();
        x.letter(0, 1, 3);
        x.minute(2);
        Check.dueText("list: the LENGTH of what is being read out", Check.list(x), "0:40/3>1@1\n1:70\n2:20\n");
    }

    /** The longest texts that there are: 980 bytes of setup, ten lines of six letters each. */
    private static void longestTexts() {
        StringBuilder setup = new StringBuilder("speak 20 quiet 99 quota 60;");
        for (int o = 0; o < 10; o++) setup.append("office 9 ").append(90 + o).append(o < 9 ? " shut;" : ";");
        StringBuilder list = new StringBuilder();
        for (int o = 0; o < 10; o++) {
            list.append(o).append(':').append(90 + o).append(o < 9 ? "x" : "");
            for (int i = 0; i < 6; i++) {
                setup.append("letter ").append(o).append(' ').append((o + 1) % 10).append(" 9;");
                list.append("/9>").append((o + 1) % 10);
            }
            list.append(o < 9 ? "\n" : "@1\n");
        }
        setup.append("token 9;");
        RingOffices x = new RingOffices();
        Check.due("the longest setup", Check.load(x, setup.toString()), 10);
        Check.dueText("the longest setup", Check.setup(x), setup.toString());
        Check.due("setupLength", x.setupLength(), 980);
        Check.dueText("its list", Check.list(x), list.toString());
    }

    private static void setup() {
        RingOffices x = Check.made(TWO + "letter 1 0 3;letter 0 1 9;letter 1 0 2;");
        String offices = TWO + "letter 0 1 9;letter 1 0 3;letter 1 0 2;";
        Check.dueText("setup: letters by offices, no token", Check.setup(x), offices);
        Check.due("setupLength", x.setupLength(), offices.length());
        Check.due("setupByte(-1)", x.setupByte(-1), RingOffices.INVALID);
        Check.due("setupByte(length - 1)", x.setupByte(offices.length() - 1), ';');
        Check.due("setupByte(length)", x.setupByte(offices.length()), RingOffices.NOT_FOUND);
        Check.due("setupByte(greatest)", x.setupByte(Integer.MAX_VALUE), RingOffices.NOT_FOUND);
        x.stray(0);
        x.minute(1);
        Check.dueText("setup: a token on the way", Check.setup(x), offices);
        x.stray(1);
        Check.dueText("setup: the token that stands", Check.setup(x), offices + "token 1;");
        x.stray(0);
        x.lose(0);
        Check.dueText("setup: the first of two", Check.setup(x), offices + "token 1;");
        x.minute(1);
        Check.dueText("setup: while one is speaking", Check.setup(x), offices + "token 1;");
        x.set(0, 0, 9);
        x.set(1, 1, 10);
        x.shut(1, 0);
        x.rule(0, 20);
        x.rule(1, 99);
        x.rule(2, 60);
        Check.dueText("setup: what was set", Check.setup(x),
            "speak 20 quiet 99 quota 60;office 9 5;office 2 10 shut;letter 0 1 9;letter 1 0 3;letter 1 0 2;");
    }
}
