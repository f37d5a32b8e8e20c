import java.util.HashSet;
import java.util.Set;

/** Sentence by sentence, each on new objects: promises 1 to 5 and 35 to 38, and section 6 of the terms. */
public final class EdgesOfTextsTest {
    private static final int INVALID = RingOffices.INVALID;
    private static final int NOT_FOUND = RingOffices.NOT_FOUND;
    private static final String RULES = "speak 6 quiet 4 quota 9;";
    private static final String TWO = RULES + "office 1 5;office 2 6;";
    private static final String FULL_TEXT = TWO + "letter 0 1 3;letter 1 0 4;token 1;";

    public static void main(String[] args) {
        newObject();
        append();
        truncate();
        load();
        errorPosition();
        whiteSpace();
        words();
        numerals();
        signs();
        grammar();
        endTooEarly();
        outOfRange();
        takenAndTooMany();
        list();
        setup();
        Check.end("EdgesOfTextsTest");
    }

    private static String offices(int many) {
        StringBuilder text = new StringBuilder(RULES);
        for (int o = 0; o < many; o++) text.append("office 1 ").append(o + 1).append(';');
        return text.toString();
    }

    // ---- promise 1

    private static void newObject() {
        Check.about("1", "Creates a ring as by the setup text ..");
        String text = "speak 6 quiet 10 quota 30;office 2 40;office 3 70;office 1 20;token 0;";
        Check.dueText("the setup text", Check.setup(new RingOffices()), text);
        Check.dueText("what is told", Check.all(new RingOffices()), Check.all(Check.made(text)));
        Check.due("NUMBER of its token", new RingOffices().token(0, 0), 1);
        Check.due("NUMBER of the next token", new RingOffices().stray(1), 2);
        Check.about("1", "the log, the slots and the tape are empty");
        Check.due("entries", new RingOffices().value(19), 0);
        Check.due("the entry 0", new RingOffices().log(0, 0), NOT_FOUND);
        Check.due("slot 0", new RingOffices().restore(0), NOT_FOUND);
        Check.due("slot 1", new RingOffices().restore(1), NOT_FOUND);
        Check.due("length of the tape", new RingOffices().truncate(0), 0);
        Check.due("one byte of the tape", new RingOffices().truncate(1), INVALID);
        Check.due("load of the tape", new RingOffices().load(), INVALID);
        Check.about("1", "a new object has done no operation");
        Check.due("undo", new RingOffices().undo(), INVALID);
        Check.about("1", "each object is one by itself");
        RingOffices x = new RingOffices();
        RingOffices y = new RingOffices();
        x.letter(0, 1, 3);
        x.keep(0);
        Check.write(x, TWO);
        Check.dueText("another object", Check.all(y), Check.all(new RingOffices()));
        Check.due("tape of another object", y.truncate(0), 0);
        Check.due("slot of another object", y.restore(0), NOT_FOUND);
    }

    // ---- promises 2 and 3

    private static int appendSpaces(RingOffices x) {
        return x.append(0x20202020, 0x20202020, 0x20202020, 0x20202020, 0x20202020);
    }

    private static void append() {
        Check.about("2", "the four bytes of a, most significant byte first, then those of b, c, d and e");
        for (int place = 0; place < 20; place++) {
            RingOffices x = new RingOffices();
            int[] five = new int[5];
            for (int k = 0; k < 20; k++) five[k / 4] = five[k / 4] << 8 | (k == place ? 'x' : ' ');
            x.append(five[0], five[1], five[2], five[3], five[4]);
            x.load();
            Check.due("where the byte " + place + " is", x.errorPosition(), place);
        }
        Check.about("2", "a byte may be 0 to 255");
        for (int one : new int[] {0, 31, 33, 127, 128, 159, 160, 255}) {
            RingOffices x = new RingOffices();
            x.append(one << 24 | 0x202020, 0x20202020, 0x20202020, 0x20202020, 0x20202020);
            x.load();
            Check.due("byte " + one, x.errorPosition(), 0);
        }
        Check.about("2", "Returns the new length of the tape");
        RingOffices x = new RingOffices();
        for (int length = 20; length <= 1200; length += 20) Check.due("append", appendSpaces(x), length);
        Check.about("2", "INVALID if it would exceed 1200 bytes (nothing is appended)");
        Check.due("append to 1200", x.append('x', 'x', 'x', 'x', 'x'), INVALID);
        Check.due("length", x.truncate(0), 1200);
        x.truncate(19);
        Check.due("append to 1181", x.append('x', 'x', 'x', 'x', 'x'), INVALID);
        Check.due("length", x.truncate(0), 1181);
        Check.due("load", x.load(), INVALID);
        Check.due("spaces alone: the text ends too early", x.errorPosition(), 1181);
        for (int i = 0; i < 60; i++) appendSpaces(x);
        x.truncate(20);
        Check.due("append to 1180", x.append(0x20202020, 0x20202020, 0x20202020, 0x20202020, 0x20202021), 1200);
        x.load();
        Check.due("the byte 1199", x.errorPosition(), 1199);
    }

    private static void truncate() {
        Check.about("3", "Removes the last bytes of the tape.");
        RingOffices x = new RingOffices();
        Check.write(x, TWO + "abcde");
        x.truncate(5);
        Check.due("load", x.load(), 2);
        Check.about("3", "Returns the new length of the tape");
        Check.write(x, TWO);
        Check.due("truncate(1)", x.truncate(1), TWO.length() - 1);
        Check.due("truncate(3)", x.truncate(3), TWO.length() - 4);
        Check.about("3", "n: number of bytes, 0 to the length of the tape");
        Check.due("truncate(0)", x.truncate(0), TWO.length() - 4);
        Check.due("truncate(length)", x.truncate(TWO.length() - 4), 0);
        Check.due("truncate(0) of an empty tape", x.truncate(0), 0);
        Check.about("3", "INVALID if n is out of range");
        Check.due("truncate(1) of an empty tape", x.truncate(1), INVALID);
        for (int odd : new int[] {-1, TWO.length() + 1, Check.LEAST, Check.GREATEST}) {
            x = new RingOffices();
            Check.write(x, TWO);
            Check.due("truncate(" + odd + ")", x.truncate(odd), INVALID);
            Check.due("nothing is removed", x.truncate(0), TWO.length());
            Check.due("load", x.load(), 2);
        }
    }

    // ---- promises 4 and 5

    /** An object whose every count, slot and undo has something. */
    private static RingOffices busy() {
        RingOffices x = new RingOffices();
        x.letter(0, 1, 2);
        x.letter(0, 2, 2);
        x.letter(0, 2, 1);
        x.cancel(0, 2);
        x.shut(2, 0);
        x.minute(4);
        x.minute(4);
        x.stray(1);
        x.stray(1);
        x.letter(1, 0, 3);
        x.letter(2, 0, 3);
        x.shut(2, 1);
        x.stray(2);
        x.minute(2);
        x.keep(0);
        x.keep(1);
        for (int i = 0; i < 3; i++) x.lose(0);
        x.minute(19);
        x.lose(0);
        x.minute(3);
        return x;
    }

    private static void load() {
        Check.about("4", "Returns the number of offices");
        for (int many = 2; many <= 10; many++) Check.good(offices(many), many);
        Check.about("4", "the tape is empty afterwards");
        RingOffices x = new RingOffices();
        Check.load(x, TWO);
        Check.due("length behind a good load", x.truncate(0), 0);
        Check.load(x, "office");
        Check.due("length behind a load with an error", x.truncate(0), 0);
        loadWithError();
        loadReplaces();
        loadOfFewer();
        Check.about("4", "the log and the slots are empty");
        x = busy();
        Check.load(x, TWO);
        Check.due("entries", x.value(19), 0);
        Check.due("the entry 0", x.log(0, 0), NOT_FOUND);
        Check.due("slot 0", x.restore(0), NOT_FOUND);
        Check.due("slot 1", x.restore(1), NOT_FOUND);
        Check.about("4", "nothing can be undone");
        x = busy();
        Check.due("ahead of the load", x.value(20), 8);
        Check.load(x, TWO);
        Check.due("operations that can be undone", x.value(20), 0);
        Check.due("undo", x.undo(), INVALID);
        x.letter(0, 1, 1);
        Check.due("undo of what came behind it", x.undo(), 0);
        Check.due("undo of what came ahead of it", x.undo(), INVALID);
    }

    private static void loadWithError() {
        Check.about("4", "INVALID on an error");
        Check.due("an error in the last byte", Check.load(new RingOffices(), FULL_TEXT + ";"), INVALID);
        Check.about("4", "On an error everything but the tape and the error position stays.");
        for (String text : new String[] {"", "x", RULES, FULL_TEXT + "x", TWO + "letter 0 1 3;letter 0 0 1;", TWO + "token 2;"}) {
            RingOffices x = busy();
            String before = Check.all(x);
            Check.load(x, text);
            Check.dueText("what is told", Check.all(x), before);
            Check.due("operations that can be undone", x.value(20), 8);
            Check.due("undo", x.undo(), 7);
            Check.dueText("what undo brings back", Check.setup(x), Check.setup(undone(busy())));
            Check.due("slot 0", x.restore(0), 10);
            Check.due("slot 1", x.restore(1), 10);
        }
    }

    private static RingOffices undone(RingOffices x) {
        x.undo();
        return x;
    }

    private static void loadReplaces() {
        Check.about("4", "Otherwise everything is replaced (TIME, SILENCE and all counts are 0)");
        RingOffices x = busy();
        // No count is 0 ahead of it, so that none could be forgotten.
        for (int what : new int[] {3, 7, 10, 11, 12, 13, 14, 15, 16, 17, 18, 19, 20}) {
            Check.due("value(" + what + ") ahead of it is not 0", x.value(what) > 0 ? 1 : 0, 1);
        }
        Check.due("letters that were READ to the office 1", x.office(1, 7), 1);
        Check.load(x, TWO);
        Check.dueText("what is told", Check.all(x), Check.all(Check.made(TWO)));
        for (int what : new int[] {3, 7, 10, 11, 12, 13, 14, 15, 16, 17, 18}) Check.due("value(" + what + ")", x.value(what), 0);
        for (int o = 0; o < 2; o++) {
            Check.due("READ to it", x.office(o, 7), 0);
            Check.due("SPOKEN", x.office(o, 3), 0);
        }
        Check.due("tokens", x.value(6), 0);
        Check.due("the greatest NUMBER so far begins again", x.stray(1), 1);
        Check.about("17", "10 letters that came so far (of the setup, too)");
        Check.due("letters that came", Check.made(FULL_TEXT).value(10), 2);
        Check.about("6 of the terms", "the office AT which the token 1 is (without it there is none)");
        Check.dueText("the token 1", Check.tokens(Check.made(FULL_TEXT)), "1 1 0 0 0;");
        Check.due("no token", Check.made(TWO).value(6), 0);
    }

    /** Ten offices with six letters each, some of which were READ, and with all foresight asked for. */
    private static RingOffices tenFull() {
        StringBuilder text = new StringBuilder("speak 20 quiet 4 quota 60;");
        for (int o = 0; o < 10; o++) text.append("office 9 ").append(o + 90).append(';');
        for (int o = 0; o < 10; o++) text.append(letters(o, 6));
        RingOffices x = Check.made(text + "token 9;");
        for (int o = 8; o >= 7; o--) x.stray(o);
        x.minute(9);
        x.shut(1, 0);
        x.ifPassed(9, 0);
        return x;
    }

    private static void loadOfFewer() {
        Check.about("4", "Otherwise everything is replaced: also the offices that are no more");
        RingOffices x = tenFull();
        Check.load(x, TWO);
        Check.dueText("what is told", Check.all(x), Check.all(Check.made(TWO)));
        Check.due("READ, if minutes pass", x.ifPassed(300, 0), 0);
        Check.due("the office 2", x.office(2, 0), INVALID);
        Check.due("a NAME that another one had", x.set(0, 1, 98), 5);
        Check.load(x, offices(10));
        Check.dueText("ten offices again", Check.all(x), Check.all(Check.made(offices(10))));
        x = tenFull();
        Check.load(x, TWO + "letter 0 1 3;letter 1 0 4;letter 1 0 9;token 1;");
        Check.dueText("with letters", Check.all(x), Check.all(Check.made(TWO + "letter 0 1 3;letter 1 0 4;letter 1 0 9;token 1;")));
        x = tenFull();
        Check.load(x, TWO + letters(0, 6));
        Check.due("queues that were full are empty", x.errorPosition(), NOT_FOUND);
        x = tenFull();
        Check.load(x, TWO + "token 2;");
        Check.due("an office that was open is none", x.errorPosition(), TWO.length() + 6);
        x = new RingOffices();
        x.lose(0);
        x.minute(3);
        x.ifPassed(2, 0);
        Check.load(x, TWO);
        Check.due("SILENCE, also as more of it was looked at", x.value(7), 0);
        x = tenFull();
        Check.load(x, RULES + "office 1 90;office 2 99;");
        Check.due("NAMES that were taken are free", x.errorPosition(), NOT_FOUND);
    }

    private static void errorPosition() {
        Check.about("5", "Returns the position");
        RingOffices x = new RingOffices();
        Check.load(x, "speak 6 office");
        Check.due("errorPosition", x.errorPosition(), 8);
        Check.due("errorPosition, asked again", x.errorPosition(), 8);
        Check.about("5", "of the latest load");
        Check.load(x, "office");
        Check.due("errorPosition", x.errorPosition(), 0);
        Check.about("5", "NOT_FOUND if that load succeeded");
        Check.load(x, TWO);
        Check.due("errorPosition", x.errorPosition(), NOT_FOUND);
        Check.about("5", "NOT_FOUND if .. there was no load");
        Check.due("errorPosition", new RingOffices().errorPosition(), NOT_FOUND);
        x = new RingOffices();
        Check.write(x, "office");
        Check.due("errorPosition with a tape", x.errorPosition(), NOT_FOUND);
    }

    // ---- section 6: tokens of the text

    private static void whiteSpace() {
        Check.about("6 of the terms", "White space (bytes 32 and 10) may stand before the first one");
        Check.good(" " + TWO, 2);
        Check.good("\n" + TWO, 2);
        Check.good("\n \n  " + TWO, 2);
        Check.about("6 of the terms", "between any two");
        for (String space : new String[] {" ", "\n", " \n", "\n\n  "}) {
            Check.good(FULL_TEXT.replace(" ", space).replace(";", space + ";" + space), 2);
            Check.good(TWO.replace("5;", "5" + space + "shut" + space + ";"), 2);
        }
        Check.about("6 of the terms", "and after the last one");
        Check.good(TWO + " ", 2);
        Check.good(TWO + "\n", 2);
        Check.good(FULL_TEXT + "\n\n \n", 2);
        Check.about("6 of the terms", "no other byte is white space");
        for (int one = 0; one < 256; one++) {
            if (one == ' ' || one == '\n') continue;
            Check.fault("|" + (char) one + TWO);
            Check.fault(TWO + "|" + (char) one);
        }
        Check.fault("speak|\t6 quiet 4 quota 9;office 1 5;office 2 6;");
        Check.fault("speak 6|\rquiet 4 quota 9;office 1 5;office 2 6;");
        Check.fault("speak 6 quiet 4 quota 9|" + (char) 160 + ";office 1 5;office 2 6;");
        Check.about("6 of the terms", "white space alone is no setup");
        Check.fault(" ".repeat(1200) + "|");
    }

    private static void words() {
        Check.about("6 of the terms", "Tokens of the text are formed greedily.");
        Check.good("speak6quiet4quota9;office1 5shut;office2 6;letter0 1 3;token1;", 2);
        Check.fault("|speakquiet");
        Check.fault(TWO.substring(0, TWO.length() - 1) + " |shutoffice 1 1;");
        Check.about("6 of the terms", "A maximal run of the letters a to z is a word; it must be a keyword");
        Check.fault("|spea");
        Check.fault("|speaks 6 quiet 4");
        Check.fault("|speaka");
        Check.fault("|aspeak 6");
        Check.fault("speak 6 |quit 4");
        Check.fault("speak 6 quiet 4 |quote 9;");
        Check.fault(RULES + "office 1 5;|offices 2 6;");
        Check.fault(RULES + "office 1 5 |shutz;office 2 6;");
        Check.fault(TWO + "|letters 0 1 3;");
        Check.fault(TWO + "|tokenz 0;");
        Check.fault(TWO + "|tokeN 0;");
        Check.fault("|speak" + "k".repeat(1190));
        String[] keywords = {"speak", "quiet", "quota", "office", "shut", "letter", "token"};
        String[] ahead = {"", "speak 6 ", "speak 6 quiet 4 ", RULES, RULES + "office 1 5", TWO, TWO};
        for (int k = 0; k < keywords.length; k++) {
            // With another letter in each place, with one less, and with one more at either end.
            for (int place = 0; place < keywords[k].length(); place++) {
                String other = keywords[k].substring(0, place) + "x" + keywords[k].substring(place + 1);
                Check.fault(ahead[k] + "|" + other + " 6;");
                Check.fault(ahead[k] + "|" + other.replace("x", "") + " 6;");
            }
            Check.fault(ahead[k] + "|" + keywords[k] + "a 6;");
            Check.fault(ahead[k] + "|z" + keywords[k] + " 6;");
        }
        Check.about("2 and 6 of the terms", "a word, an INT or a semicolon may end a tape of 1200 bytes");
        String spaces = " ".repeat(1200);
        Check.fault(spaces.substring(5) + "speak|");
        Check.fault(spaces.substring(6) + "speak6|");
        Check.fault(spaces.substring(7) + "speak06|");
        Check.fault(spaces.substring(4) + "|spea");
        Check.fault(spaces.substring(8) + "speak|006");
        Check.good(spaces.substring(TWO.length()) + TWO, 2);
        Check.about("6 of the terms", "the letters a to z: not the signs beside them, and no capital ones");
        Check.fault("|Speak 6");
        Check.fault("|SPEAK 6");
        Check.fault("speak|` 6");
        Check.fault("speak|{ 6");
        Check.fault("speak|A 6");
        Check.about("6 of the terms", "a keyword that the grammar has elsewhere cannot stand");
        for (String word : keywords) {
            if (!word.equals("speak")) Check.fault("|" + word + " 6 quiet 4 quota 9;office 1 5;office 2 6;");
            if (!word.equals("quiet")) Check.fault("speak 6 |" + word + " 4 quota 9;office 1 5;office 2 6;");
            if (!word.equals("quota")) Check.fault("speak 6 quiet 4 |" + word + " 9;office 1 5;office 2 6;");
            Check.fault("speak |" + word);
            Check.fault("speak 6 quiet 4 quota 9 |" + word);
            if (!word.equals("office")) Check.fault(RULES + "|" + word + " 1 5;office 2 6;");
            if (!word.equals("office")) Check.fault(RULES + "office 1 5;|" + word + " 2 6;");
            Check.fault(RULES + "office |" + word);
            if (!word.equals("shut")) Check.fault(RULES + "office 1 5 |" + word);
            Check.fault(RULES + "office 1 5 shut |" + word);
            boolean mayFollow = word.equals("office") || word.equals("letter") || word.equals("token");
            if (!mayFollow) Check.fault(TWO + "|" + word + " 1 1;");
            Check.fault(TWO + "letter 0 1 3 |" + word);
            Check.fault(TWO + "token 0 |" + word);
            Check.fault(TWO + "token 0;|" + word);
        }
    }

    private static void numerals() {
        Check.about("6 of the terms", "A maximal run of digits is an INT; it has 1 or 2 digits.");
        Check.good("speak 06 quiet 04 quota 09;office 01 05;office 02 06;letter 00 01 03;token 01;", 2);
        Check.fault("speak |006 quiet 4");
        Check.fault("speak |123 quiet 4");
        Check.fault("speak 6 quiet |100 quota 9;");
        Check.fault("speak 6 quiet 4 quota |060;");
        Check.fault(RULES + "office |001 5;");
        Check.fault(RULES + "office 1 |005;");
        Check.fault(TWO + "letter |000 1 3;");
        Check.fault(TWO + "letter 0 |001 3;");
        Check.fault(TWO + "letter 0 1 |003;");
        Check.fault(TWO + "token |000;");
        Check.about("6 of the terms", "an INT is as long as its digits go: two of them are no two INTs");
        Check.fault(RULES + "office |15;office 2 6;");
        Check.fault(TWO + "letter |011;");
        Check.fault("speak |" + "0".repeat(1193) + "6");
        Check.fault("speak |" + "4294967302 quiet 4");
    }

    private static void signs() {
        Check.about("6 of the terms", "The semicolon is one by itself.");
        Check.fault("speak 6 quiet 4 quota 9;|;office 1 5;office 2 6;");
        Check.fault(TWO + "|;");
        Check.fault(TWO + "token 0;|;");
        Check.fault("|;");
        Check.about("6 of the terms", "Nothing else is one.");
        for (char sign : ".,:-+_/<=>!\"#'()*?@[]~".toCharArray()) {
            Check.fault("speak |" + sign + "6 quiet 4");
            Check.fault("speak 6 quiet 4 quota 9|" + sign);
            Check.fault(TWO + "token 0|" + sign);
        }
    }

    private static void grammar() {
        Check.about("6 of the terms", "\"speak\" INT \"quiet\" INT \"quota\" INT \";\"");
        Check.fault("speak 6|;");
        Check.fault("speak 6 |4 quota 9;");
        Check.fault("speak 6 quiet |quota 9;");
        Check.fault("speak 6 quiet 4 quota |;");
        Check.fault("speak 6 quiet 4 quota 9 |9;");
        Check.fault("speak 6 quiet 4 quota 9 |office 1 5;");
        Check.about("6 of the terms", "office office { office }: two offices at least");
        Check.fault(RULES + "|token 0;");
        Check.fault(RULES + "office 1 5;|letter 0 1 3;");
        Check.fault(RULES + "office 1 5;|token 0;");
        Check.good(TWO, 2);
        Check.about("6 of the terms", "office = \"office\" INT INT [ \"shut\" ] \";\"");
        Check.good(RULES + "office 1 5 shut;office 2 6 shut;", 2);
        Check.fault(RULES + "office 1|;");
        Check.fault(RULES + "office 1 |shut;");
        Check.fault(RULES + "office |shut 1 5;");
        Check.fault(RULES + "office 1 5 |5;");
        Check.fault(RULES + "office 1 5 shut |shut;");
        Check.fault(RULES + "office 1 5 shut |1;");
        Check.about("6 of the terms", "{ \"letter\" INT INT INT \";\" }");
        Check.good(TWO + "letter 0 1 3;", 2);
        Check.fault(TWO + "letter|;");
        Check.fault(TWO + "letter 0|;");
        Check.fault(TWO + "letter 0 1|;");
        Check.fault(TWO + "letter 0 1 3 |3;");
        Check.fault(TWO + "letter 0 1 3;|office 1 7;");
        Check.fault(TWO + "letter 0 1 3;|1 0 3;");
        Check.about("6 of the terms", "[ \"token\" INT \";\" ]: one at most, and nothing behind it");
        Check.good(TWO + "token 0;", 2);
        Check.fault(TWO + "token|;");
        Check.fault(TWO + "token 0 |0;");
        Check.fault(TWO + "token 0;|token 1;");
        Check.fault(TWO + "token 0;|letter 0 1 3;");
        Check.fault(TWO + "token 0;|office 1 7;");
        Check.about("6 of the terms", "The INTs are SPEAK, QUIET, QUOTA; WAY and NAME of an office; the office, TO and LENGTH of a letter");
        RingOffices x = Check.made("speak 1 quiet 2 quota 3;office 4 5;office 6 7 shut;office 8 9;letter 2 0 1;");
        for (int what = 0; what < 3; what++) Check.due("rule " + what, x.value(what), what + 1);
        for (int o = 0; o < 3; o++) {
            Check.due("WAY of " + o, x.office(o, 0), 4 + 2 * o);
            Check.due("NAME of " + o, x.office(o, 1), 5 + 2 * o);
            Check.due("open is " + o, x.office(o, 2), o == 1 ? 0 : 1);
        }
        Check.due("TO", x.queue(2, 0, 0), 0);
        Check.due("LENGTH", x.queue(2, 0, 1), 1);
        Check.about("6 of the terms", "the first of these that cannot stand where it stands");
        Check.fault("speak |0 quiet 0 quota 0;x");
        Check.fault(TWO + "letter 0 |0 0;token 9;");
    }

    private static void endTooEarly() {
        Check.about("6 of the terms", "it is the length of the text if the text ends too early");
        String text = "speak 6 quiet 4 quota 9;office 1 5 shut;office 2 6;letter 0 1 3;token 1;";
        // Behind each of these lengths a setup may end.
        Set<Integer> ends = new HashSet<>();
        for (String whole : new String[] {"office 2 6;", "letter 0 1 3;", "token 1;"}) ends.add(text.indexOf(whole) + whole.length());
        for (int length = 0; length <= text.length(); length++) {
            boolean cutsWord = length > 0 && length < text.length() && Character.isLetter(text.charAt(length - 1))
                && Character.isLetter(text.charAt(length));
            String part = text.substring(0, length);
            if (ends.contains(length)) Check.good(part, 2);
            else if (!cutsWord) Check.fault(part + "|");
        }
        Check.fault("|");
        Check.fault("speak 6 quiet \n |");
        Check.fault(TWO + "letter 0 1 3  |");
    }

    private static void outOfRange() {
        Check.about("6 of the terms", "an INT out of range");
        String[] ahead = {"speak ", "speak 6 quiet ", "speak 6 quiet 4 quota ", RULES + "office ", RULES + "office 1 ",
            TWO + "letter ", TWO + "letter 1 ", TWO + "letter 0 1 ", TWO + "token "};
        String[] behind = {" quiet 4 quota 9;office 1 5;office 2 6;", " quota 9;office 1 5;office 2 6;",
            ";office 1 5;office 2 6;", " 5;office 2 6;", ";office 2 6;", " 1 3;", " 3;", ";", ";"};
        int[] least = {1, 1, 1, 1, 1, 0, 0, 1, 0};
        int[] most = {20, 99, 60, 9, 99, 0, 0, 9, 1};
        for (int i = 0; i < ahead.length; i++) {
            Check.good(ahead[i] + least[i] + behind[i], 2);
            Check.good(ahead[i] + most[i] + behind[i], 2);
            if (least[i] == 1) Check.fault(ahead[i] + "|0" + behind[i]);
            if (least[i] == 1) Check.fault(ahead[i] + "|00" + behind[i]);
            // The greatest office of a letter is the other one's: 1 of 2.
            int above = ahead[i].endsWith("letter ") || ahead[i].endsWith("letter 1 ") ? 2 : most[i] + 1;
            if (above < 100) Check.fault(ahead[i] + "|" + above + behind[i]);
            Check.fault(ahead[i] + "|100" + behind[i]);
            if (most[i] < 99) Check.fault(ahead[i] + "|99" + behind[i]);
        }
        String ten = offices(10);
        Check.good(ten + "letter 9 0 1;letter 0 9 1;token 9;", 10);
        Check.fault(ten + "letter |10 0 1;");
        Check.fault(ten + "letter 0 |10 1;");
        Check.fault(ten + "token |10;");
    }

    private static String letters(int office, int many) {
        return ("letter " + office + " " + (office == 0 ? 1 : 0) + " 1;").repeat(many);
    }

    private static void takenAndTooMany() {
        Check.about("6 of the terms", "a NAME that an office has already");
        Check.fault(RULES + "office 1 5;office 2 |5;");
        Check.fault(RULES + "office 1 5;office 2 |05;");
        Check.fault(RULES + "office 1 5 shut;office 2 |5;");
        Check.fault(RULES + "office 1 5;office 2 6;office 3 |5;");
        Check.fault(RULES + "office 1 5;office 2 6;office 3 |6;");
        Check.fault(offices(9) + "office 1 |9;");
        Check.fault(offices(9) + "office 1 |1;");
        Check.good(RULES + "office 5 6;office 6 5;", 2);
        Check.about("6 of the terms", "the keyword of an 11th office");
        Check.good(offices(10), 10);
        Check.fault(offices(10) + "|office 1 11;");
        Check.fault(offices(10) + " |office");
        Check.about("6 of the terms", "the office of a 7th letter");
        Check.good(TWO + letters(0, 6), 2);
        Check.fault(TWO + letters(0, 6) + "letter |0 1 1;");
        Check.fault(TWO + letters(0, 6) + "letter |00 1 1;");
        Check.fault(TWO + letters(1, 6) + "letter |1 0 1;");
        Check.fault(TWO + letters(0, 6) + letters(1, 1) + "letter |0");
        Check.good(TWO + letters(0, 6) + letters(1, 6), 2);
        Check.fault(TWO + letters(0, 6) + letters(1, 6) + "letter |0 1 1;");
        StringBuilder all = new StringBuilder(offices(10));
        for (int o = 0; o < 10; o++) all.append(letters(o, 6));
        Check.good(all.toString(), 10);
        for (int o = 0; o < 10; o++) Check.fault(all + "letter |" + o + " 1 1;");
        Check.about("6 of the terms", "a TO that is the office itself");
        Check.fault(TWO + "letter 0 |0 1;");
        Check.fault(TWO + "letter 1 |1 1;");
        Check.fault(TWO + "letter 1 |01 1;");
        Check.fault(offices(10) + "letter 9 |9 1;");
        Check.about("6 of the terms", "the office of a token that is shut");
        Check.fault(RULES + "office 1 5 shut;office 2 6;token |0;");
        Check.fault(RULES + "office 1 5;office 2 6 shut;token |1;");
        Check.good(RULES + "office 1 5 shut;office 2 6;token 1;", 2);
        Check.good(RULES + "office 1 5 shut;office 2 6 shut;letter 0 1 1;letter 1 0 1;", 2);
    }

    // ---- promises 35 to 38

    private static void list() {
        String setup = RULES + "office 1 5;office 2 99 shut;office 3 7;letter 0 1 9;letter 0 2 1;letter 1 0 4;token 2;";
        String due = "0:5/9>1/1>2\n1:99x/4>0\n2:7@1\n";
        Check.about("35", "for each office a line: its number, a colon, its NAME, an x if it is shut, ..");
        Check.dueText("list", Check.list(Check.made(setup)), due);
        Check.about("35", "then, if a token is AT it, an at sign (byte 64) and its NUMBER");
        RingOffices x = new RingOffices();
        x.minute(1);
        Check.dueText("ON THE WAY to the office 1", Check.list(x), "0:40\n1:70\n2:20\n");
        x.minute(1);
        Check.dueText("one minute ahead of it", Check.list(x), "0:40\n1:70\n2:20\n");
        x.minute(1);
        Check.dueText("AT the office 1", Check.list(x), "0:40\n1:70@1\n2:20\n");
        x.stray(0);
        x.stray(2);
        Check.dueText("three tokens", Check.list(x), "0:40@2\n1:70@1\n2:20@3\n");
        for (int number = 4; number <= 100; number++) {
            x.lose(0);
            x.stray(0);
        }
        Check.dueText("a NUMBER of three digits", Check.list(x).substring(0, 9), "0:40@100\n");
        Check.about("35", "for each letter of its queue a slash, LENGTH, a greater-than sign and TO: LENGTH, not LEFT");
        x = new RingOffices();
        x.letter(0, 1, 3);
        x.minute(3);
        Check.dueText("while it is being read out", Check.list(x), "0:40/3>1@1\n1:70\n2:20\n");
        Check.about("35", "Returns the number of bytes.");
        Check.due("listLength", Check.made(setup).listLength(), due.length());
        Check.due("listLength of a new object", new RingOffices().listLength(), 17);
        x = Check.made(setup);
        Check.about("36", "position, from 0");
        for (int i = 0; i < due.length(); i++) Check.due("listByte(" + i + ")", x.listByte(i), due.charAt(i));
        Check.due("listByte(0) as the first call of all", new RingOffices().listByte(0), '0');
        Check.about("36", "INVALID for a negative i");
        Check.due("listByte(-1)", x.listByte(-1), INVALID);
        Check.due("listByte(least)", x.listByte(Check.LEAST), INVALID);
        Check.about("36", "NOT_FOUND if the list is not so long");
        Check.due("listByte(length)", x.listByte(due.length()), NOT_FOUND);
        Check.due("listByte(greatest)", x.listByte(Check.GREATEST), NOT_FOUND);
        x.setupLength();
        Check.due("listByte(length) behind a longer text", x.listByte(due.length()), NOT_FOUND);
    }

    private static void setup() {
        String offices = RULES + "office 1 5;office 2 60 shut;office 3 7;";
        Check.about("37", "the letters in the queues, by offices");
        RingOffices x = Check.made(offices + "letter 2 0 1;letter 0 1 9;letter 1 0 4;letter 0 2 1;");
        String text = offices + "letter 0 1 9;letter 0 2 1;letter 1 0 4;letter 2 0 1;";
        Check.dueText("setup", Check.setup(x), text);
        Check.about("38", "position, from 0");
        for (int i = 0; i < text.length(); i++) Check.due("setupByte(" + i + ")", x.setupByte(i), text.charAt(i));
        Check.about("38", "INVALID for a negative i");
        Check.due("setupByte(-1)", x.setupByte(-1), INVALID);
        Check.due("setupByte(least)", x.setupByte(Check.LEAST), INVALID);
        Check.about("38", "NOT_FOUND if the text is not so long");
        Check.due("setupByte(length)", x.setupByte(text.length()), NOT_FOUND);
        Check.due("setupByte(greatest)", x.setupByte(Check.GREATEST), NOT_FOUND);
        Check.due("setupByte(0) as the first call of all", new RingOffices().setupByte(0), 's');
        x.listLength();
        Check.due("setupByte(7) behind the list", x.setupByte(7), ' ');
        Check.about("37", "Returns the number of bytes.");
        Check.due("setupLength", x.setupLength(), text.length());
        Check.about("37", "INTs are in decimal without leading zeros");
        x = Check.made("speak 06 quiet 10 quota 09;office 01 05;office 02 60;letter 00 01 03;token 01;");
        Check.dueText("setup", Check.setup(x), "speak 6 quiet 10 quota 9;office 1 5;office 2 60;letter 0 1 3;token 1;");
        setupsToken();
        Check.about("37", "the setup text describes the ring: it can be loaded again");
        x = busy();
        String described = Check.setup(x);
        Check.dueText("setup of the setup", Check.setup(Check.made(described)), described);
    }

    private static void setupsToken() {
        Check.about("37", "if a token is AT an office, the one that stands first of these");
        String offices = "speak 6 quiet 10 quota 30;office 2 40;office 3 70;office 1 20;";
        RingOffices x = new RingOffices();
        x.minute(1);
        Check.dueText("one ON THE WAY", Check.setup(x), offices);
        x.stray(2);
        Check.dueText("the second is the first that is AT an office", Check.setup(x), offices + "token 2;");
        x.stray(0);
        Check.dueText("by NUMBERS, not by offices", Check.setup(x), offices + "token 2;");
        x.lose(1);
        Check.dueText("the other one", Check.setup(x), offices + "token 0;");
        x.lose(0);
        x.lose(0);
        Check.dueText("no token", Check.setup(x), offices);
    }
}
