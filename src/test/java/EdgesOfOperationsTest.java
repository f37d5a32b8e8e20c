/** Sentence by sentence, each on new objects: promises 6 to 10 and 12 to 16, sections 1, 4 and 7 of the terms. */
public final class EdgesOfOperationsTest {
    private static final int INVALID = RingOffices.INVALID;
    private static final int NOT_FOUND = RingOffices.NOT_FOUND;
    private static final int FULL = RingOffices.FULL;
    private static final int WRONG_STATE = RingOffices.WRONG_STATE;
    private static final int LEAST = Check.LEAST;
    private static final int GREATEST = Check.GREATEST;
    private static final String TEN = "speak 6 quiet 10 quota 30;office 1 1;office 1 2;office 1 3;office 1 4;office 1 5;"
        + "office 1 6;office 1 7;office 1 8;office 1 9;office 1 10;token 9;";

    public static void main(String[] args) {
        letter();
        cancel();
        cancelOfWhatIsRead();
        shut();
        shutLoses();
        open();
        lose();
        stray();
        strayWhereOneIs();
        strayRefused();
        set();
        setRefused();
        rule();
        keep();
        restore();
        restoreBringsBack();
        undo();
        undoOfEach();
        undoOfTheLog();
        undoLeaves();
        noOperations();
        Check.end("EdgesOfOperationsTest");
    }

    // ---- promise 6

    private static RingOffices withLetters(int office, int many) {
        RingOffices x = new RingOffices();
        for (int i = 0; i < many; i++) x.letter(office, (office + 1) % 3, i + 1);
        return x;
    }

    private static void letter() {
        Check.about("6", "Lets a letter come, behind those of the queue.");
        Check.dueText("list", Check.list(withLetters(1, 3)), "0:40@1\n1:70/1>2/2>2/3>2\n2:20\n");
        Check.due("letters that came", withLetters(1, 3).value(10), 3);
        Check.dueText("log", Check.log(withLetters(1, 3)), "0 1 1;0 1 2;0 1 3;");
        Check.about("6", "Returns how many are in the queue then");
        RingOffices x = new RingOffices();
        for (int i = 1; i <= 6; i++) Check.due("letter", x.letter(2, 0, 9), i);
        Check.due("letter of another office", x.letter(0, 2, 9), 1);
        Check.about("6", "office: an office");
        for (int odd : new int[] {-1, 3, 10, LEAST, GREATEST}) Check.refused("office " + odd, new RingOffices(), INVALID, r -> r.letter(odd, 0, 1));
        Check.due("the office 9 of ten", Check.made(TEN).letter(9, 0, 1), 1);
        Check.due("the office 10 of ten", Check.made(TEN).letter(10, 0, 1), INVALID);
        Check.about("6", "to: another office");
        for (int odd : new int[] {-1, 3, 10, LEAST, GREATEST}) Check.refused("to " + odd, new RingOffices(), INVALID, r -> r.letter(0, odd, 1));
        Check.due("to 9 of ten", Check.made(TEN).letter(0, 9, 1), 1);
        Check.due("to 10 of ten", Check.made(TEN).letter(0, 10, 1), INVALID);
        Check.about("6", "INVALID for .. twice the same office");
        for (int o = 0; o < 3; o++) {
            int office = o;
            Check.refused("twice " + o, new RingOffices(), INVALID, r -> r.letter(office, office, 1));
        }
        Check.about("6", "length: LENGTH, 1 to 9");
        for (int odd : new int[] {-1, 0, 10, LEAST, GREATEST}) Check.refused("length " + odd, new RingOffices(), INVALID, r -> r.letter(0, 1, odd));
        Check.due("length 1", new RingOffices().letter(0, 1, 1), 1);
        Check.due("length 9", new RingOffices().letter(0, 1, 9), 1);
        Check.about("6", "FULL: there are 6 letters in the queue");
        Check.due("the 6th", withLetters(0, 5).letter(0, 1, 1), 6);
        Check.refused("the 7th", withLetters(0, 6), FULL, r -> r.letter(0, 1, 1));
        x = withLetters(0, 6);
        x.cancel(0, 3);
        Check.due("the 6th again", x.letter(0, 1, 1), 6);
        x.minute(2);
        Check.due("one is READ", x.value(11), 1);
        Check.due("the 6th again", x.letter(0, 1, 1), 6);
        Check.about("7 of the terms", "INVALID .. is checked before any other special result: letter()");
        for (int odd : new int[] {-1, 0, 10}) Check.refused("length " + odd + " at 6", withLetters(0, 6), INVALID, r -> r.letter(0, 1, odd));
        Check.refused("to 3 at 6", withLetters(0, 6), INVALID, r -> r.letter(0, 3, 1));
        Check.refused("twice the same at 6", withLetters(0, 6), INVALID, r -> r.letter(0, 0, 1));
        Check.about("6", "a shut office has a queue, too, and letters may go to one");
        x = new RingOffices();
        x.shut(1, 0);
        x.shut(2, 0);
        Check.due("from a shut office to a shut one", x.letter(1, 2, 1), 1);
        Check.due("from an open office to a shut one", x.letter(0, 2, 1), 1);
    }

    // ---- promise 7

    private static void cancel() {
        Check.about("7", "Takes a letter back.");
        for (int i = 0; i < 6; i++) {
            RingOffices x = withLetters(1, 6);
            Check.due("cancel(1, " + i + ")", x.cancel(1, i), 5);
            int[] left = new int[5];
            for (int k = 0; k < 5; k++) left[k] = k < i ? k + 1 : k + 2;
            for (int k = 0; k < 5; k++) Check.due("LENGTH of " + k + " behind cancel of " + i, x.queue(1, k, 1), left[k]);
            Check.due("there is no sixth", x.queue(1, 5, 1), NOT_FOUND);
            Check.due("taken back", x.value(13), 1);
            Check.dueText("log", Check.log(x).substring(36), "9 1 " + (i + 1) + ";");
        }
        Check.about("7", "Takes a letter back: the others stay as they are, with TO and LENGTH");
        for (int o = 0; o < 10; o++) {
            RingOffices x = Check.made(TEN);
            for (int i = 1; i <= 6; i++) x.letter(o, (o + i) % 10, i);
            x.letter((o + 1) % 10, o, 9);
            x.cancel(o, 2);
            for (int i = 0; i < 5; i++) {
                int was = i < 2 ? i + 1 : i + 2;
                Check.due("TO", x.queue(o, i, 0), (o + was) % 10);
                Check.due("LENGTH", x.queue(o, i, 1), was);
            }
            Check.due("TO of the next office's", x.queue((o + 1) % 10, 0, 0), o);
            Check.due("LENGTH of the next office's", x.queue((o + 1) % 10, 0, 1), 9);
        }
        Check.about("7", "Returns how many are in the queue then");
        RingOffices x = withLetters(2, 6);
        for (int i = 5; i >= 0; i--) Check.due("cancel", x.cancel(2, 0), i);
        Check.due("letters that came, in spite of it", x.value(10), 6);
        Check.about("7", "office: an office");
        for (int odd : new int[] {-1, 3, LEAST, GREATEST}) Check.refused("office " + odd, withLetters(0, 1), INVALID, r -> r.cancel(odd, 0));
        Check.about("7", "INVALID for .. a negative i");
        for (int odd : new int[] {-1, LEAST}) Check.refused("i " + odd, withLetters(1, 1), INVALID, r -> r.cancel(1, odd));
        Check.refused("i -1 of an empty queue", new RingOffices(), INVALID, r -> r.cancel(1, -1));
        Check.about("7", "NOT_FOUND if there are not so many");
        Check.refused("0 of 0", new RingOffices(), NOT_FOUND, r -> r.cancel(1, 0));
        Check.refused("1 of 1", withLetters(1, 1), NOT_FOUND, r -> r.cancel(1, 1));
        Check.refused("6 of 6", withLetters(1, 6), NOT_FOUND, r -> r.cancel(1, 6));
        Check.refused("greatest", withLetters(1, 1), NOT_FOUND, r -> r.cancel(1, GREATEST));
        Check.refused("of the queue behind it", withLetters(1, 1), NOT_FOUND, r -> r.cancel(0, 6));
        Check.due("the last one of 6", withLetters(1, 6).cancel(1, 5), 5);
    }

    /** Two letters of the office 0, the first one of LENGTH 3, and this many minutes later. */
    private static RingOffices reading(int minutes) {
        RingOffices x = new RingOffices();
        x.letter(0, 1, 3);
        x.letter(0, 2, 2);
        if (minutes > 0) x.minute(minutes);
        return x;
    }

    private static void cancelOfWhatIsRead() {
        Check.about("7", "WRONG_STATE if it is being read out");
        Check.due("ahead of it", reading(0).cancel(0, 0), 1);
        for (int minutes = 1; minutes <= 3; minutes++) Check.refused("minute " + minutes, reading(minutes), WRONG_STATE, r -> r.cancel(0, 0));
        Check.due("the letter behind it, when it is READ", reading(4).cancel(0, 0), 0);
        Check.refused("that one, as it begins", reading(5), WRONG_STATE, r -> r.cancel(0, 0));
        Check.about("7", "the letters behind the one that is read out can be taken back");
        RingOffices x = reading(2);
        Check.due("the second one", x.cancel(0, 1), 1);
        Check.due("the first one is read on", x.minute(2), 1);
        Check.about("7", "a letter that was being read out, without its token");
        x = reading(2);
        x.lose(0);
        Check.due("lost", x.cancel(0, 0), 1);
        x = reading(2);
        x.shut(0, 0);
        Check.due("shut", x.cancel(0, 0), 1);
        x = reading(2);
        x.stray(0);
        Check.due("torn up", x.cancel(0, 0), 1);
        Check.about("7 of the terms", "special results are checked in the order in which the call lists them: cancel()");
        Check.refused("NOT_FOUND while the first is read out", reading(2), NOT_FOUND, r -> r.cancel(0, 2));
        Check.refused("INVALID while the first is read out", reading(2), INVALID, r -> r.cancel(0, -1));
    }

    // ---- promise 8, section 4

    private static void shut() {
        Check.about("8", "office: an office");
        for (int odd : new int[] {-1, 3, LEAST, GREATEST}) {
            Check.refused("office " + odd, new RingOffices(), INVALID, r -> r.shut(odd, 0));
            Check.refused("office " + odd, new RingOffices(), INVALID, r -> r.shut(odd, 1));
        }
        Check.about("8", "isOpen: 1 to open it, 0 to shut it");
        for (int odd : new int[] {-1, 2, LEAST, GREATEST}) Check.refused("isOpen " + odd, new RingOffices(), INVALID, r -> r.shut(1, odd));
        RingOffices x = new RingOffices();
        x.shut(1, 0);
        for (int odd : new int[] {-1, 2}) Check.refused("isOpen " + odd + " of a shut one", x, INVALID, r -> r.shut(1, odd));
        Check.due("it is shut", x.office(1, 2), 0);
        x.shut(1, 1);
        Check.due("it is open", x.office(1, 2), 1);
        Check.about("8", "NOT_FOUND if it is so already");
        Check.refused("it is open already", new RingOffices(), NOT_FOUND, r -> r.shut(2, 1));
        x = new RingOffices();
        x.shut(2, 0);
        Check.refused("it is shut already", x, NOT_FOUND, r -> r.shut(2, 0));
        Check.about("8", "Returns how many tokens are lost by it");
        Check.due("one AT it", new RingOffices().shut(0, 0), 1);
        Check.due("none AT it", new RingOffices().shut(1, 0), 0);
        x = new RingOffices();
        x.shut(0, 0);
        Check.due("opening it", x.shut(0, 1), 0);
        x = new RingOffices();
        x.stray(1);
        x.stray(2);
        Check.due("one of three", x.shut(1, 0), 1);
        Check.dueText("the other two", Check.tokens(x), "1 0 0 0 0;3 2 0 0 0;");
        Check.about("8", "all offices may be shut");
        Check.due("the last one", x.shut(2, 0) + x.shut(0, 0), 2);
        Check.due("open ones", x.value(5), 0);
        Check.about("5 of the terms", "7 an office is shut or opened (.. ahead of 5)");
        x = new RingOffices();
        x.shut(0, 0);
        x.shut(0, 1);
        Check.dueText("log", Check.log(x), "7 0 0;5 1 0;7 0 1;");
    }

    private static void shutLoses() {
        Check.about("4 of the terms", "As an office is shut, the tokens AT it are lost");
        RingOffices x = new RingOffices();
        x.shut(0, 0);
        Check.due("tokens", x.value(6), 0);
        Check.due("lost", x.value(16), 1);
        Check.about("4 of the terms", "the tokens AT it: not one ON THE WAY to it, nor one that has left it");
        x = new RingOffices();
        x.minute(2);
        Check.due("the office to which it goes", x.shut(1, 0), 0);
        Check.due("the office from which it comes", x.shut(0, 0), 0);
        Check.dueText("tokens", Check.tokens(x), "1 1 1 0 0;");
        Check.due("lost", x.value(16), 0);
        Check.about("4 of the terms", "its letters stay");
        x = withLetters(0, 6);
        x.shut(0, 0);
        Check.due("letters", x.office(0, 4), 6);
        Check.due("none is taken back", x.value(13), 0);
        Check.about("4 of the terms", "a letter that is being read out stays first in the queue");
        x = reading(3);
        x.shut(0, 0);
        Check.dueText("list", Check.list(x), "0:40x/3>1/2>2\n1:70\n2:20\n");
        Check.due("its LEFT is its LENGTH", x.queue(0, 0, 2), 3);
        x.shut(0, 1);
        x.stray(0);
        x.minute(1);
        Check.due("it begins from the front", x.token(0, 4), 3);
        Check.due("what was spoken stays", x.office(0, 3), 2);
    }

    private static void open() {
        Check.about("4 of the terms", "As an office is opened, nothing else changes.");
        RingOffices x = reading(3);
        x.shut(0, 0);
        x.minute(2);
        int silence = x.value(7);
        String queues = Check.list(x).replace("0:40x", "0:40");
        int spoken = x.office(0, 3);
        x.shut(0, 1);
        Check.dueText("list", Check.list(x), queues);
        Check.due("tokens", x.value(6), 0);
        Check.due("SPOKEN", x.office(0, 3), spoken);
        Check.due("SILENCE", x.value(7), silence);
        Check.due("lost", x.value(16), 1);
        Check.dueText("the entry alone", Check.log(x).substring(24), "7 0 1;");
    }

    // ---- promise 9

    /** Two tokens that are SPEAKING, one since a minute more, and one ON THE WAY. */
    private static RingOffices threeOfAllKinds() {
        RingOffices x = new RingOffices();
        x.letter(0, 1, 4);
        x.minute(1);
        x.letter(2, 0, 4);
        x.stray(2);
        x.minute(1);
        x.stray(1);
        x.minute(1);
        return x;
    }

    private static void lose() {
        Check.about("9", "Returns its NUMBER");
        Check.due("the token 1", new RingOffices().lose(0), 1);
        for (int t = 0; t < 3; t++) {
            RingOffices x = new RingOffices();
            x.lose(0);
            for (int o = 0; o < 3; o++) x.stray(o);
            Check.due("the token " + t + " of three", x.lose(t), t + 2);
            Check.due("tokens", x.value(6), 2);
            Check.due("the first that is left", x.token(0, 0), t == 0 ? 3 : 2);
            Check.due("the second that is left", x.token(1, 0), t == 2 ? 3 : 4);
            Check.due("AT", x.token(1, 1), t == 2 ? 1 : 2);
            Check.due("lost", x.value(16), 2);
        }
        Check.about("9", "Loses a token: the others stay as they are");
        String[] tokens = {"1 0 0 2 2;", "2 2 0 1 3;", "3 2 3 0 0;"};
        for (int t = 0; t < 3; t++) {
            RingOffices x = threeOfAllKinds();
            Check.dueText("tokens", Check.tokens(x), tokens[0] + tokens[1] + tokens[2]);
            x.lose(t);
            Check.dueText("tokens but " + t, Check.tokens(x), (t == 0 ? "" : tokens[0]) + (t == 1 ? "" : tokens[1]) + (t == 2 ? "" : tokens[2]));
        }
        Check.about("9", "INVALID for an invalid argument (tokens by how they stand, from 0)");
        for (int odd : new int[] {-1, 1, 3, LEAST, GREATEST}) Check.refused("token " + odd, new RingOffices(), INVALID, r -> r.lose(odd));
        RingOffices x = new RingOffices();
        x.stray(1);
        Check.refused("2 of two", x, INVALID, r -> r.lose(2));
        x.stray(2);
        Check.refused("3 of three", x, INVALID, r -> r.lose(3));
        x = new RingOffices();
        x.lose(0);
        Check.refused("0 of none", x, INVALID, r -> r.lose(0));
        Check.about("4 of the terms", "To lose a token: it is gone, likewise.");
        x = reading(3);
        x.lose(0);
        Check.dueText("the letter stays first", Check.list(x), "0:40/3>1/2>2\n1:70\n2:20\n");
        Check.due("its LEFT is its LENGTH", x.queue(0, 0, 2), 3);
        Check.about("5 of the terms", "5 a token is lost (its NUMBER, the office AT which it was or to which it was ON THE WAY)");
        x = new RingOffices();
        x.stray(2);
        x.lose(1);
        x.minute(1);
        x.lose(0);
        Check.dueText("log", Check.log(x), "6 2 2;5 2 2;5 1 1;");
    }

    // ---- promise 10

    private static void stray() {
        Check.about("10", "Returns its NUMBER");
        RingOffices x = new RingOffices();
        Check.due("stray", x.stray(1), 2);
        Check.due("stray", x.stray(2), 3);
        Check.about("4 of the terms", "AT an open office, with a TURN of 0");
        Check.dueText("tokens", Check.tokens(x), "1 0 0 0 0;2 1 0 0 0;3 2 0 0 0;");
        Check.about("4 of the terms", "a NUMBER that is 1 greater than any one so far");
        x.lose(2);
        x.lose(1);
        Check.due("also of those that are lost", x.stray(1), 4);
        x.stray(1);
        Check.due("also of those that are torn up", x.stray(2), 6);
        x = Check.made("speak 6 quiet 10 quota 30;office 2 40;office 3 70;");
        Check.due("the first one of all", x.stray(0), 1);
        x.lose(0);
        x.minute(10);
        Check.due("also of those that are elected", x.stray(0), 3);
        Check.about("5 of the terms", "6 a stray token comes (its NUMBER, the office)");
        x = new RingOffices();
        x.stray(2);
        Check.dueText("log", Check.log(x), "6 2 2;");
    }

    private static void strayWhereOneIs() {
        Check.about("4 of the terms", "if a token is AT this office, that one is torn up (entry 3, behind 6)");
        RingOffices x = new RingOffices();
        Check.due("stray", x.stray(0), 2);
        Check.dueText("tokens", Check.tokens(x), "2 0 0 0 0;");
        Check.due("torn up", x.value(15), 1);
        Check.due("lost", x.value(16), 0);
        Check.dueText("log", Check.log(x), "6 2 0;3 1 0;");
        Check.about("4 of the terms", "that one: not those AT other offices or ON THE WAY to it");
        x = new RingOffices();
        x.minute(1);
        Check.due("the office to which it is ON THE WAY", x.stray(1), 2);
        Check.dueText("tokens", Check.tokens(x), "1 1 2 0 0;2 1 0 0 0;");
        Check.due("a third one in place of the second", x.stray(1), 3);
        Check.dueText("tokens", Check.tokens(x), "1 1 2 0 0;3 1 0 0 0;");
        Check.about("3 of the terms", "the letter with which it is SPEAKING stays first in the queue");
        x = reading(3);
        x.stray(0);
        Check.dueText("list", Check.list(x), "0:40/3>1/2>2@2\n1:70\n2:20\n");
        Check.due("its LEFT is its LENGTH", x.queue(0, 0, 2), 3);
        x.minute(1);
        Check.due("it begins from the front", x.token(0, 4), 3);
    }

    private static void strayRefused() {
        Check.about("10", "office: an office");
        for (int odd : new int[] {-1, 3, LEAST, GREATEST}) Check.refused("office " + odd, new RingOffices(), INVALID, r -> r.stray(odd));
        Check.about("10", "WRONG_STATE if the office is shut");
        RingOffices x = new RingOffices();
        x.shut(1, 0);
        Check.refused("stray(1)", x, WRONG_STATE, r -> r.stray(1));
        Check.due("another office", x.stray(2), 2);
        x.shut(1, 1);
        Check.due("as it is open again", x.stray(1), 3);
        Check.about("10", "FULL (also if a token is AT this office)");
        for (int o = 0; o < 3; o++) {
            int office = o;
            Check.refused("3 tokens, AT " + o, x, FULL, r -> r.stray(office));
        }
        x.minute(1);
        Check.refused("3 tokens, all ON THE WAY", x, FULL, r -> r.stray(1));
        x.lose(0);
        Check.due("2 tokens", x.stray(1), 4);
        Check.about("7 of the terms", "special results are checked in the order in which the call lists them: stray()");
        x = new RingOffices();
        x.minute(1);
        x.stray(1);
        x.stray(2);
        x.shut(0, 0);
        Check.refused("INVALID ahead of FULL", x, INVALID, r -> r.stray(3));
        Check.refused("WRONG_STATE ahead of FULL", x, WRONG_STATE, r -> r.stray(0));
    }

    // ---- promises 12 and 13

    private static void set() {
        Check.about("12", "Returns the former number");
        RingOffices x = new RingOffices();
        Check.due("WAY", x.set(1, 0, 9), 3);
        Check.due("WAY again", x.set(1, 0, 1), 9);
        Check.due("NAME", x.set(2, 1, 99), 20);
        Check.due("NAME again", x.set(2, 1, 1), 99);
        Check.due("WAY then", x.office(1, 0), 1);
        Check.due("NAME then", x.office(2, 1), 1);
        Check.due("NAME of the office whose WAY was set", x.office(1, 1), 70);
        Check.due("WAY of the office whose NAME was set", x.office(2, 0), 1);
        Check.about("5 of the terms", "10 a NAME or WAY is set (10 times the office plus what, the former number)");
        Check.dueText("log", Check.log(x), "10 10 3;10 10 9;10 21 20;10 21 99;");
        x = Check.made(TEN);
        x.set(9, 1, 99);
        Check.dueText("log of the office 9", Check.log(x), "10 91 10;");
        Check.about("12", "a number in its range: WAY 1 to 9");
        for (int odd : new int[] {-1, 0, 10, 99, LEAST, GREATEST}) Check.refused("WAY " + odd, new RingOffices(), INVALID, r -> r.set(0, 0, odd));
        Check.about("12", "a number in its range: NAME 1 to 99");
        for (int odd : new int[] {-1, 0, 100, LEAST, GREATEST}) Check.refused("NAME " + odd, new RingOffices(), INVALID, r -> r.set(0, 1, odd));
        Check.due("NAME 10, above any WAY", new RingOffices().set(0, 1, 10), 40);
        Check.about("12", "a WAY is of the next setting out, not of a token that is ON THE WAY");
        x = new RingOffices();
        x.minute(1);
        x.set(0, 0, 9);
        Check.dueText("tokens", Check.tokens(x), "1 1 2 0 0;");
    }

    private static void setRefused() {
        Check.about("12", "office: an office");
        for (int odd : new int[] {-1, 3, LEAST, GREATEST}) Check.refused("office " + odd, new RingOffices(), INVALID, r -> r.set(odd, 0, 5));
        Check.about("12", "what: 0 WAY, 1 NAME");
        for (int odd : new int[] {-1, 2, LEAST, GREATEST}) Check.refused("what " + odd, new RingOffices(), INVALID, r -> r.set(0, odd, 5));
        Check.about("12", "NOT_FOUND if it is so already");
        Check.refused("WAY", new RingOffices(), NOT_FOUND, r -> r.set(0, 0, 2));
        Check.refused("NAME", new RingOffices(), NOT_FOUND, r -> r.set(0, 1, 40));
        Check.about("12", "WRONG_STATE if another office has this NAME");
        Check.refused("an office behind it", new RingOffices(), WRONG_STATE, r -> r.set(0, 1, 20));
        Check.refused("an office ahead of it", new RingOffices(), WRONG_STATE, r -> r.set(2, 1, 40));
        RingOffices x = new RingOffices();
        x.shut(1, 0);
        Check.refused("a shut office", x, WRONG_STATE, r -> r.set(0, 1, 70));
        Check.due("the NAME of an office may be a WAY", Check.made(TEN).set(0, 0, 5), 1);
        Check.due("the WAY of an office may be a NAME", new RingOffices().set(0, 1, 3), 40);
        x = new RingOffices();
        x.set(1, 1, 71);
        Check.due("a NAME that is given up", x.set(0, 1, 70), 40);
        x = Check.made(TEN);
        Check.load(x, "speak 6 quiet 10 quota 30;office 2 40;office 3 70;");
        Check.due("a NAME of offices that are no more", x.set(0, 1, 10), 40);
    }

    private static void rule() {
        int[] most = {20, 99, 60};
        int[] former = {6, 10, 30};
        for (int w = 0; w < 3; w++) {
            int what = w;
            Check.about("13", "Returns the former number");
            RingOffices x = new RingOffices();
            Check.due("rule " + w, x.rule(w, 7), former[w]);
            Check.due("rule " + w + " again", x.rule(w, 8), 7);
            for (int k = 0; k < 3; k++) Check.due("value(" + k + ")", x.value(k), k == w ? 8 : former[k]);
            Check.about("5 of the terms", "8 a rule is set (what, the former number)");
            Check.dueText("log", Check.log(x), "8 " + w + " " + former[w] + ";8 " + w + " 7;");
            Check.about("2 of the terms", "SPEAK is 1 to 20, QUIET 1 to 99, QUOTA 1 to 60.");
            Check.due("rule " + w + ", 1", new RingOffices().rule(w, 1), former[w]);
            Check.due("rule " + w + ", the most", new RingOffices().rule(w, most[w]), former[w]);
            for (int odd : new int[] {-1, 0, most[w] + 1, LEAST, GREATEST}) Check.refused("rule " + w + ", " + odd, new RingOffices(), INVALID, r -> r.rule(what, odd));
            Check.about("13", "NOT_FOUND if it is so already");
            Check.refused("rule " + w, new RingOffices(), NOT_FOUND, r -> r.rule(what, former[what]));
        }
        Check.about("13", "what: 0 SPEAK, 1 QUIET, 2 QUOTA");
        for (int odd : new int[] {-1, 3, LEAST, GREATEST}) Check.refused("what " + odd, new RingOffices(), INVALID, r -> r.rule(odd, 5));
    }

    // ---- promises 14 to 16

    private static void keep() {
        Check.about("14", "Returns TIME");
        RingOffices x = new RingOffices();
        Check.due("keep(0)", x.keep(0), 0);
        x.minute(7);
        Check.due("keep(1)", x.keep(1), 7);
        Check.about("14", "slot: 0 or 1");
        for (int odd : new int[] {-1, 2, LEAST, GREATEST}) Check.refused("keep(" + odd + ")", x, INVALID, r -> r.keep(odd));
        Check.due("slot 0 is as it was", x.restore(0), 0);
        Check.due("slot 1 is as it was", x.restore(1), 7);
        Check.about("14", "in place of what it had");
        x.minute(5);
        Check.due("keep(0)", x.keep(0), 12);
        x.minute(1);
        Check.due("restore(0)", x.restore(0), 12);
        Check.due("restore(1), the other one", x.restore(1), 7);
        Check.about("14", "keep is no operation and changes nothing else");
        x = new RingOffices();
        Check.refused("keep(0)", x, 0, r -> r.keep(0));
    }

    private static void restore() {
        Check.about("15", "Returns TIME then");
        RingOffices x = new RingOffices();
        x.minute(7);
        x.keep(1);
        x.minute(3);
        Check.due("restore(1)", x.restore(1), 7);
        Check.due("TIME", x.value(3), 7);
        Check.about("15", "the slot keeps it");
        x.minute(30);
        x.letter(0, 1, 1);
        Check.due("restore(1) again", x.restore(1), 7);
        Check.due("letters", x.value(8), 0);
        Check.about("15", "slot: 0 or 1");
        for (int odd : new int[] {-1, 2, LEAST, GREATEST}) Check.refused("restore(" + odd + ")", x, INVALID, r -> r.restore(odd));
        Check.about("15", "NOT_FOUND if the slot is empty");
        Check.refused("restore(0)", x, NOT_FOUND, r -> r.restore(0));
        RingOffices y = new RingOffices();
        y.keep(0);
        Check.refused("restore(1)", y, NOT_FOUND, r -> r.restore(1));
        Check.refused("restore(0) of a new object", new RingOffices(), NOT_FOUND, r -> r.restore(0));
        Check.about("7 of the terms", "restore() has no entry of its own");
        y.rule(0, 7);
        y.keep(1);
        y.restore(1);
        Check.dueText("log", Check.log(y), "8 0 6;");
        Check.about("7 of the terms", "Operations are .. restore() that return 0 or more: 0, too");
        int undoable = y.value(20);
        Check.due("restore(0)", y.restore(0), 0);
        Check.due("operations that can be undone", y.value(20), undoable + 1);
    }

    /** Changes whatever operations can change. */
    private static void changeAll(RingOffices x) {
        x.rule(0, 9);
        x.rule(1, 2);
        x.rule(2, 9);
        x.set(0, 0, 4);
        x.set(0, 1, 4);
        x.letter(2, 1, 3);
        x.cancel(2, 0);
        x.letter(0, 1, 3);
        x.letter(0, 2, 1);
        x.stray(1);
        x.stray(1);
        x.lose(0);
        x.shut(2, 0);
        x.minute(5);
        x.shut(1, 0);
        x.minute(61);
    }

    private static void restoreBringsBack() {
        Check.about("15", "Makes everything that operations change as it was kept in a slot");
        RingOffices x = new RingOffices();
        x.letter(0, 1, 3);
        x.minute(3);
        x.stray(2);
        String kept = Check.all(x);
        x.keep(0);
        changeAll(x);
        x.restore(0);
        Check.dueText("what is told", Check.all(x), kept);
        Check.about("15", "the letter that was being read out is read on, and NUMBERS go on from what was kept");
        Check.due("LEFT", x.token(0, 4), 1);
        Check.due("READ", x.minute(1), 1);
        Check.due("stray", x.stray(0), 3);
        Check.about("15", "what a slot kept is of its own: later calls do not change it");
        RingOffices y = new RingOffices();
        y.keep(0);
        y.keep(1);
        changeAll(y);
        y.restore(1);
        Check.dueText("slot 1", Check.all(y), Check.all(new RingOffices()));
        changeAll(y);
        y.restore(0);
        Check.dueText("slot 0", Check.all(y), Check.all(new RingOffices()));
    }

    private static void undo() {
        Check.about("16", "Returns the number of operations that can still be undone");
        RingOffices x = new RingOffices();
        for (int i = 1; i <= 3; i++) x.minute(i);
        for (int i = 2; i >= 0; i--) Check.due("undo", x.undo(), i);
        Check.about("16", "INVALID if there is none");
        Check.refused("undo", x, INVALID, r -> r.undo());
        Check.refused("undo of a new object", new RingOffices(), INVALID, r -> r.undo());
        Check.about("16", "Undoes the latest operation that has not been undone.");
        for (int i = 1; i <= 4; i++) x.minute(10 * i);
        int[] times = {60, 30, 10, 0};
        for (int time : times) {
            x.undo();
            Check.due("TIME", x.value(3), time);
        }
        Check.about("7 of the terms", "The latest 8 of them can be undone (of more than 8 the oldest is forgotten for good)");
        for (int many = 7; many <= 20; many++) {
            x = new RingOffices();
            for (int i = 0; i < many; i++) x.minute(1);
            int kept = Math.min(many, 8);
            Check.due("operations that can be undone of " + many, x.value(20), kept);
            for (int i = kept - 1; i >= 0; i--) Check.due("undo of " + many, x.undo(), i);
            Check.due("TIME", x.value(3), many - kept);
            Check.due("the oldest is forgotten", x.undo(), INVALID);
            Check.due("TIME", x.value(3), many - kept);
        }
        Check.about("7 of the terms", "one that was undone does not count any more");
        x = new RingOffices();
        for (int i = 0; i < 9; i++) x.minute(1);
        x.undo();
        x.undo();
        Check.due("operations that can be undone", x.value(20), 6);
        for (int i = 0; i < 3; i++) x.minute(10);
        Check.due("operations that can be undone", x.value(20), 8);
        for (int i = 7; i >= 0; i--) Check.due("undo", x.undo(), i);
        Check.due("TIME", x.value(3), 2);
    }

    private static void undone(String name, RingOffices x, Check.Call call) {
        String before = Check.all(x);
        Check.due(name + " is done", call.on(x) >= 0 ? 1 : 0, 1);
        Check.due(name + " is undone", x.undo(), x.value(20));
        Check.dueText(name + " undone", Check.all(x), before);
    }

    private static void undoOfEach() {
        Check.about("7 of the terms", "What operations change is offices, letters, tokens, TIME, the rules, the counts and the log");
        undone("letter", reading(3), r -> r.letter(0, 1, 4));
        undone("cancel", reading(3), r -> r.cancel(0, 1));
        undone("shut", reading(3), r -> r.shut(0, 0));
        undone("shut of the office to which it goes", reading(3), r -> r.shut(1, 0));
        undone("lose", reading(3), r -> r.lose(0));
        undone("stray", reading(3), r -> r.stray(1));
        undone("stray that tears up", reading(3), r -> r.stray(0));
        undone("minute", reading(3), r -> r.minute(1));
        undone("minutes until the next day", reading(3), r -> r.minute(100));
        undone("set WAY", reading(3), r -> r.set(0, 0, 9));
        undone("set NAME", reading(3), r -> r.set(0, 1, 99));
        undone("rule SPEAK", reading(3), r -> r.rule(0, 1));
        undone("rule QUIET", reading(3), r -> r.rule(1, 1));
        undone("rule QUOTA", reading(3), r -> r.rule(2, 1));
        RingOffices x = reading(3);
        x.keep(0);
        changeAll(x);
        undone("restore", x, r -> r.restore(0));
        x = reading(3);
        x.shut(0, 0);
        undone("minutes with an election", x, r -> r.minute(10));
        undone("minutes with SILENCE", x, r -> r.minute(9));
        undone("open", x, r -> r.shut(0, 1));
        Check.about("7 of the terms", "what is undone of tokens has their NUMBERS so far, too");
        x = new RingOffices();
        x.stray(1);
        x.undo();
        Check.due("stray", x.stray(2), 2);
    }

    private static void undoOfTheLog() {
        Check.about("7 of the terms", "What operations change is .. the log: an entry that gave way is back");
        RingOffices x = new RingOffices();
        for (int i = 0; i < 43; i++) x.rule(i % 2, 1 + i % 5);
        String before = Check.log(x);
        for (int i = 0; i < 4; i++) x.letter(2, 1, 9);
        for (int i = 0; i < 4; i++) x.undo();
        Check.dueText("log", Check.log(x), before);
        x.keep(0);
        for (int i = 0; i < 4; i++) x.letter(2, 1, 9);
        x.restore(0);
        Check.dueText("log by restore", Check.log(x), before);
    }

    private static void undoLeaves() {
        Check.about("7 of the terms", "undo() leaves the slots");
        RingOffices x = new RingOffices();
        x.minute(4);
        x.keep(0);
        x.undo();
        Check.due("slot 0", x.restore(0), 4);
        x.undo();
        Check.due("slot 0, as the restore is undone", x.restore(0), 4);
        Check.due("slot 1", x.restore(1), NOT_FOUND);
        Check.about("7 of the terms", "undo() leaves .. the tape");
        x.minute(1);
        Check.write(x, "speak");
        x.undo();
        Check.due("length", x.truncate(0), 5);
        Check.about("7 of the terms", "undo() leaves .. the error position");
        x.minute(1);
        x.load();
        x.undo();
        Check.due("errorPosition", x.errorPosition(), 5);
        Check.about("7 of the terms", "restore() leaves the other slot, the tape and the error position, too");
        Check.write(x, "spe");
        x.restore(0);
        Check.due("errorPosition", x.errorPosition(), 5);
        Check.due("length", x.truncate(0), 3);
    }

    private static void noOperations() {
        Check.about("7 of the terms", "Operations are the calls of .. that return 0 or more.");
        RingOffices x = new RingOffices();
        x.minute(1);
        String before = Check.all(x);
        x.append(0, 0, 0, 0, 0);
        x.truncate(20);
        x.load();
        x.keep(0);
        for (int what = 0; what < 9; what++) x.value(what);
        x.office(0, 0);
        x.queue(0, 0, 0);
        x.token(0, 0);
        x.winner();
        x.round();
        x.busiest();
        x.why(0);
        x.comesIn(1);
        x.doneIn();
        x.ifPassed(300, 0);
        x.ifRule(0, 1, 300, 0);
        x.ifShut(0, 300, 0);
        x.bestSpeak(300);
        x.leastQuota();
        x.log(0, 0);
        x.spoken();
        x.meanLength();
        Check.due("operations that can be undone", x.value(20), 1);
        Check.dueText("what is told", Check.all(x), before);
        Check.due("undo of the one operation", x.undo(), 0);
        Check.about("7 of the terms", "Operations .. that return 0 or more: minutes without a READ letter, shutting without a token");
        Check.due("minute", x.minute(1), 0);
        Check.due("shut", x.shut(2, 0), 0);
        Check.due("operations that can be undone", x.value(20), 2);
    }
}
