/** Sentence by sentence, each on new objects: promises 17 to 24 and 32 to 34, section 5 of the terms. */
public final class EdgesOfLooksTest {
    private static final int INVALID = RingOffices.INVALID;
    private static final int NOT_FOUND = RingOffices.NOT_FOUND;
    private static final int LEAST = Check.LEAST;
    private static final int GREATEST = Check.GREATEST;
    private static final String TEN = "speak 1 quiet 2 quota 3;office 9 91;office 9 92;office 9 93;office 9 94;office 9 95;"
        + "office 9 96;office 9 97;office 9 98;office 9 99;office 9 90;token 9;";

    public static void main(String[] args) {
        constants();
        value();
        valueOfTheRing();
        valueSoFar();
        office();
        officeTokenAndLetters();
        queue();
        queueLeft();
        token();
        winner();
        round();
        busiest();
        why();
        whyInOrder();
        log();
        logOfForty();
        spoken();
        meanLength();
        Check.end("EdgesOfLooksTest");
    }

    private static void constants() {
        Check.about("the constants", "INVALID = -1, NOT_FOUND = -2, FULL = -3, WRONG_STATE = -4");
        Check.due("INVALID", RingOffices.INVALID, -1);
        Check.due("NOT_FOUND", RingOffices.NOT_FOUND, -2);
        Check.due("FULL", RingOffices.FULL, -3);
        Check.due("WRONG_STATE", RingOffices.WRONG_STATE, -4);
    }

    // ---- promise 17

    private static void value() {
        Check.about("17", "INVALID for any other what");
        for (int odd : new int[] {-1, -2, 21, 22, 100, LEAST, GREATEST}) Check.refused("value(" + odd + ")", new RingOffices(), INVALID, r -> r.value(odd));
        int[] due = {6, 10, 30, 0, 3, 3, 1, 0, 0, 0, 0, 0, 0, 0, 0, 0, 0, 0, 0, 0, 0};
        for (int what = 0; what <= 20; what++) Check.due("value(" + what + ")", new RingOffices().value(what), due[what]);
    }

    private static void valueOfTheRing() {
        Check.about("17", "0 SPEAK, 1 QUIET, 2 QUOTA, 3 TIME");
        RingOffices x = Check.made(TEN);
        for (int what = 0; what < 3; what++) Check.due("value(" + what + ")", x.value(what), what + 1);
        x.minute(61);
        Check.due("value(3)", x.value(3), 61);
        Check.about("17", "4 the number of offices, 5 of those that are open");
        for (int shut = 0; shut <= 10; shut++) {
            Check.due("value(4)", x.value(4), 10);
            Check.due("value(5)", x.value(5), 10 - shut);
            x.shut(shut, 0);
        }
        Check.about("17", "6 of tokens: AT an office or ON THE WAY");
        x = new RingOffices();
        x.minute(1);
        Check.due("value(6)", x.value(6), 1);
        x.stray(0);
        Check.due("value(6)", x.value(6), 2);
        x.stray(1);
        Check.due("value(6)", x.value(6), 3);
        for (int left = 2; left >= 0; left--) {
            x.lose(0);
            Check.due("value(6)", x.value(6), left);
        }
        Check.about("17", "7 SILENCE");
        x.minute(4);
        Check.due("value(7)", x.value(7), 4);
        Check.about("17", "8 letters in all queues, 9 the sum of their LENGTHs");
        x = new RingOffices();
        x.shut(2, 0);
        int letters = 0;
        for (int o = 0; o < 3; o++) {
            for (int length = 1; length <= 6; length++) {
                x.letter(o, (o + 1) % 3, length);
                letters++;
                Check.due("value(8)", x.value(8), letters);
            }
            Check.due("value(9)", x.value(9), 21 * (o + 1));
        }
        x.cancel(2, 5);
        Check.due("value(8), as one is taken back", x.value(8), 17);
        Check.due("value(9), as one is taken back", x.value(9), 57);
        x.minute(2);
        Check.due("value(8), as one is READ", x.value(8), 16);
        x.minute(2);
        Check.due("value(9): LENGTH, not LEFT", x.value(9), 56);
    }

    private static void so(String name, RingOffices x, int what, int due) {
        Check.due(name, x.value(what), due);
        for (int other = 10; other <= 18; other++) {
            boolean mayCount = other == what || other == 10 || other == 18 && (what == 11 || what == 12 || what == 17);
            if (!mayCount) Check.due(name + ": value(" + other + ")", x.value(other), 0);
        }
    }

    private static void valueSoFar() {
        Check.about("17", "10 letters that came so far (of the setup, too)");
        RingOffices x = Check.made("speak 6 quiet 4 quota 9;office 1 5;office 2 6;letter 0 1 3;letter 1 0 3;");
        so("letters of the setup", x, 10, 2);
        x.letter(0, 1, 1);
        so("one more", x, 10, 3);
        x.letter(0, 0, 1);
        so("one that is refused", x, 10, 3);
        Check.about("17", "11 that were READ so far");
        x = new RingOffices();
        x.letter(0, 1, 2);
        x.minute(2);
        so("not yet", x, 11, 0);
        x.minute(1);
        so("READ", x, 11, 1);
        Check.about("17", "18 minutes that were spoken so far");
        Check.due("value(18)", x.value(18), 2);
        Check.about("17", "12 VAIN so far");
        x = new RingOffices();
        x.shut(1, 0);
        x.letter(0, 1, 2);
        x.minute(3);
        so("VAIN", x, 12, 1);
        Check.due("minutes spoken", x.value(18), 2);
        Check.about("17", "13 taken back so far");
        x.undo();
        x.cancel(0, 0);
        so("taken back", x, 13, 1);
        x.cancel(0, 0);
        so("nothing to take back", x, 13, 1);
        Check.about("17", "14 elections so far");
        x = Check.made("speak 6 quiet 4 quota 9;office 1 5;office 2 6;");
        x.minute(3);
        so("not yet", x, 14, 0);
        x.minute(97);
        so("an election", x, 14, 1);
        Check.about("17", "15 tokens torn up so far");
        x = new RingOffices();
        x.stray(0);
        so("by a stray one", x, 15, 1);
        x.stray(0);
        so("by another one", x, 15, 2);
        Check.about("17", "16 lost so far");
        x = new RingOffices();
        x.stray(1);
        x.lose(1);
        so("by lose()", x, 16, 1);
        x.shut(0, 0);
        so("by shut()", x, 16, 2);
        Check.about("17", "17 CLASHES so far");
        x = new RingOffices();
        x.stray(1);
        x.letter(0, 1, 6);
        x.letter(1, 0, 6);
        x.minute(4);
        so("four minutes", x, 17, 4);
        Check.about("17", "18 minutes that were spoken so far, by each of the tokens");
        Check.due("value(18)", x.value(18), 6);
        Check.about("17", "19 the number of entries of the log, 20 of operations that can be undone");
        x = new RingOffices();
        for (int i = 1; i <= 50; i++) {
            x.rule(0, 1 + i % 2);
            Check.due("value(19)", x.value(19), Math.min(i, 40));
            Check.due("value(20)", x.value(20), Math.min(i, 8));
        }
    }

    // ---- promise 18

    private static void office() {
        Check.about("18", "office: an office");
        for (int odd : new int[] {-1, 3, 9, 10, LEAST, GREATEST}) Check.refused("office(" + odd + ", 0)", new RingOffices(), INVALID, r -> r.office(odd, 0));
        Check.due("office(9, 0) of ten", Check.made(TEN).office(9, 0), 9);
        Check.due("office(10, 0) of ten", Check.made(TEN).office(10, 0), INVALID);
        RingOffices x = Check.made(TEN);
        Check.load(x, "speak 6 quiet 4 quota 9;office 1 5;office 2 6;");
        Check.due("office(2, 0) of two behind ten", x.office(2, 0), INVALID);
        Check.about("18", "INVALID for .. any other what");
        for (int odd : new int[] {-1, 9, 10, LEAST, GREATEST}) Check.refused("office(0, " + odd + ")", new RingOffices(), INVALID, r -> r.office(0, odd));
        Check.about("18", "0 WAY, 1 NAME");
        for (int o = 0; o < 10; o++) {
            x = Check.made(TEN);
            x.set(o, 0, 5);
            Check.due("WAY", x.office(o, 0), 5);
            Check.due("NAME", x.office(o, 1), o == 9 ? 90 : 91 + o);
            Check.due("WAY of another one", x.office((o + 1) % 10, 0), 9);
        }
        Check.about("18", "2 1 if it is open, otherwise 0");
        x = new RingOffices();
        x.shut(1, 0);
        for (int o = 0; o < 3; o++) Check.due("open is " + o, x.office(o, 2), o == 1 ? 0 : 1);
        Check.about("18", "3 SPOKEN");
        x = new RingOffices();
        x.letter(0, 1, 4);
        x.minute(3);
        Check.due("SPOKEN of 0", x.office(0, 3), 2);
        Check.due("SPOKEN of 1", x.office(1, 3), 0);
        Check.about("18", "4 how many letters are in its queue, 5 the sum of their LENGTHs");
        x = new RingOffices();
        for (int i = 1; i <= 6; i++) {
            x.letter(1, 0, 9);
            Check.due("letters", x.office(1, 4), i);
            Check.due("the sum", x.office(1, 5), 9 * i);
            Check.due("letters of 0", x.office(0, 4), 0);
            Check.due("the sum of 2", x.office(2, 5), 0);
        }
    }

    private static void officeTokenAndLetters() {
        Check.about("18", "6 the token AT it (how it stands; NOT_FOUND if there is none)");
        RingOffices x = new RingOffices();
        x.stray(2);
        x.stray(1);
        Check.due("token AT 0", x.office(0, 6), 0);
        Check.due("token AT 1", x.office(1, 6), 2);
        Check.due("token AT 2", x.office(2, 6), 1);
        x.lose(1);
        Check.due("token AT 1, how it stands then", x.office(1, 6), 1);
        Check.due("token AT 2", x.office(2, 6), NOT_FOUND);
        x = new RingOffices();
        x.minute(2);
        Check.due("the office from which it comes", x.office(0, 6), NOT_FOUND);
        Check.due("ON THE WAY is not AT", x.office(1, 6), NOT_FOUND);
        x.minute(1);
        Check.due("AT it", x.office(1, 6), 0);
        Check.about("18", "7 how many letters were READ to it so far");
        x = new RingOffices();
        x.letter(0, 1, 1);
        x.letter(0, 1, 1);
        x.letter(0, 2, 1);
        x.minute(7);
        int[] readTo = {0, 2, 1};
        for (int o = 0; o < 3; o++) Check.due("READ to " + o, x.office(o, 7), readTo[o]);
        Check.about("18", "8 how many letters in all queues are TO it");
        x = new RingOffices();
        for (int i = 0; i < 3; i++) x.letter(0, 1, 5);
        x.letter(0, 2, 5);
        x.letter(2, 1, 5);
        x.letter(1, 2, 5);
        int[] to = {0, 4, 2};
        for (int o = 0; o < 3; o++) Check.due("letters TO " + o, x.office(o, 8), to[o]);
        x.minute(6);
        Check.due("letters TO 1, as one is READ", x.office(1, 8), 3);
        x.cancel(2, 0);
        Check.due("letters TO 1, as one is taken back", x.office(1, 8), 2);
    }

    // ---- promise 19

    private static RingOffices twoLetters() {
        RingOffices x = new RingOffices();
        x.letter(0, 1, 3);
        x.letter(0, 2, 9);
        return x;
    }

    private static void queue() {
        Check.about("19", "office: an office");
        for (int odd : new int[] {-1, 3, LEAST, GREATEST}) Check.refused("office " + odd, twoLetters(), INVALID, r -> r.queue(odd, 0, 0));
        Check.about("19", "INVALID for .. a negative i");
        for (int odd : new int[] {-1, LEAST}) Check.refused("i " + odd, twoLetters(), INVALID, r -> r.queue(0, odd, 0));
        Check.refused("i -1 of an empty queue", twoLetters(), INVALID, r -> r.queue(1, -1, 0));
        Check.refused("i -1 of the queue behind it", twoLetters(), INVALID, r -> r.queue(1, -6, 0));
        Check.about("19", "INVALID for .. any other what");
        for (int odd : new int[] {-1, 3, LEAST, GREATEST}) Check.refused("what " + odd, twoLetters(), INVALID, r -> r.queue(0, 0, odd));
        Check.about("19", "NOT_FOUND if there are not so many");
        for (int what = 0; what < 3; what++) {
            int w = what;
            for (int i : new int[] {2, 5, 6, 60, GREATEST}) Check.refused("i " + i, twoLetters(), NOT_FOUND, r -> r.queue(0, i, w));
            Check.refused("an empty queue", twoLetters(), NOT_FOUND, r -> r.queue(1, 0, w));
        }
        RingOffices x = twoLetters();
        for (int i = 0; i < 6; i++) x.letter(1, 2, 4);
        Check.due("the last one of 6", x.queue(1, 5, 1), 4);
        Check.due("the 7th of 6", x.queue(1, 6, 1), NOT_FOUND);
        Check.due("the 7th of 2, where another queue has some", x.queue(0, 6, 1), NOT_FOUND);
        Check.about("7 of the terms", "INVALID .. is checked before any other special result: queue()");
        Check.due("any other what ahead of NOT_FOUND", x.queue(0, 2, 3), INVALID);
        Check.due("an office ahead of NOT_FOUND", x.queue(3, 9, 0), INVALID);
        Check.about("19", "0 TO, 1 LENGTH");
        Check.due("TO of the first", x.queue(0, 0, 0), 1);
        Check.due("TO of the second", x.queue(0, 1, 0), 2);
        Check.due("LENGTH of the first", x.queue(0, 0, 1), 3);
        Check.due("LENGTH of the second", x.queue(0, 1, 1), 9);
    }

    private static void queueLeft() {
        Check.about("19", "2 LEFT, if it is being read out, otherwise its LENGTH");
        RingOffices x = twoLetters();
        Check.due("ahead of it", x.queue(0, 0, 2), 3);
        for (int left = 3; left >= 1; left--) {
            x.minute(1);
            Check.due("LEFT", x.queue(0, 0, 2), left);
            Check.due("LENGTH is as it was", x.queue(0, 0, 1), 3);
            Check.due("of the second", x.queue(0, 1, 2), 9);
        }
        x.minute(1);
        Check.due("the second one is the first then", x.queue(0, 0, 2), 9);
        x = twoLetters();
        x.letter(1, 2, 7);
        x.minute(2);
        Check.due("the first one of another office", x.queue(1, 0, 2), 7);
    }

    // ---- promise 20

    private static void token() {
        Check.about("20", "token: a token");
        for (int odd : new int[] {-1, 1, 2, 3, LEAST, GREATEST}) Check.refused("token " + odd, new RingOffices(), INVALID, r -> r.token(odd, 0));
        RingOffices x = new RingOffices();
        x.stray(1);
        x.stray(2);
        Check.due("2 of three", x.token(2, 0), 3);
        Check.due("3 of three", x.token(3, 0), INVALID);
        for (int i = 0; i < 3; i++) x.lose(0);
        Check.due("0 of none", x.token(0, 0), INVALID);
        Check.about("20", "INVALID for .. any other what");
        for (int odd : new int[] {-1, 5, LEAST, GREATEST}) Check.refused("what " + odd, new RingOffices(), INVALID, r -> r.token(0, odd));
        Check.about("20", "1 the office AT which it is or to which it is ON THE WAY, 2 TOGO (0 if it is AT)");
        x = new RingOffices();
        x.minute(1);
        Check.due("to which it is ON THE WAY", x.token(0, 1), 1);
        Check.due("TOGO", x.token(0, 2), 2);
        x.minute(2);
        Check.due("AT which it is", x.token(0, 1), 1);
        Check.due("TOGO", x.token(0, 2), 0);
        Check.about("20", "3 TURN (0 if it is ON THE WAY)");
        x = new RingOffices();
        x.letter(0, 1, 4);
        x.minute(5);
        Check.due("TURN", x.token(0, 3), 4);
        x.minute(1);
        Check.due("TURN ON THE WAY", x.token(0, 3), 0);
        Check.about("20", "4 LEFT (0 if it is not SPEAKING)");
        x = new RingOffices();
        x.letter(0, 1, 2);
        int[] left = {0, 2, 1, 0, 0};
        for (int due : left) {
            Check.due("LEFT", x.token(0, 4), due);
            x.minute(1);
        }
        Check.about("20", "by how they stand: the one behind a token that is gone takes its place");
        x = new RingOffices();
        x.stray(1);
        x.stray(2);
        x.lose(0);
        Check.due("NUMBER of 0", x.token(0, 0), 2);
        Check.due("NUMBER of 1", x.token(1, 0), 3);
        Check.due("AT", x.token(1, 1), 2);
    }

    // ---- promises 21 to 23

    private static void winner() {
        Check.about("21", "Returns the open office with the greatest NAME");
        RingOffices x = new RingOffices();
        Check.due("winner", x.winner(), 1);
        x.shut(1, 0);
        Check.due("winner, as that is shut", x.winner(), 0);
        x.set(2, 1, 99);
        Check.due("winner by another NAME", x.winner(), 2);
        x.set(2, 1, 39);
        Check.due("winner by another NAME", x.winner(), 0);
        Check.due("winner of ten", Check.made(TEN).winner(), 8);
        Check.due("winner with a NAME of 1", Check.made("speak 1 quiet 1 quota 1;office 1 9 shut;office 1 1;").winner(), 1);
        Check.about("21", "NOT_FOUND if none is open");
        x.shut(0, 0);
        Check.due("winner", x.winner(), 2);
        x.shut(2, 0);
        Check.refused("winner", x, NOT_FOUND, r -> r.winner());
        Check.about("21", "the office that would get a token gets it");
        x.shut(0, 1);
        x.minute(10);
        Check.due("token AT it", x.office(0, 6), 0);
    }

    private static void round() {
        Check.about("22", "Returns the sum of all WAYs.");
        Check.due("round", new RingOffices().round(), 6);
        Check.due("round of ten", Check.made(TEN).round(), 90);
        Check.due("round of two", Check.made("speak 1 quiet 1 quota 1;office 1 9;office 1 1;").round(), 2);
        RingOffices x = Check.made(TEN);
        x.set(9, 0, 1);
        x.shut(0, 0);
        Check.due("round with a shut office", x.round(), 82);
    }

    private static void busiest() {
        Check.about("23", "of several the smallest one");
        RingOffices x = new RingOffices();
        Check.due("no letters at all", x.busiest(), 0);
        x.letter(1, 0, 4);
        x.letter(2, 0, 4);
        Check.due("two with the same sum", x.busiest(), 1);
        x.letter(0, 1, 3);
        x.letter(0, 1, 1);
        Check.due("three with the same sum", x.busiest(), 0);
        Check.about("23", "Returns the office with the greatest office(.., 5)");
        x.letter(2, 0, 1);
        Check.due("the last one", x.busiest(), 2);
        x = new RingOffices();
        x.letter(0, 1, 1);
        x.letter(0, 1, 1);
        x.letter(1, 0, 3);
        Check.due("by the sum, not by how many", x.busiest(), 1);
        x.shut(1, 0);
        Check.due("a shut one, too", x.busiest(), 1);
    }

    // ---- promise 24

    private static void why() {
        Check.about("24", "INVALID for an invalid argument");
        for (int odd : new int[] {-1, 3, LEAST, GREATEST}) Check.refused("why(" + odd + ")", new RingOffices(), INVALID, r -> r.why(odd));
        Check.about("24", "0 a token AT it is SPEAKING");
        RingOffices x = new RingOffices();
        x.letter(0, 1, 2);
        x.minute(1);
        Check.due("as it begins", x.why(0), 0);
        x.minute(1);
        Check.due("in its last minute", x.why(0), 0);
        x.minute(1);
        Check.due("as it is gone", x.why(0), 3);
        Check.about("24", "1 it is shut");
        x = new RingOffices();
        x.shut(1, 0);
        Check.due("why(1)", x.why(1), 1);
        Check.about("24", "2 no token is AT it");
        Check.due("why(2)", x.why(2), 2);
        x.minute(1);
        Check.due("the office that it has left", x.why(0), 2);
        x = new RingOffices();
        x.letter(1, 0, 1);
        x.minute(2);
        Check.due("the office to which it is ON THE WAY", x.why(1), 2);
        Check.about("24", "3 there is no letter");
        Check.due("why(0)", new RingOffices().why(0), 3);
        Check.about("24", "4 the first one is longer than what is left of SPEAK in this TURN");
        x = new RingOffices();
        x.letter(0, 1, 4);
        x.letter(0, 1, 3);
        Check.due("LENGTH 4, SPEAK 6", x.why(0), 6);
        x.minute(5);
        Check.due("LENGTH 3, 2 are left", x.why(0), 4);
        x.rule(0, 7);
        Check.due("LENGTH 3, 3 are left", x.why(0), 6);
        x.rule(0, 3);
        Check.due("less than nothing is left", x.why(0), 4);
        Check.about("24", "5 than what is left of QUOTA");
        x.rule(0, 20);
        x.rule(2, 6);
        Check.due("LENGTH 3, 2 are left", x.why(0), 5);
        x.rule(2, 7);
        Check.due("LENGTH 3, 3 are left", x.why(0), 6);
        x.rule(2, 1);
        Check.due("less than nothing is left", x.why(0), 5);
        Check.about("24", "6 it will begin in the next minute");
        x.rule(2, 7);
        x.minute(1);
        Check.due("LEFT", x.token(0, 4), 3);
    }

    private static void whyInOrder() {
        Check.about("24", "otherwise the first that holds");
        RingOffices x = new RingOffices();
        x.shut(1, 0);
        Check.due("shut, without a token, without a letter", x.why(1), 1);
        Check.due("without a token, without a letter", x.why(2), 2);
        x.letter(2, 0, 9);
        Check.due("without a token, longer than SPEAK", x.why(2), 2);
        x.letter(1, 0, 9);
        Check.due("shut, without a token, longer than SPEAK", x.why(1), 1);
        x.letter(0, 1, 7);
        x.rule(2, 6);
        Check.due("longer than SPEAK and QUOTA", x.why(0), 4);
        x.rule(0, 7);
        Check.due("longer than QUOTA", x.why(0), 5);
        x = new RingOffices();
        x.letter(0, 1, 5);
        x.letter(0, 1, 9);
        x.minute(3);
        x.rule(0, 1);
        x.rule(2, 1);
        Check.due("SPEAKING, whatever the limits are", x.why(0), 0);
        Check.about("24", "all by now; perhaps a new day begins then");
        x = new RingOffices();
        x.minute(53);
        x.lose(0);
        x.stray(0);
        x.rule(0, 20);
        x.rule(2, 5);
        x.letter(0, 1, 5);
        x.letter(0, 1, 5);
        x.minute(6);
        Check.due("why at 59", x.why(0), 5);
        x.minute(1);
        Check.due("why at 60", x.why(0), 0);
    }

    // ---- promise 32

    private static void log() {
        Check.about("32", "INVALID for a negative i");
        RingOffices x = twoLetters();
        for (int odd : new int[] {-1, LEAST}) Check.refused("i " + odd, x, INVALID, r -> r.log(odd, 0));
        Check.due("i -1 of an empty log", new RingOffices().log(-1, 0), INVALID);
        Check.about("32", "INVALID for .. any other what");
        for (int odd : new int[] {-1, 3, LEAST, GREATEST}) Check.refused("what " + odd, x, INVALID, r -> r.log(0, odd));
        Check.about("32", "NOT_FOUND if there are not so many");
        for (int i : new int[] {2, 39, 40, GREATEST}) Check.refused("i " + i, x, NOT_FOUND, r -> r.log(i, 0));
        Check.due("0 of an empty log", new RingOffices().log(0, 0), NOT_FOUND);
        Check.about("7 of the terms", "INVALID .. is checked before any other special result: log()");
        Check.due("what 3 of an empty log", new RingOffices().log(0, 3), INVALID);
        Check.about("32", "index, from 0 for the oldest one that is kept; 0 its kind, 1 its first number, 2 its second number");
        x.rule(1, 9);
        int[] due = {0, 0, 3, 0, 0, 9, 8, 1, 10};
        for (int k = 0; k < 9; k++) Check.due("log(" + k / 3 + ", " + k % 3 + ")", x.log(k / 3, k % 3), due[k]);
    }

    private static void logOfForty() {
        Check.about("5 of the terms", "The log has the latest 40 entries");
        for (int many : new int[] {39, 40, 41, 79, 80, 81, 200}) {
            RingOffices x = new RingOffices();
            for (int i = 0; i < many; i++) x.rule(1, i % 99 + 1);
            int kept = Math.min(many, 40);
            Check.due("entries of " + many, x.value(19), kept);
            Check.due("log(kept, 0)", x.log(kept, 0), NOT_FOUND);
            // The former number of each entry is the value of the one ahead of it.
            for (int k = 0; k < kept; k++) {
                int i = many - kept + k - 1;
                int former = i < 0 ? 10 : i % 99 + 1;
                Check.due("second number of " + k + " of " + many, x.log(k, 2), former);
            }
        }
    }

    // ---- promises 33 and 34

    private static void spoken() {
        Check.about("33", "0 if TIME is 0");
        Check.due("spoken", new RingOffices().spoken(), 0);
        RingOffices x = twoLetters();
        x.minute(3);
        x.undo();
        Check.due("spoken, as the minutes are undone", x.spoken(), 0);
        Check.about("33", "Returns value(18), as a float, divided by TIME, as a float");
        int[] minutes = {1, 2, 3, 3, 3};
        for (int k = 0; k < minutes.length; k++) {
            x.minute(minutes[k]);
            Check.due("spoken", x.spoken(), (float) x.value(18) / (float) x.value(3));
        }
        x = new RingOffices();
        x.minute(3);
        Check.due("spoken, nothing was spoken", x.spoken(), 0);
        x = twoLetters();
        x.minute(3);
        Check.due("two of three", x.spoken(), 2.0f / 3.0f);
        Check.due("not as a double", x.spoken() == 2.0 / 3.0 ? 1 : 0, 0);
        x = new RingOffices();
        x.stray(1);
        x.stray(2);
        for (int o = 0; o < 3; o++) x.letter(o, (o + 1) % 3, 6);
        x.minute(7);
        Check.due("more than one a minute", x.spoken(), 18.0f / 7.0f);
    }

    private static void meanLength() {
        Check.about("34", "0 without letters");
        Check.due("meanLength", new RingOffices().meanLength(), 0);
        RingOffices x = twoLetters();
        x.cancel(0, 0);
        x.cancel(0, 0);
        Check.due("meanLength, as they are taken back", x.meanLength(), 0);
        Check.about("34", "Returns value(9), as a double, divided by value(8), as a double");
        x = twoLetters();
        Check.due("two", x.meanLength(), 6);
        x.letter(2, 0, 1);
        Check.due("three", x.meanLength(), 13.0 / 3.0);
        Check.due("not as a float", x.meanLength() == 13.0f / 3.0f ? 1 : 0, 0);
        x.letter(1, 0, 1);
        Check.due("four", x.meanLength(), 3.5);
        x.minute(3);
        Check.due("LENGTH, not LEFT", x.meanLength(), 3.5);
    }
}
