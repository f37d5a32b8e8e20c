/** Sentence by sentence, each on new objects: promise 11, sections 1 to 3 of the terms, and the log of minutes. */
public final class EdgesOfMinutesTest {
    private static final int INVALID = RingOffices.INVALID;
    private static final int NOT_FOUND = RingOffices.NOT_FOUND;
    private static final int FULL = RingOffices.FULL;
    private static final String TWO = "speak 6 quiet 4 quota 9;office 1 5;office 2 6;";

    public static void main(String[] args) {
        arguments();
        full();
        ring();
        day();
        quotaOfDay();
        onTheWay();
        shutOffices();
        speaking();
        readOrVain();
        limitOfTurn();
        limitOfDay();
        settingOut();
        tornUp();
        tornUpLetters();
        clashes();
        silence();
        election();
        electionWithoutOffices();
        logOfMinutes();
        orderOfTokens();
        Check.end("EdgesOfMinutesTest");
    }

    private static void tokens(String when, RingOffices x, String due) {
        Check.dueText("tokens " + when, Check.tokens(x), due);
    }

    // ---- promise 11

    private static void arguments() {
        Check.about("11", "many: 1 to 100");
        for (int odd : new int[] {-1, 0, 101, Check.LEAST, Check.GREATEST}) Check.refused("minute(" + odd + ")", new RingOffices(), INVALID, r -> r.minute(odd));
        RingOffices x = new RingOffices();
        Check.due("minute(1)", x.minute(1), 0);
        Check.due("TIME", x.value(3), 1);
        Check.due("minute(100)", x.minute(100), 0);
        Check.due("TIME", x.value(3), 101);
        Check.about("11", "Lets minutes pass: many at once are as one by one");
        x = new RingOffices();
        RingOffices y = new RingOffices();
        for (RingOffices z : new RingOffices[] {x, y}) {
            z.letter(0, 1, 4);
            z.letter(1, 2, 6);
            z.letter(2, 0, 2);
        }
        x.minute(37);
        for (int i = 0; i < 37; i++) y.minute(1);
        Check.dueText("what is told", Check.all(x), Check.all(y));
        Check.about("11", "Returns how many letters are READ in them");
        x = new RingOffices();
        x.letter(0, 1, 2);
        x.letter(0, 1, 1);
        x.letter(0, 2, 1);
        Check.due("minute(2)", x.minute(2), 0);
        Check.due("minute(1)", x.minute(1), 1);
        Check.due("minute(4)", x.minute(4), 2);
        Check.due("minute(100)", x.minute(100), 0);
        x = new RingOffices();
        x.letter(0, 1, 2);
        x.shut(1, 0);
        Check.due("minutes with a VAIN letter", x.minute(100), 0);
    }

    private static RingOffices at(int time) {
        RingOffices x = new RingOffices();
        for (int i = 0; i < time / 100; i++) x.minute(100);
        if (time % 100 > 0) x.minute(time % 100);
        Check.due("TIME", x.value(3), time);
        return x;
    }

    private static void full() {
        Check.about("11", "FULL: TIME would be above 9999");
        RingOffices x = at(9998);
        Check.refused("minute(2) at 9998", x, FULL, r -> r.minute(2));
        Check.refused("minute(100) at 9998", x, FULL, r -> r.minute(100));
        Check.due("minute(1) at 9998", x.minute(1), 0);
        Check.due("TIME", x.value(3), 9999);
        Check.refused("minute(1) at 9999", x, FULL, r -> r.minute(1));
        Check.due("minute(100) at 9899", at(9899).minute(100), 0);
        Check.due("minute(100) at 9900", at(9900).minute(100), FULL);
        Check.due("minute(99) at 9900", at(9900).minute(99), 0);
        Check.about("7 of the terms", "INVALID .. is checked before any other special result: minute()");
        Check.refused("minute(0) at 9999", x, INVALID, r -> r.minute(0));
        Check.refused("minute(101) at 9999", x, INVALID, r -> r.minute(101));
        Check.about("2 of the terms", "TIME is 0 at first, 9999 at most: other operations go on then");
        Check.due("letter", x.letter(0, 1, 1), 1);
        x.undo();
        x.undo();
        Check.due("TIME, undone", x.value(3), 9998);
        Check.due("TIME of a new object", new RingOffices().value(3), 0);
    }

    // ---- sections 1 and 2

    private static void ring() {
        Check.about("1 of the terms", "behind the last one comes the office 0 again");
        RingOffices x = Check.made(TWO + "token 1;");
        x.minute(1);
        tokens("of two offices", x, "1 0 2 0 0;");
        x.minute(3);
        tokens("of two offices, once more", x, "1 1 1 0 0;");
        StringBuilder ten = new StringBuilder("speak 6 quiet 4 quota 9;");
        for (int o = 0; o < 10; o++) ten.append("office 1 ").append(o + 1).append(';');
        x = Check.made(ten + "token 8;");
        x.minute(1);
        tokens("behind the office 8 of ten", x, "1 9 1 0 0;");
        x.minute(2);
        tokens("behind the office 9 of ten", x, "1 0 1 0 0;");
        x = new RingOffices();
        x.stray(2);
        x.minute(1);
        tokens("behind the office 2 of three", x, "1 1 2 0 0;2 0 1 0 0;");
        Check.about("1 of the terms", "behind the last one: also from a shut office");
        x = Check.made("speak 6 quiet 4 quota 9;office 1 5;office 1 6;office 7 7 shut;token 1;");
        x.minute(2);
        tokens("behind the last one, which is shut", x, "1 0 7 0 0;");
    }

    private static void day() {
        Check.about("2 of the terms", "a day has 60 minutes: as TIME becomes a multiple of 60, SPOKEN of all offices is 0");
        RingOffices x = new RingOffices();
        x.letter(0, 1, 4);
        x.letter(1, 2, 5);
        x.letter(2, 0, 6);
        x.minute(59);
        for (int o = 0; o < 3; o++) Check.due("SPOKEN of " + o + " at 59", x.office(o, 3), 4 + o);
        x.minute(1);
        for (int o = 0; o < 3; o++) Check.due("SPOKEN of " + o + " at 60", x.office(o, 3), 0);
        x = at(61);
        while (x.office(0, 6) < 0) x.minute(1);
        x.letter(0, 1, 4);
        x.minute(10);
        Check.due("SPOKEN of 0 on the second day", x.office(0, 3), 4);
        while (x.value(3) < 119) x.minute(1);
        Check.due("SPOKEN of 0 at 119", x.office(0, 3), 4);
        x.minute(1);
        Check.due("SPOKEN of 0 at 120", x.office(0, 3), 0);
        Check.about("2 of the terms", "SPOKEN of all offices, ten of them");
        StringBuilder ten = new StringBuilder("speak 6 quiet 4 quota 9;");
        for (int o = 0; o < 10; o++) ten.append("office 1 ").append(o + 1).append(';');
        for (int o = 0; o < 10; o++) ten.append("letter ").append(o).append(' ').append((o + 1) % 10).append(" 1;");
        RingOffices y = Check.made(ten + "token 0;");
        y.minute(59);
        for (int o = 0; o < 10; o++) Check.due("SPOKEN of " + o + " at 59", y.office(o, 3), 1);
        for (int o = 0; o < 10; o++) Check.due("READ to " + o + " at 59", y.office(o, 7), 1);
        y.minute(1);
        for (int o = 0; o < 10; o++) Check.due("SPOKEN of " + o + " at 60", y.office(o, 3), 0);
        for (int o = 0; o < 10; o++) Check.due("READ to " + o + " at 60", y.office(o, 7), 1);
        Check.about("2 of the terms", "SPOKEN alone begins again with a day");
        Check.due("minutes spoken so far", x.value(18), 4);
        Check.due("READ so far", x.value(11), 1);
    }

    /** At the office 0 at 58, with a letter of this LENGTH. */
    private static RingOffices lateInTheDay(int length) {
        RingOffices x = at(57);
        x.lose(0);
        x.stray(0);
        x.letter(0, 1, length);
        x.minute(1);
        Check.due("LEFT at 58", x.token(0, 4), length);
        return x;
    }

    private static void quotaOfDay() {
        Check.about("3 of the terms", "TIME grows by 1 (and perhaps a new day begins). Then each token ..");
        RingOffices x = lateInTheDay(4);
        x.minute(1);
        Check.due("SPOKEN at 59", x.office(0, 3), 1);
        x.minute(1);
        Check.due("SPOKEN at 60: the minute is of the new day", x.office(0, 3), 1);
        x.minute(2);
        Check.due("SPOKEN at 62", x.office(0, 3), 3);
        Check.about("3 of the terms", "LENGTH .. nor above QUOTA less SPOKEN: of the day that begins in this minute");
        x = at(53);
        x.lose(0);
        x.stray(0);
        x.rule(2, 5);
        x.letter(0, 1, 5);
        x.minute(6);
        Check.due("TURN at 59", x.token(0, 3), 5);
        x.rule(0, 20);
        x.letter(0, 1, 5);
        Check.due("why at 59", x.why(0), 5);
        x.minute(1);
        Check.due("LEFT at 60", x.token(0, 4), 5);
    }

    // ---- section 3

    private static void onTheWay() {
        Check.about("3 of the terms", "ON THE WAY: TOGO becomes 1 less");
        RingOffices x = new RingOffices();
        x.minute(1);
        tokens("sets out", x, "1 1 2 0 0;");
        x.minute(1);
        tokens("one less", x, "1 1 1 0 0;");
        Check.about("3 of the terms", "if it is 0, the token is AT the office, with a TURN of 0 (no more in this minute)");
        x.letter(1, 2, 1);
        x.minute(1);
        tokens("is AT it, and does not begin", x, "1 1 0 0 0;");
        x.minute(1);
        tokens("begins", x, "1 1 0 0 1;");
        x = new RingOffices();
        x.letter(0, 1, 5);
        x.letter(1, 2, 5);
        x.minute(9);
        tokens("a TURN of 0 behind one of 5", x, "1 1 0 0 0;");
        Check.about("3 of the terms", "a WAY of 1 takes one minute, one of 9 takes nine");
        x = new RingOffices();
        x.set(0, 0, 1);
        x.minute(1);
        tokens("sets out", x, "1 1 1 0 0;");
        x.minute(1);
        tokens("is AT it", x, "1 1 0 0 0;");
        x = new RingOffices();
        x.set(0, 0, 9);
        x.minute(9);
        tokens("behind 9 minutes", x, "1 1 1 0 0;");
        x.minute(1);
        tokens("behind 10 minutes", x, "1 1 0 0 0;");
    }

    private static void shutOffices() {
        Check.about("3 of the terms", "if that is shut, it sets out at once");
        RingOffices x = new RingOffices();
        x.shut(1, 0);
        x.letter(1, 2, 1);
        x.minute(2);
        tokens("one minute ahead of it", x, "1 1 1 0 0;");
        x.minute(1);
        tokens("it sets out at once", x, "1 2 3 0 0;");
        x = new RingOffices();
        x.shut(1, 0);
        x.shut(2, 0);
        x.minute(6);
        tokens("past a second one", x, "1 0 1 0 0;");
        x.shut(0, 0);
        x.minute(1);
        tokens("all are shut", x, "1 1 2 0 0;");
        x.minute(12);
        tokens("all are shut, twice round", x, "1 1 2 0 0;");
        Check.about("3 of the terms", "if that is shut: as it is when the token comes");
        x = new RingOffices();
        x.shut(1, 0);
        x.minute(2);
        x.shut(1, 1);
        x.minute(1);
        tokens("opened in time", x, "1 1 0 0 0;");
    }

    private static void speaking() {
        Check.about("3 of the terms", "SPEAKING: LEFT becomes 1 less, TURN and SPOKEN 1 more");
        RingOffices x = new RingOffices();
        x.letter(0, 1, 3);
        x.minute(1);
        tokens("begins: no minute is spoken yet", x, "1 0 0 0 3;");
        Check.due("SPOKEN", x.office(0, 3), 0);
        x.minute(1);
        tokens("one minute", x, "1 0 0 1 2;");
        Check.due("SPOKEN", x.office(0, 3), 1);
        x.minute(1);
        tokens("two minutes", x, "1 0 0 2 1;");
        Check.due("letters", x.value(8), 1);
        x.minute(1);
        tokens("three minutes", x, "1 0 0 3 0;");
        Check.due("SPOKEN", x.office(0, 3), 3);
        Check.due("minutes spoken", x.value(18), 3);
        Check.about("3 of the terms", "if LEFT is 0, the letter is gone");
        Check.due("letters", x.value(8), 0);
        Check.about("3 of the terms", "the next one begins in the minute behind it, and TURN goes on");
        x = new RingOffices();
        x.letter(0, 1, 1);
        x.letter(0, 2, 2);
        x.minute(2);
        tokens("the first one is gone", x, "1 0 0 1 0;");
        x.minute(1);
        tokens("the second one begins", x, "1 0 0 1 2;");
        x.minute(2);
        tokens("the second one is gone", x, "1 0 0 3 0;");
        x.minute(1);
        tokens("nothing is left: it sets out", x, "1 1 2 0 0;");
    }

    private static void readOrVain() {
        Check.about("3 of the terms", "it is READ if the office to which it goes is open, otherwise it is VAIN");
        for (int isOpen = 0; isOpen < 2; isOpen++) {
            RingOffices x = new RingOffices();
            x.letter(0, 1, 2);
            if (isOpen == 0) x.shut(1, 0);
            Check.due("READ in them", x.minute(3), isOpen);
            Check.due("READ", x.value(11), isOpen);
            Check.due("VAIN", x.value(12), 1 - isOpen);
            Check.due("READ to it", x.office(1, 7), isOpen);
            Check.due("minutes spoken", x.value(18), 2);
        }
        Check.about("3 of the terms", "is open: in its last minute, not as it began or came");
        RingOffices x = new RingOffices();
        x.letter(0, 1, 2);
        x.shut(1, 0);
        x.minute(2);
        x.shut(1, 1);
        Check.due("opened in time", x.minute(1), 1);
        x = new RingOffices();
        x.letter(0, 1, 2);
        x.minute(2);
        x.shut(1, 0);
        Check.due("shut in time", x.minute(1), 0);
        Check.due("VAIN", x.value(12), 1);
        Check.about("3 of the terms", "the office that is TO it counts, not the one behind it");
        x = new RingOffices();
        x.letter(0, 2, 1);
        x.shut(1, 0);
        Check.due("READ", x.minute(2), 1);
        Check.due("READ to 2", x.office(2, 7), 1);
        Check.due("READ to 1", x.office(1, 7), 0);
    }

    private static void limitOfTurn() {
        Check.about("3 of the terms", "its LENGTH is not above SPEAK less TURN");
        for (int speak = 1; speak <= 20; speak++) {
            for (int length = 1; length <= 9; length++) {
                RingOffices x = new RingOffices();
                x.rule(0, speak);
                x.letter(0, 1, length);
                x.minute(1);
                Check.due("LEFT with SPEAK " + speak + ", LENGTH " + length, x.token(0, 4), length <= speak ? length : 0);
                Check.due("it stays", x.token(0, 1), length <= speak ? 0 : 1);
            }
        }
        RingOffices x = new RingOffices();
        x.letter(0, 1, 4);
        x.letter(0, 1, 2);
        x.minute(6);
        tokens("just SPEAK less TURN", x, "1 0 0 4 2;");
        x = new RingOffices();
        x.letter(0, 1, 4);
        x.letter(0, 1, 3);
        x.minute(6);
        tokens("one above SPEAK less TURN", x, "1 1 2 0 0;");
        x = new RingOffices();
        x.letter(0, 1, 6);
        x.letter(0, 1, 1);
        x.minute(8);
        tokens("SPEAK less TURN of 0", x, "1 1 2 0 0;");
        x = new RingOffices();
        x.letter(0, 1, 5);
        x.letter(0, 1, 1);
        x.minute(3);
        x.rule(0, 3);
        x.minute(3);
        tokens("a letter that has begun goes on under a smaller SPEAK", x, "1 0 0 5 0;");
        x.minute(1);
        tokens("SPEAK less TURN below 0", x, "1 1 2 0 0;");
        Check.about("3 of the terms", "there is a letter: the first one alone counts");
        x = new RingOffices();
        x.letter(0, 1, 7);
        x.letter(0, 1, 1);
        x.minute(1);
        tokens("a short letter behind a long one waits", x, "1 1 2 0 0;");
    }

    private static void limitOfDay() {
        Check.about("3 of the terms", "nor above QUOTA less SPOKEN");
        for (int quota = 1; quota <= 10; quota++) {
            for (int length = 1; length <= 9; length++) {
                RingOffices x = new RingOffices();
                x.rule(0, 20);
                x.rule(2, quota);
                x.letter(0, 1, length);
                x.minute(1);
                Check.due("LEFT with QUOTA " + quota + ", LENGTH " + length, x.token(0, 4), length <= quota ? length : 0);
            }
        }
        RingOffices x = new RingOffices();
        x.rule(2, 5);
        x.letter(0, 1, 3);
        x.letter(0, 1, 2);
        x.minute(5);
        tokens("just QUOTA less SPOKEN", x, "1 0 0 3 2;");
        x = new RingOffices();
        x.rule(2, 5);
        x.letter(0, 1, 3);
        x.letter(0, 1, 3);
        x.minute(5);
        tokens("one above QUOTA less SPOKEN", x, "1 1 2 0 0;");
        x = new RingOffices();
        x.letter(0, 1, 5);
        x.letter(0, 1, 1);
        x.minute(3);
        x.rule(2, 3);
        x.minute(3);
        tokens("a letter that has begun goes on under a smaller QUOTA", x, "1 0 0 5 0;");
        x.minute(1);
        tokens("QUOTA less SPOKEN below 0", x, "1 1 2 0 0;");
        Check.about("3 of the terms", "SPOKEN is of the office, whichever token speaks and in however many turns");
        x = new RingOffices();
        x.rule(2, 5);
        x.letter(0, 1, 3);
        x.minute(4);
        x.stray(0);
        x.letter(0, 1, 3);
        x.minute(1);
        tokens("another token", x, "2 1 2 0 0;");
        x.cancel(0, 0);
        x.letter(0, 1, 2);
        x.letter(1, 2, 5);
        Check.due("both are READ: another office has a quota of its own", x.minute(30), 2);
    }

    private static void settingOut() {
        Check.about("3 of the terms", "otherwise it sets out: ON THE WAY to the next office, with a TOGO of the WAY");
        RingOffices x = new RingOffices();
        x.minute(1);
        tokens("without a letter", x, "1 1 2 0 0;");
        x.minute(3);
        tokens("with the WAY of the office from which it goes", x, "1 2 3 0 0;");
        x = new RingOffices();
        x.letter(0, 1, 4);
        x.letter(0, 1, 3);
        x.minute(6);
        tokens("without its TURN", x, "1 1 2 0 0;");
    }

    /** The token 1 comes to the office 1 in the third minute, and the token 2 is there, with a letter or none. */
    private static RingOffices meeting(int length) {
        RingOffices x = new RingOffices();
        if (length > 0) x.letter(1, 0, length);
        x.minute(2);
        x.stray(1);
        return x;
    }

    private static void tornUp() {
        Check.about("3 of the terms", "as long as two tokens are AT the same office, the one with the smaller NUMBER is torn up");
        RingOffices x = meeting(5);
        x.minute(1);
        tokens("the one that comes is the older one", x, "2 1 0 0 5;");
        Check.due("torn up", x.value(15), 1);
        Check.due("lost", x.value(16), 0);
        x = new RingOffices();
        x.letter(0, 1, 6);
        x.minute(4);
        x.stray(2);
        x.minute(1);
        tokens("one minute ahead", x, "1 0 0 4 2;2 0 1 0 0;");
        x.minute(1);
        tokens("the one that is there is the older one", x, "2 0 0 0 0;");
        Check.about("3 of the terms", "AT the same office: as one sets out and the other comes, they do not meet");
        x = meeting(0);
        x.minute(1);
        tokens("one has set out", x, "1 1 0 0 0;2 2 3 0 0;");
        Check.due("torn up", x.value(15), 0);
        Check.about("3 of the terms", "AT the same office: not ON THE WAY to the same one");
        x = new RingOffices();
        x.set(0, 0, 3);
        x.minute(1);
        x.set(0, 0, 2);
        x.stray(0);
        x.minute(1);
        tokens("both ON THE WAY", x, "1 1 2 0 0;2 1 2 0 0;");
        x.minute(1);
        tokens("both ON THE WAY", x, "1 1 1 0 0;2 1 1 0 0;");
        x.keep(0);
        x.minute(1);
        tokens("both AT it", x, "2 1 0 0 0;");
        x.restore(0);
        x.shut(1, 0);
        x.minute(1);
        tokens("both past a shut one", x, "1 2 3 0 0;2 2 3 0 0;");
        Check.about("3 of the terms", "as long as: of three the greatest NUMBER is left");
        x = three();
        x.minute(1);
        tokens("one of three", x, "3 1 0 0 0;");
        Check.due("torn up", x.value(15), 2);
        Check.about("5 of the terms", "3 a token is torn up (its NUMBER, the office; of several in one minute by NUMBERS)");
        Check.dueText("log", Check.log(x).substring(Check.log(x).length() - 12), "3 1 1;3 2 1;");
    }

    /** Three tokens with one minute to go to the office 1. */
    private static RingOffices three() {
        RingOffices x = new RingOffices();
        x.set(0, 0, 3);
        x.minute(1);
        x.set(0, 0, 2);
        x.stray(0);
        x.minute(1);
        x.set(0, 0, 1);
        x.stray(0);
        x.minute(1);
        tokens("of three", x, "1 1 1 0 0;2 1 1 0 0;3 1 1 0 0;");
        return x;
    }

    private static void tornUpLetters() {
        Check.about("3 of the terms", "the letter with which it is SPEAKING stays first in the queue");
        RingOffices x = new RingOffices();
        x.letter(0, 1, 6);
        x.letter(0, 2, 1);
        x.minute(4);
        x.stray(2);
        x.minute(2);
        tokens("the one that spoke is torn up", x, "2 0 0 0 0;");
        Check.dueText("list", Check.list(x), "0:40/6>1/1>2@2\n1:70\n2:20\n");
        Check.due("LEFT", x.queue(0, 0, 2), 6);
        Check.due("READ", x.value(11) + x.value(12), 0);
        Check.due("SPOKEN", x.office(0, 3), 5);
        x.minute(1);
        Check.due("LEFT of the one that is there", x.token(0, 4), 6);
        Check.about("3 of the terms", "Behind all tokens: a letter whose LEFT becomes 0 in the same minute is gone");
        x = new RingOffices();
        x.letter(0, 1, 5);
        x.minute(4);
        x.stray(2);
        Check.due("READ", x.minute(2), 1);
        tokens("torn up then", x, "2 0 0 0 0;");
        Check.about("3 of the terms", "Behind all tokens: one that begins in the same minute is torn up, too");
        x = new RingOffices();
        x.letter(1, 0, 4);
        x.minute(1);
        x.stray(0);
        x.minute(2);
        tokens("one minute apart", x, "1 1 0 0 0;2 1 1 0 0;");
        x.minute(1);
        tokens("the first one began and is torn up", x, "2 1 0 0 0;");
        Check.due("its letter", x.queue(1, 0, 2), 4);
        Check.due("SPOKEN", x.office(1, 3), 0);
        x.minute(1);
        tokens("the second one begins", x, "2 1 0 0 4;");
    }

    private static void clashes() {
        Check.about("3 of the terms", "If two or more tokens are SPEAKING then, CLASHES grow by 1.");
        for (int many = 0; many <= 3; many++) {
            RingOffices x = new RingOffices();
            x.stray(1);
            x.stray(2);
            // So long a WAY that none comes to another one.
            for (int o = 0; o < 3; o++) x.set(o, 0, 9);
            for (int o = 0; o < many; o++) x.letter(o, (o + 1) % 3, 3);
            x.minute(1);
            Check.due("CLASHES of " + many, x.value(17), many >= 2 ? 1 : 0);
            x.minute(1);
            Check.due("CLASHES of " + many + ", two minutes", x.value(17), many >= 2 ? 2 : 0);
            x.minute(2);
            Check.due("CLASHES of " + many + ", as LEFT is 0", x.value(17), many >= 2 ? 3 : 0);
        }
        Check.about("3 of the terms", "then: behind the tearing");
        RingOffices x = new RingOffices();
        x.letter(0, 1, 6);
        x.letter(1, 2, 6);
        x.minute(4);
        x.stray(2);
        x.stray(1);
        x.minute(1);
        Check.due("CLASHES of two that speak", x.value(17), 1);
        x.minute(1);
        tokens("one is torn up", x, "2 0 0 0 0;3 1 0 1 5;");
        Check.due("CLASHES, as one of the two is torn up", x.value(17), 1);
        Check.about("3 of the terms", "CLASHES are of minutes: a stray token makes none");
        Check.due("CLASHES", strayed().value(17), 0);
    }

    private static RingOffices strayed() {
        RingOffices x = new RingOffices();
        x.letter(0, 1, 6);
        x.minute(2);
        x.stray(1);
        x.stray(2);
        return x;
    }

    private static void silence() {
        Check.about("3 of the terms", "Without any token, SILENCE grows by 1");
        RingOffices x = new RingOffices();
        x.lose(0);
        Check.due("SILENCE as the token is lost", x.value(7), 0);
        for (int i = 1; i <= 9; i++) {
            x.minute(1);
            Check.due("SILENCE", x.value(7), i);
        }
        Check.about("3 of the terms", "otherwise it is 0");
        x = new RingOffices();
        x.minute(50);
        Check.due("SILENCE with a token that has nothing to say", x.value(7), 0);
        x.lose(0);
        x.minute(5);
        x.stray(0);
        x.minute(1);
        Check.due("SILENCE behind a stray token", x.value(7), 0);
        x.lose(0);
        x.minute(1);
        Check.due("SILENCE begins again", x.value(7), 1);
    }

    private static void election() {
        Check.about("3 of the terms", "if SILENCE is QUIET or more, there is an election");
        int[] quiets = {1, 2, 10, 99};
        for (int quiet : quiets) {
            RingOffices x = new RingOffices();
            x.rule(1, quiet);
            x.lose(0);
            if (quiet > 1) x.minute(quiet - 1);
            Check.due("tokens ahead of QUIET " + quiet, x.value(6), 0);
            Check.due("elections", x.value(14), 0);
            x.minute(1);
            tokens("with QUIET " + quiet, x, "2 1 0 0 0;");
            Check.due("elections", x.value(14), 1);
            Check.about("3 of the terms", "and SILENCE is 0");
            Check.due("SILENCE", x.value(7), 0);
        }
        RingOffices x = new RingOffices();
        x.lose(0);
        x.minute(9);
        x.rule(1, 3);
        Check.due("tokens, as QUIET becomes less than SILENCE", x.value(6), 0);
        x.minute(1);
        Check.due("tokens, a minute later", x.value(6), 1);
        Check.about("3 of the terms", "the open office with the greatest NAME gets a new token, AT it, with a TURN of 0");
        x = new RingOffices();
        x.shut(1, 0);
        x.lose(0);
        x.letter(0, 1, 2);
        x.minute(10);
        tokens("elected", x, "2 0 0 0 0;");
        x.minute(1);
        tokens("it begins in the next minute", x, "2 0 0 0 2;");
        Check.about("3 of the terms", "the NUMBER that is 1 greater than any NUMBER so far");
        x = Check.made(TWO);
        x.minute(4);
        tokens("the first NUMBER of all", x, "1 1 0 0 0;");
        x.stray(0);
        x.lose(1);
        x.lose(0);
        x.minute(4);
        tokens("behind two that are gone", x, "3 1 0 0 0;");
    }

    private static void electionWithoutOffices() {
        Check.about("3 of the terms", "without an open office SILENCE goes on");
        RingOffices x = new RingOffices();
        for (int o = 0; o < 3; o++) x.shut(o, 0);
        x.minute(9);
        Check.due("SILENCE", x.value(7), 9);
        x.minute(1);
        Check.due("SILENCE", x.value(7), 10);
        x.minute(1);
        Check.due("SILENCE", x.value(7), 11);
        x.minute(100);
        Check.due("SILENCE", x.value(7), 111);
        Check.due("elections", x.value(14), 0);
        x.shut(2, 1);
        Check.due("SILENCE, as one is opened", x.value(7), 111);
        x.minute(1);
        tokens("a minute later", x, "2 2 0 0 0;");
        Check.due("SILENCE", x.value(7), 0);
    }

    private static void logOfMinutes() {
        Check.about("5 of the terms", "1 a letter is READ (100 times the office plus TO, LENGTH)");
        RingOffices x = new RingOffices();
        x.letter(2, 1, 4);
        x.stray(2);
        x.minute(5);
        Check.dueText("log", Check.log(x).substring(12), "1 201 4;");
        x = Check.made(TWO + "letter 0 1 3;token 0;");
        x.minute(4);
        Check.dueText("log from the office 0", Check.log(x), "1 1 3;");
        Check.about("5 of the terms", "2 a letter is VAIN (likewise)");
        x = Check.made(TWO.replace("5;", "5 shut;") + "letter 1 0 3;token 1;");
        x.minute(4);
        Check.dueText("log", Check.log(x), "2 100 3;");
        x = new RingOffices();
        x.lose(0);
        x.stray(1);
        x.shut(2, 0);
        x.letter(1, 2, 3);
        x.minute(4);
        Check.dueText("log from the office 1 to the office 2", Check.log(x), "5 1 0;6 2 1;7 2 0;0 1 3;2 102 3;");
        Check.about("5 of the terms", "4 an election (the office, the NUMBER)");
        x = new RingOffices();
        x.lose(0);
        x.minute(10);
        Check.dueText("log", Check.log(x), "5 1 0;4 1 2;");
        Check.about("5 of the terms", "The log has the latest 40 entries: minutes have none of their own");
        x = new RingOffices();
        x.minute(100);
        Check.due("entries", x.value(19), 0);
        Check.due("the entry 0", x.log(0, 0), NOT_FOUND);
    }

    private static void orderOfTokens() {
        Check.about("3 of the terms", "Then each token, by NUMBERS");
        RingOffices x = new RingOffices();
        x.stray(2);
        x.stray(1);
        for (int o = 0; o < 3; o++) x.letter(o, (o + 1) % 3, 2);
        x.minute(3);
        Check.dueText("log", Check.log(x).substring(30), "1 1 2;1 200 2;1 102 2;");
        Check.about("2 of the terms", "they stand in the order of these");
        tokens("by NUMBERS", x, "1 0 0 2 0;2 2 0 2 0;3 1 0 2 0;");
        Check.about("1 of the terms", "a minute ends with at most one token AT each office; none is skipped as another is torn up");
        x = three();
        x.letter(1, 0, 2);
        x.minute(2);
        tokens("the third one goes on", x, "3 1 0 0 2;");
    }
}
