/** Promises 17 to 24 and 32 to 34: what there is, why an office does not speak, the log, the rates. */
public final class LooksTest {
    private static final int LEAST = Integer.MIN_VALUE;
    private static final int GREATEST = Integer.MAX_VALUE;

    public static void main(String[] args) {
        constants();
        value();
        office();
        queue();
        token();
        winner();
        round();
        busiest();
        why();
        logOfForty();
        logKinds();
        rates();
        Check.end("LooksTest");
    }

    private static void constants() {
        Check.due("INVALID", RingOffices.INVALID, -1);
        Check.due("NOT_FOUND", RingOffices.NOT_FOUND, -2);
        Check.due("FULL", RingOffices.FULL, -3);
        Check.due("WRONG_STATE", RingOffices.WRONG_STATE, -4);
    }

    private static void row(String name, int[] got, int... want) {
        Check.dueText(name, java.util.Arrays.toString(got), java.util.Arrays.toString(want));
    }

    private static int[] values(RingOffices x) {
        int[] row = new int[21];
        for (int what = 0; what < 21; what++) row[what] = x.value(what);
        return row;
    }

    private static int[] offices(RingOffices x, int office) {
        int[] row = new int[9];
        for (int what = 0; what < 9; what++) row[what] = x.office(office, what);
        return row;
    }

    /** A ring in which every count has come to a number of its own. */
    private static RingOffices lively() {
        RingOffices x = Check.made("speak 7 quiet 8 quota 31;office 2 40;office 3 70;office 1 20 shut;office 1 7;"
            + "letter 0 1 4;letter 0 2 3;letter 3 0 5;token 0;");
        x.minute(9);
        x.stray(3);
        x.minute(2);
        x.stray(3);
        x.letter(1, 3, 6);
        x.letter(1, 3, 2);
        x.letter(1, 0, 9);
        x.minute(4);
        x.cancel(1, 2);
        x.cancel(1, 1);
        x.lose(0);
        x.lose(0);
        x.lose(0);
        x.minute(19);
        return x;
    }

    private static void value() {
        RingOffices x = new RingOffices();
        row("values of a new object", values(x), 6, 10, 30, 0, 3, 3, 1, 0, 0, 0, 0, 0, 0, 0, 0, 0, 0, 0, 0, 0, 0);
        for (int odd : new int[] {-1, 21, LEAST, GREATEST}) Check.due("value(" + odd + ")", x.value(odd), RingOffices.INVALID);
        x = lively();
        row("values", values(x), 7, 8, 31, 34, 4, 3, 1, 0, 1, 5, 6, 2, 1, 2, 1, 1, 2, 3, 19, 14, 8);
        for (int i = 0; i < 5; i++) x.minute(3);
        x.lose(0);
        x.minute(3);
        Check.due("SILENCE", x.value(7), 3);
    }

    private static void office() {
        RingOffices x = new RingOffices();
        for (int odd : new int[] {-1, 3, 9, 10, LEAST, GREATEST}) Check.due("office(" + odd + ", 0)", x.office(odd, 0), RingOffices.INVALID);
        for (int odd : new int[] {-1, 9, LEAST, GREATEST}) Check.due("office(0, " + odd + ")", x.office(0, odd), RingOffices.INVALID);
        row("office 0", offices(x, 0), 2, 40, 1, 0, 0, 0, 0, 0, 0);
        row("office 1", offices(x, 1), 3, 70, 1, 0, 0, 0, RingOffices.NOT_FOUND, 0, 0);
        x.letter(0, 1, 3);
        x.letter(0, 2, 9);
        x.letter(2, 1, 8);
        x.shut(1, 0);
        x.shut(1, 1);
        x.minute(3);
        x.stray(2);
        x.shut(1, 0);
        row("office 0", offices(x, 0), 2, 40, 1, 2, 2, 12, 0, 0, 0);
        row("office 1", offices(x, 1), 3, 70, 0, 0, 0, 0, RingOffices.NOT_FOUND, 0, 2);
        row("office 2", offices(x, 2), 1, 20, 1, 0, 1, 8, 1, 0, 1);
        x.shut(1, 1);
        x.minute(1);
        row("office 0", offices(x, 0), 2, 40, 1, 3, 1, 9, 0, 0, 0);
        row("office 1", offices(x, 1), 3, 70, 1, 0, 0, 0, RingOffices.NOT_FOUND, 1, 1);
        row("office 2: its token set out", offices(x, 2), 1, 20, 1, 0, 1, 8, RingOffices.NOT_FOUND, 0, 1);
    }

    private static void queue() {
        RingOffices x = new RingOffices();
        x.letter(0, 1, 3);
        x.letter(0, 2, 9);
        for (int odd : new int[] {-1, 3, LEAST, GREATEST}) {
            Check.due("queue: office", x.queue(odd, 0, 0), RingOffices.INVALID);
            Check.due("queue: what", x.queue(0, 0, odd), RingOffices.INVALID);
            Check.due("queue: what comes ahead of NOT_FOUND", x.queue(0, 2, odd), RingOffices.INVALID);
        }
        Check.due("queue: -1", x.queue(0, -1, 0), RingOffices.INVALID);
        Check.due("queue: least", x.queue(0, LEAST, 0), RingOffices.INVALID);
        Check.due("queue: 2", x.queue(0, 2, 0), RingOffices.NOT_FOUND);
        Check.due("queue: 6", x.queue(0, 6, 1), RingOffices.NOT_FOUND);
        Check.due("queue: greatest", x.queue(0, GREATEST, 2), RingOffices.NOT_FOUND);
        Check.due("queue: another office", x.queue(1, 0, 2), RingOffices.NOT_FOUND);
        for (int minute = 0; minute < 4; minute++) {
            Check.due("TO", x.queue(0, 0, 0), 1);
            Check.due("LENGTH", x.queue(0, 0, 1), 3);
            Check.due("LEFT", x.queue(0, 0, 2), minute == 0 ? 3 : 4 - minute);
            Check.due("TO of the second", x.queue(0, 1, 0), 2);
            Check.due("LENGTH of the second", x.queue(0, 1, 1), 9);
            Check.due("LEFT of the second", x.queue(0, 1, 2), 9);
            x.minute(1);
        }
        Check.due("TO of what came first then", x.queue(0, 0, 0), 2);
        Check.due("one is left", x.queue(0, 1, 0), RingOffices.NOT_FOUND);
    }

    private static void token() {
        RingOffices x = new RingOffices();
        for (int odd : new int[] {-1, 1, 2, 3, LEAST, GREATEST}) Check.due("token(" + odd + ", 0)", x.token(odd, 0), RingOffices.INVALID);
        for (int odd : new int[] {-1, 5, LEAST, GREATEST}) Check.due("token(0, " + odd + ")", x.token(0, odd), RingOffices.INVALID);
        x.letter(0, 1, 4);
        x.letter(0, 1, 3);
        x.minute(4);
        x.stray(1);
        Check.dueText("tokens", Check.tokens(x), "1 0 0 3 1;2 1 0 0 0;");
        x.minute(1);
        Check.dueText("tokens", Check.tokens(x), "1 0 0 4 0;2 2 3 0 0;");
        x.minute(1);
        Check.dueText("TURN is 0 on the way", Check.tokens(x), "1 1 2 0 0;2 2 2 0 0;");
        x.minute(2);
        Check.dueText("TURN begins again", Check.tokens(x), "1 1 0 0 0;2 2 0 0 0;");
        x.lose(0);
        Check.due("the one behind it stands in its place", x.token(0, 0), 2);
        Check.due("there is one", x.token(1, 0), RingOffices.INVALID);
    }

    private static void winner() {
        RingOffices x = new RingOffices();
        Check.due("winner", x.winner(), 1);
        x.shut(1, 0);
        Check.due("winner of those that are open", x.winner(), 0);
        x.set(2, 1, 41);
        Check.due("winner by another NAME", x.winner(), 2);
        x.shut(0, 0);
        x.shut(2, 0);
        Check.due("winner: none is open", x.winner(), RingOffices.NOT_FOUND);
    }

    private static void round() {
        RingOffices x = new RingOffices();
        x.set(1, 0, 9);
        x.shut(1, 0);
        Check.due("round", x.round(), 12);
        x = Check.made("speak 1 quiet 1 quota 1;office 9 1;office 9 2;office 9 3;office 9 4;office 9 5;office 9 6;"
            + "office 9 7;office 9 8;office 9 9;office 9 10;");
        Check.due("round of ten", x.round(), 90);
    }

    private static void busiest() {
        RingOffices x = new RingOffices();
        Check.due("busiest: nothing to say", x.busiest(), 0);
        x.letter(2, 0, 4);
        Check.due("busiest", x.busiest(), 2);
        x.letter(1, 0, 2);
        x.letter(1, 0, 2);
        Check.due("busiest: the smallest of several", x.busiest(), 1);
        x.letter(2, 0, 1);
        Check.due("busiest: by LENGTHs, not by letters", x.busiest(), 2);
        x.letter(0, 1, 5);
        x.shut(0, 0);
        Check.due("busiest: it may be shut", x.busiest(), 0);
    }

    private static void why() {
        RingOffices x = new RingOffices();
        for (int odd : new int[] {-1, 3, LEAST, GREATEST}) Check.due("why(" + odd + ")", x.why(odd), RingOffices.INVALID);
        Check.due("why: no letter", x.why(0), 3);
        Check.due("why: no token", x.why(1), 2);
        x.letter(0, 1, 7);
        Check.due("why: longer than SPEAK", x.why(0), 4);
        x.rule(2, 6);
        Check.due("why: SPEAK comes ahead of QUOTA", x.why(0), 4);
        x.rule(0, 7);
        Check.due("why: longer than QUOTA", x.why(0), 5);
        x.rule(2, 7);
        Check.due("why: it will begin", x.why(0), 6);
        x.letter(0, 1, 1);
        x.minute(1);
        Check.due("why: it speaks", x.why(0), 0);
        x.rule(0, 3);
        x.rule(2, 3);
        Check.due("why: it speaks whatever the rules are now", x.why(0), 0);
        x.rule(0, 7);
        x.rule(2, 7);
        x.minute(6);
        Check.due("why: it speaks for one minute more", x.why(0), 0);
        x.minute(1);
        Check.due("why: nothing is left of SPEAK", x.why(0), 4);
        x.rule(0, 8);
        Check.due("why: nothing is left of QUOTA", x.why(0), 5);
        x.rule(2, 8);
        Check.due("why: just left", x.why(0), 6);
        x.letter(1, 0, 1);
        Check.due("why: a letter, but no token", x.why(1), 2);
        x.shut(1, 0);
        Check.due("why: shut comes ahead of no token", x.why(1), 1);
        x.shut(0, 0);
        Check.due("why: shut", x.why(0), 1);
        x = new RingOffices();
        x.letter(1, 0, 1);
        x.minute(2);
        Check.due("why: ON THE WAY is not AT", x.why(1), 2);
    }

    private static void logOfForty() {
        RingOffices x = new RingOffices();
        for (int odd : new int[] {-1, LEAST}) Check.due("log(" + odd + ", 0)", x.log(odd, 0), RingOffices.INVALID);
        for (int odd : new int[] {-1, 3, LEAST, GREATEST}) Check.due("log(0, " + odd + ")", x.log(0, odd), RingOffices.INVALID);
        Check.due("log: empty", x.log(0, 0), RingOffices.NOT_FOUND);
        for (int i = 0; i < 99; i++) {
            x.rule(1, i % 2 == 0 ? 50 - i / 2 : 51 + i / 2);
            int kept = Math.min(i + 1, 40);
            Check.due("entries", x.value(19), kept);
            Check.due("log: behind the last one", x.log(kept, 0), RingOffices.NOT_FOUND);
            Check.due("log: greatest", x.log(GREATEST, 2), RingOffices.NOT_FOUND);
            for (int k = 0; k < kept; k++) {
                int entry = i + 1 - kept + k;
                Check.due("kind", x.log(k, 0), 8);
                Check.due("first number", x.log(k, 1), 1);
                int former = entry == 0 ? 10 : entry % 2 == 1 ? 50 - (entry - 1) / 2 : 51 + (entry - 1) / 2;
                Check.due("second number of entry " + entry, x.log(k, 2), former);
            }
        }
    }

    private static void logKinds() {
        RingOffices x = new RingOffices();
        x.set(0, 0, 1);
        x.set(2, 1, 21);
        x.rule(2, 60);
        x.letter(2, 1, 3);
        x.letter(2, 0, 2);
        x.letter(2, 0, 1);
        x.cancel(2, 2);
        x.shut(1, 0);
        x.stray(2);
        x.stray(2);
        x.minute(7);
        x.shut(0, 0);
        x.minute(18);
        x.shut(2, 0);
        x.shut(0, 1);
        Check.dueText("log", Check.log(x), "10 0 2;10 21 20;8 2 30;0 2 3;0 2 2;0 2 1;9 2 1;7 1 0;6 2 2;6 3 2;3 2 2;"
            + "2 201 3;3 1 2;1 200 2;7 0 0;7 2 0;5 3 2;7 0 1;");
        x = new RingOffices();
        x.shut(0, 0);
        x.minute(10);
        Check.dueText("log of an election", Check.log(x), "7 0 0;5 1 0;4 1 2;");
    }

    private static void rates() {
        RingOffices x = new RingOffices();
        Check.due("spoken: TIME is 0", x.spoken(), 0);
        Check.due("meanLength: no letters", x.meanLength(), 0);
        x.letter(0, 1, 2);
        Check.due("meanLength: one", x.meanLength(), 2);
        x.letter(1, 0, 3);
        x.letter(1, 0, 2);
        Check.due("meanLength: three", x.meanLength(), 7.0 / 3.0);
        x.minute(2);
        Check.due("spoken: a half", x.spoken(), 0.5);
        x.minute(1);
        Check.due("spoken: as a float", x.spoken(), 2.0f / 3.0f);
        x.minute(4);
        Check.due("meanLength: two", x.meanLength(), 2.5);
        Check.due("spoken: two of seven", x.spoken(), 2.0f / 7.0f);
    }
}
