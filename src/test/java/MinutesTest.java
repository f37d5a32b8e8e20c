/** Promise 11 and section 3 of the terms: what a minute brings. */
public final class MinutesTest {
    public static void main(String[] args) {
        arguments();
        round();
        shutOffices();
        speaking();
        limitOfTurn();
        limitOfDay();
        newDay();
        vain();
        clashes();
        tornUp();
        tornUpThreeAtOnce();
        election();
        electionWaits();
        Check.end("MinutesTest");
    }

    private static void arguments() {
        RingOffices x = new RingOffices();
        for (int odd : new int[] {0, -1, 101, Integer.MIN_VALUE, Integer.MAX_VALUE}) Check.due("minute(" + odd + ")", x.minute(odd), RingOffices.INVALID);
        Check.due("TIME stays", x.value(3), 0);
        for (int i = 0; i < 99; i++) x.minute(100);
        Check.due("TIME", x.value(3), 9900);
        Check.due("minute: FULL", x.minute(100), RingOffices.FULL);
        Check.due("minute: INVALID comes first", x.minute(101), RingOffices.INVALID);
        Check.due("TIME stays", x.value(3), 9900);
        Check.due("minute: up to 9999", x.minute(99), 0);
        Check.due("TIME", x.value(3), 9999);
        Check.due("minute: FULL", x.minute(1), RingOffices.FULL);
        Check.due("FULL is no operation", x.value(20), 8);
        x.letter(0, 1, 3);
        Check.due("ifPassed goes on", x.ifPassed(50, 0), 1);
        Check.due("doneIn goes on", x.doneIn(), 4);
        Check.due("comesIn goes on", x.comesIn(1), 7);
    }

    private static void steps(RingOffices x, String... tokens) {
        for (int i = 0; i < tokens.length; i++) {
            x.minute(1);
            Check.dueText("tokens behind the minute " + x.value(3), Check.tokens(x), tokens[i]);
        }
    }

    private static void round() {
        RingOffices x = new RingOffices();
        steps(x, "1 1 2 0 0;", "1 1 1 0 0;", "1 1 0 0 0;", "1 2 3 0 0;", "1 2 2 0 0;", "1 2 1 0 0;", "1 2 0 0 0;",
            "1 0 1 0 0;", "1 0 0 0 0;", "1 1 2 0 0;");
        RingOffices y = new RingOffices();
        y.minute(10);
        Check.dueText("ten minutes at once", Check.tokens(y), Check.tokens(x));
    }

    private static void shutOffices() {
        RingOffices x = new RingOffices();
        x.letter(1, 0, 1);
        x.shut(1, 0);
        x.shut(2, 0);
        steps(x, "1 1 2 0 0;", "1 1 1 0 0;", "1 2 3 0 0;", "1 2 2 0 0;", "1 2 1 0 0;", "1 0 1 0 0;", "1 0 0 0 0;");
        x.minute(1);
        x.shut(0, 0);
        Check.due("all are shut: the token goes on", x.minute(100), 0);
        Check.due("all are shut: one token", x.value(6), 1);
        Check.due("all are shut: no letter is read out", x.value(18), 0);
    }

    private static void speaking() {
        RingOffices x = new RingOffices();
        x.letter(0, 1, 2);
        x.letter(0, 2, 1);
        x.letter(0, 1, 3);
        x.letter(0, 1, 1);
        steps(x, "1 0 0 0 2;", "1 0 0 1 1;");
        Check.due("LEFT", x.queue(0, 0, 2), 1);
        Check.due("LENGTH", x.queue(0, 0, 1), 2);
        Check.due("LEFT of the next one", x.queue(0, 1, 2), 1);
        Check.due("SPOKEN", x.office(0, 3), 1);
        steps(x, "1 0 0 2 0;", "1 0 0 2 1;", "1 0 0 3 0;", "1 0 0 3 3;", "1 0 0 4 2;", "1 0 0 5 1;", "1 0 0 6 0;", "1 1 2 0 0;");
        Check.due("READ", x.value(11), 3);
        Check.due("READ to 1", x.office(1, 7), 2);
        Check.due("READ to 2", x.office(2, 7), 1);
        Check.due("READ to 0", x.office(0, 7), 0);
        Check.due("minutes spoken", x.value(18), 6);
        Check.due("SPOKEN", x.office(0, 3), 6);
        Check.dueText("READ: log", Check.log(x).substring(24), "1 1 2;1 2 1;1 1 3;");
        x = new RingOffices();
        x.letter(0, 1, 2);
        x.letter(0, 2, 1);
        x.letter(2, 1, 3);
        Check.due("minute: READ in them", x.minute(3), 1);
        Check.due("minute: READ in them", x.minute(100), 2);
        Check.dueText("READ: log with an office above 0", Check.log(x).substring(18), "1 1 2;1 2 1;1 201 3;");
    }

    private static void limitOfTurn() {
        RingOffices x = new RingOffices();
        x.letter(0, 1, 7);
        steps(x, "1 1 2 0 0;");
        x = new RingOffices();
        x.letter(0, 1, 6);
        x.letter(0, 1, 1);
        Check.due("SPEAK of 6: a LENGTH of 6", x.minute(7), 1);
        steps(x, "1 1 2 0 0;");
        x = new RingOffices();
        x.letter(0, 1, 6);
        x.minute(1);
        x.rule(0, 1);
        Check.due("a smaller SPEAK lets it end", x.minute(6), 1);
        x = new RingOffices();
        x.letter(0, 1, 7);
        x.letter(0, 1, 1);
        Check.due("a letter behind one that is too long waits", x.minute(100), 0);
    }

    private static void limitOfDay() {
        RingOffices x = new RingOffices();
        x.rule(2, 5);
        x.letter(0, 1, 3);
        x.letter(0, 1, 3);
        x.letter(0, 1, 2);
        steps(x, "1 0 0 0 3;", "1 0 0 1 2;", "1 0 0 2 1;", "1 0 0 3 0;", "1 1 2 0 0;");
        Check.due("the quota is of the day", x.minute(54), 0);
        Check.due("SPOKEN", x.office(0, 3), 3);
        Check.due("READ on the first day", x.value(11), 1);
        Check.due("READ on the second day", x.minute(60), 2);
        x = new RingOffices();
        x.rule(2, 5);
        x.letter(0, 1, 3);
        x.letter(0, 1, 2);
        Check.due("just the quota", x.minute(7), 2);
    }

    private static void newDay() {
        RingOffices x = new RingOffices();
        x.rule(2, 5);
        x.letter(0, 1, 5);
        x.minute(6);
        Check.due("SPOKEN on the first day", x.office(0, 3), 5);
        x.minute(53);
        Check.due("SPOKEN at 59", x.office(0, 3), 5);
        x.minute(1);
        Check.due("SPOKEN at 60", x.office(0, 3), 0);
        x.lose(0);
        x.stray(0);
        x.letter(0, 1, 5);
        x.minute(57);
        x.lose(0);
        x.stray(0);
        x.letter(0, 1, 5);
        Check.due("TIME", x.value(3), 117);
        Check.due("the quota is used up", x.why(0), 5);
        x.rule(2, 10);
        x.minute(2);
        Check.due("SPOKEN at 119", x.office(0, 3), 6);
        x.minute(1);
        Check.due("a minute that is spoken at 120 is of the new day", x.office(0, 3), 1);
        x.minute(3);
        Check.due("SPOKEN at 123", x.office(0, 3), 4);
        x = new RingOffices();
        x.rule(2, 5);
        x.letter(0, 1, 5);
        x.minute(59);
        x.lose(0);
        x.stray(0);
        x.letter(0, 1, 5);
        Check.due("why is of now", x.why(0), 5);
        x.minute(1);
        Check.due("the new day comes ahead of the tokens", x.token(0, 4), 5);
    }

    private static void vain() {
        RingOffices x = new RingOffices();
        x.letter(0, 1, 2);
        x.letter(0, 2, 2);
        x.minute(2);
        x.shut(1, 0);
        Check.due("VAIN is not READ", x.minute(1), 0);
        Check.due("VAIN", x.value(12), 1);
        Check.due("READ", x.value(11), 0);
        Check.due("VAIN: READ to it", x.office(1, 7), 0);
        Check.due("VAIN: minutes spoken", x.value(18), 2);
        Check.due("VAIN: it is gone", x.office(0, 4), 1);
        Check.dueText("VAIN: log", Check.log(x).substring(12), "7 1 0;2 1 2;");
        x.shut(2, 0);
        x.minute(1);
        x.shut(2, 1);
        Check.due("it counts whether it is open at the end", x.minute(2), 1);
    }

    private static void clashes() {
        RingOffices x = new RingOffices();
        x.stray(1);
        x.stray(2);
        x.letter(0, 1, 2);
        x.minute(1);
        Check.due("one that speaks is no clash", x.value(17), 0);
        x.undo();
        x.letter(1, 0, 3);
        x.letter(2, 1, 4);
        int[] due = {1, 2, 3, 3, 3};
        for (int clashes : due) {
            x.minute(1);
            Check.due("CLASHES at " + x.value(3), x.value(17), clashes);
        }
        Check.due("minutes spoken by all", x.value(18), 9);
    }

    private static void tornUp() {
        // The token 1 comes to an office at which the token 2 speaks: the one that comes is torn up.
        RingOffices x = new RingOffices();
        x.letter(1, 0, 5);
        x.minute(1);
        x.stray(1);
        x.minute(1);
        Check.dueText("ahead of it", Check.tokens(x), "1 1 1 0 0;2 1 0 0 5;");
        x.minute(1);
        Check.dueText("the older one is torn up", Check.tokens(x), "2 1 0 1 4;");
        Check.dueText("torn up: log", Check.log(x), "0 1 5;6 2 1;3 1 1;");
        Check.due("torn up: no clash", x.value(17), 0);
        Check.due("torn up", x.value(15), 1);
        // The other way round: the token that speaks is the older one.
        x = new RingOffices();
        x.letter(0, 1, 6);
        x.minute(4);
        x.stray(2);
        x.minute(2);
        Check.dueText("the one that spoke is torn up", Check.tokens(x), "2 0 0 0 0;");
        Check.due("its letter stays, with all its LENGTH", x.queue(0, 0, 2), 6);
        Check.due("what was spoken stays", x.office(0, 3), 5);
        x.minute(1);
        Check.dueText("the other one begins it anew", Check.tokens(x), "2 0 0 0 6;");
        // A letter whose last minute it is is gone ahead of the tearing.
        x = new RingOffices();
        x.letter(0, 1, 5);
        x.minute(4);
        x.stray(2);
        Check.due("read in the same minute", x.minute(2), 1);
        Check.dueText("and torn up then", Check.tokens(x), "2 0 0 0 0;");
        Check.dueText("in this order", Check.log(x).substring(12), "1 1 5;3 1 0;");
        // As one sets out in the minute in which the other comes, they do not meet.
        x = new RingOffices();
        x.set(0, 0, 1);
        x.minute(1);
        x.stray(1);
        x.minute(1);
        Check.dueText("they do not meet", Check.tokens(x), "1 1 0 0 0;2 2 3 0 0;");
        // Two on the way to one office do not meet before they are there.
        x = new RingOffices();
        x.minute(1);
        x.set(0, 0, 1);
        x.stray(0);
        x.minute(1);
        Check.dueText("on the way they do not meet", Check.tokens(x), "1 1 1 0 0;2 1 1 0 0;");
        x.minute(1);
        Check.dueText("there they meet", Check.tokens(x), "2 1 0 0 0;");
        // At a shut office they do not meet: both set out at once.
        x.undo();
        x.shut(1, 0);
        x.minute(1);
        Check.dueText("at a shut office they do not meet", Check.tokens(x), "1 2 3 0 0;2 2 3 0 0;");
    }

    private static void tornUpThreeAtOnce() {
        RingOffices x = new RingOffices();
        x.set(0, 0, 3);
        x.minute(1);
        x.set(0, 0, 2);
        x.stray(0);
        x.minute(1);
        x.set(0, 0, 1);
        x.stray(0);
        x.minute(1);
        Check.dueText("three with the same way to go", Check.tokens(x), "1 1 1 0 0;2 1 1 0 0;3 1 1 0 0;");
        x.minute(1);
        Check.dueText("one is left", Check.tokens(x), "3 1 0 0 0;");
        Check.due("two are torn up", x.value(15), 2);
        Check.dueText("by NUMBERS", Check.log(x), "10 0 2;10 0 3;6 2 0;10 0 2;6 3 0;3 1 1;3 2 1;");
    }

    private static void election() {
        RingOffices x = new RingOffices();
        x.shut(1, 0);
        x.lose(0);
        x.minute(9);
        Check.due("SILENCE", x.value(7), 9);
        Check.due("no token yet", x.value(6), 0);
        x.letter(0, 1, 1);
        x.minute(1);
        Check.dueText("elected", Check.tokens(x), "2 0 0 0 0;");
        Check.due("SILENCE ends", x.value(7), 0);
        Check.due("elections", x.value(14), 1);
        Check.dueText("election: log", Check.log(x), "7 1 0;5 1 0;0 0 1;4 0 2;");
        x.minute(1);
        Check.dueText("it begins in the next minute", Check.tokens(x), "2 0 0 0 1;");
        x.rule(1, 1);
        x.lose(0);
        x.shut(1, 1);
        x.minute(1);
        Check.dueText("QUIET of 1", Check.tokens(x), "3 1 0 0 0;");
        x = Check.made("speak 6 quiet 2 quota 9;office 1 5 shut;office 2 6;office 2 4;");
        x.minute(2);
        Check.dueText("a ring without a token", Check.tokens(x), "1 1 0 0 0;");
        x = new RingOffices();
        x.lose(0);
        x.minute(5);
        x.rule(1, 3);
        Check.due("SILENCE above QUIET", x.value(6), 0);
        x.minute(1);
        Check.due("an election in the next minute", x.value(6), 1);
    }

    private static void electionWaits() {
        RingOffices x = new RingOffices();
        for (int o = 0; o < 3; o++) x.shut(o, 0);
        x.minute(100);
        Check.due("without an open office SILENCE goes on", x.value(7), 100);
        Check.due("no election", x.value(14), 0);
        x.shut(2, 1);
        Check.due("not by opening", x.value(6), 0);
        x.minute(1);
        Check.dueText("but in the next minute", Check.tokens(x), "2 2 0 0 0;");
        Check.due("SILENCE ends", x.value(7), 0);
    }
}
