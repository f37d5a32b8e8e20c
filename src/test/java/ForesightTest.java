/** Promises 25 to 31: what would be, and that asking for it changes nothing. */
public final class ForesightTest {
    private static final int LEAST = Integer.MIN_VALUE;
    private static final int GREATEST = Integer.MAX_VALUE;
    private static final int NOT_FOUND = RingOffices.NOT_FOUND;
    private static final int INVALID = RingOffices.INVALID;

    public static void main(String[] args) {
        arguments();
        comesIn();
        comesLate();
        doneIn();
        doneLate();
        ifPassed();
        asWhatHappens();
        ifRule();
        ifShut();
        bestSpeak();
        leastQuota();
        greatestQuota();
        nothingChanges();
        Check.end("ForesightTest");
    }

    private static void arguments() {
        RingOffices x = new RingOffices();
        for (int odd : new int[] {-1, 3, LEAST, GREATEST}) {
            Check.due("comesIn(" + odd + ")", x.comesIn(odd), INVALID);
            Check.due("ifRule: what", x.ifRule(odd, 1, 5, 0), INVALID);
            Check.due("ifShut: office", x.ifShut(odd, 5, 0), INVALID);
        }
        for (int odd : new int[] {-1, 301, LEAST, GREATEST}) {
            Check.due("ifPassed: many", x.ifPassed(odd, 0), INVALID);
            Check.due("ifRule: many", x.ifRule(0, 1, odd, 0), INVALID);
            Check.due("ifShut: many", x.ifShut(0, odd, 0), INVALID);
            Check.due("bestSpeak: many", x.bestSpeak(odd), INVALID);
        }
        for (int odd : new int[] {-1, 6, LEAST, GREATEST}) {
            Check.due("ifPassed: what", x.ifPassed(5, odd), INVALID);
            Check.due("ifRule: told", x.ifRule(0, 1, 5, odd), INVALID);
            Check.due("ifShut: told", x.ifShut(0, 5, odd), INVALID);
        }
        int[] most = {20, 99, 60};
        for (int what = 0; what < 3; what++) {
            Check.due("ifRule: least", x.ifRule(what, 1, 0, 3), 1);
            Check.due("ifRule: greatest", x.ifRule(what, most[what], 0, 3), 1);
            for (int odd : new int[] {-1, 0, most[what] + 1, LEAST, GREATEST}) Check.due("ifRule: value", x.ifRule(what, odd, 5, 0), INVALID);
        }
        for (int told = 0; told < 6; told++) {
            Check.due("ifPassed(0, " + told + ")", x.ifPassed(0, told), told == 3 ? 1 : 0);
            Check.due("ifPassed(300, " + told + ")", x.ifPassed(300, told), told == 3 ? 1 : 0);
        }
        Check.due("bestSpeak(0)", x.bestSpeak(0), 1);
        Check.due("bestSpeak(300)", x.bestSpeak(300), 1);
    }

    private static void comesIn() {
        RingOffices x = new RingOffices();
        x.letter(0, 1, 5);
        Check.due("comesIn: AT it", x.comesIn(0), 0);
        Check.due("comesIn: behind the letter", x.comesIn(1), 9);
        Check.due("comesIn: once more round", x.comesIn(2), 13);
        x.minute(9);
        Check.due("comesIn: now", x.comesIn(1), 0);
        Check.due("comesIn: the one that it left", x.comesIn(0), 6);
        x.shut(2, 0);
        Check.due("comesIn: a shut one", x.comesIn(2), NOT_FOUND);
        Check.due("comesIn: past a shut one", x.comesIn(0), 5);
        x.stray(0);
        Check.due("comesIn: another token", x.comesIn(0), 0);
        x.lose(0);
        x.lose(0);
        Check.due("comesIn: by an election", x.comesIn(1), 10);
        Check.due("comesIn: behind an election", x.comesIn(0), 15);
        x.shut(1, 0);
        x.shut(0, 0);
        Check.due("comesIn: all are shut", x.comesIn(0), NOT_FOUND);
    }

    private static void comesLate() {
        String rules = "speak 6 quiet 99 quota 9;";
        StringBuilder text = new StringBuilder(rules + "office 9 99;");
        for (int o = 1; o < 10; o++) text.append("office 9 ").append(o).append(';');
        RingOffices x = Check.made(text.toString());
        Check.due("comesIn: by an election at 99", x.comesIn(0), 99);
        Check.due("comesIn: the last office", x.comesIn(9), 99 + 90);
        text = new StringBuilder("speak 20 quiet 99 quota 60;office 9 99;");
        for (int o = 1; o < 10; o++) text.append("office 9 ").append(o).append(';');
        for (int o = 0; o < 10; o++) {
            for (int i = 0; i < 2; i++) text.append("letter ").append(o).append(' ').append((o + 1) % 10).append(" 9;");
        }
        x = Check.made(text + "token 0;");
        // Two letters take 2 * 10 minutes in each office, then one to set out and 9 on the way.
        for (int o = 0; o < 10; o++) Check.due("comesIn(" + o + ")", x.comesIn(o), 30 * o);
        x.minute(1);
        x.lose(0);
        Check.due("comesIn: at 99 + 150", x.comesIn(5), 99 + 150);
        Check.due("comesIn: at 99 + 180", x.comesIn(6), 99 + 180);
        Check.due("comesIn: at 99 + 210 is too late", x.comesIn(7), NOT_FOUND);
        x.minute(9);
        Check.due("comesIn: at 300 is not", x.comesIn(7), 300);
        x.undo();
        x.minute(8);
        Check.due("comesIn: at 301 is", x.comesIn(7), NOT_FOUND);
    }

    private static void doneIn() {
        RingOffices x = new RingOffices();
        Check.due("doneIn: nothing to do", x.doneIn(), 0);
        x.lose(0);
        Check.due("doneIn: nothing to do without a token", x.doneIn(), 0);
        x.letter(1, 0, 4);
        Check.due("doneIn: behind an election", x.doneIn(), 10 + 1 + 4);
        x.minute(12);
        Check.due("doneIn: in the midst", x.doneIn(), 3);
        x.rule(0, 3);
        Check.due("doneIn: it ends what it began", x.doneIn(), 3);
        x.letter(1, 0, 4);
        Check.due("doneIn: never", x.doneIn(), NOT_FOUND);
        x.cancel(1, 1);
        x.letter(0, 1, 1);
        x.shut(1, 0);
        Check.due("doneIn: never for a shut office", x.doneIn(), NOT_FOUND);
        x.cancel(1, 0);
        Check.due("doneIn: VAIN is done, too", x.doneIn(), 10 + 1 + 1);
    }

    /**
     * Ten offices with three letters of 9 each: two of them in the first turn (2 * 10 minutes, then 10 to the next
     * office), the third one in the second turn (10, then 10): the last one is done behind 300 + 9 * 20 + 10.
     */
    private static void doneLate() {
        StringBuilder text = new StringBuilder("speak 20 quiet 10 quota 60;office 9 99;");
        for (int o = 1; o < 10; o++) text.append("office 9 ").append(o).append(';');
        for (int o = 0; o < 10; o++) {
            for (int i = 0; i < 3; i++) text.append("letter ").append(o).append(' ').append((o + 1) % 10).append(" 9;");
        }
        Check.due("doneIn: late", Check.made(text + "token 0;").doneIn(), 490);
        RingOffices x = Check.made(text.toString());
        Check.due("doneIn: at 500 still", x.doneIn(), 500);
        Check.due("leastQuota: at 500 still, with a day or more between the turns", x.leastQuota(), 18);
        x.rule(1, 11);
        Check.due("doneIn: at 501 no more", x.doneIn(), NOT_FOUND);
        Check.due("leastQuota: at 501 no more", x.leastQuota(), NOT_FOUND);
        x.minute(1);
        Check.due("doneIn: at 500 again", x.doneIn(), 500);
    }

    private static RingOffices lively() {
        RingOffices x = Check.made("speak 7 quiet 8 quota 31;office 2 40;office 3 70;office 1 20 shut;office 1 7;"
            + "letter 0 1 4;letter 0 2 3;letter 3 0 5;letter 3 2 2;letter 1 3 7;token 0;");
        x.minute(2);
        x.stray(3);
        return x;
    }

    private static void ifPassed() {
        RingOffices x = lively();
        int[] due = {2, 2, 18, 1, 4, 0};
        int[] got = new int[6];
        for (int told = 0; told < 6; told++) got[told] = x.ifPassed(17, told);
        Check.dueText("ifPassed(17)", java.util.Arrays.toString(got), java.util.Arrays.toString(due));
        x.minute(9);
        Check.due("ifPassed tells what comes, not what was", x.ifPassed(1, 0) + 10 * x.ifPassed(0, 2), 0);
        x = new RingOffices();
        x.lose(0);
        Check.due("no election yet", x.ifPassed(9, 5), 0);
        Check.due("an election", x.ifPassed(10, 5), 1);
        Check.due("a token then", x.ifPassed(10, 3), 1);
        x = new RingOffices();
        for (int i = 0; i < 99; i++) x.minute(100);
        x.minute(98);
        x.letter(1, 0, 1);
        Check.due("beyond 9999", x.ifPassed(300, 0), 1);
    }

    /** ifPassed, ifRule and ifShut against what comes when it is really done, and undone again. */
    private static void asWhatHappens() {
        RingOffices x = lively();
        int[] counts = {11, 12, 18, 6, 17, 14};
        for (int told = 0; told < 6; told++) {
            for (int many = 1; many <= 100; many += 3) {
                int foreseen = x.ifPassed(many, told);
                int before = told == 3 ? 0 : x.value(counts[told]);
                x.minute(many);
                Check.due("ifPassed(" + many + ", " + told + ")", foreseen, x.value(counts[told]) - before);
                x.undo();
                foreseen = x.ifRule(2, 4, many, told);
                x.rule(2, 4);
                Check.due("ifRule(2, 4, " + many + ", " + told + ")", foreseen, x.ifPassed(many, told));
                x.undo();
                for (int o = 0; o < 4; o++) {
                    foreseen = x.ifShut(o, many, told);
                    x.shut(o, 1 - x.office(o, 2));
                    Check.due("ifShut(" + o + ", " + many + ", " + told + ")", foreseen, x.ifPassed(many, told));
                    x.undo();
                }
            }
        }
    }

    private static void ifRule() {
        RingOffices x = new RingOffices();
        x.letter(0, 1, 7);
        Check.due("as it is", x.ifRule(0, 6, 10, 0), 0);
        Check.due("a greater SPEAK", x.ifRule(0, 7, 10, 0), 1);
        Check.due("a smaller QUIET", x.ifRule(1, 1, 10, 5), 0);
        x.lose(0);
        Check.due("a smaller QUIET without a token", x.ifRule(1, 1, 1, 5), 1);
        Check.due("a greater QUIET", x.ifRule(1, 11, 10, 5), 0);
        Check.due("the QUIET that is", x.ifRule(1, 10, 10, 5), 1);
        x = new RingOffices();
        x.letter(0, 1, 3);
        Check.due("a smaller QUOTA", x.ifRule(2, 2, 10, 2), 0);
        Check.due("just that QUOTA", x.ifRule(2, 3, 10, 2), 3);
    }

    private static void ifShut() {
        RingOffices x = new RingOffices();
        x.letter(0, 1, 3);
        x.minute(2);
        Check.due("shut: the token is lost", x.ifShut(0, 0, 3), 0);
        Check.due("shut: no letter is read", x.ifShut(0, 9, 0), 0);
        Check.due("shut: it is VAIN", x.ifShut(1, 9, 1), 1);
        x.shut(1, 0);
        Check.due("opened: it is READ", x.ifShut(1, 9, 0), 1);
        Check.due("opened: not VAIN", x.ifShut(1, 9, 1), 0);
        Check.due("as it is: VAIN", x.ifPassed(9, 1), 1);
    }

    private static void bestSpeak() {
        RingOffices x = new RingOffices();
        x.letter(0, 1, 4);
        x.letter(1, 2, 9);
        Check.due("bestSpeak: one", x.bestSpeak(9), 4);
        Check.due("bestSpeak: both", x.bestSpeak(300), 9);
        Check.due("bestSpeak: none in time", x.bestSpeak(4), 1);
        Check.due("bestSpeak: just in time", x.bestSpeak(5), 4);
        x.shut(2, 0);
        Check.due("bestSpeak: VAIN does not count", x.bestSpeak(300), 4);
        x = new RingOffices();
        for (int i = 0; i < 3; i++) x.letter(0, 1, 9);
        x.rule(2, 60);
        Check.due("bestSpeak: two in one turn", x.bestSpeak(25), 18);
        Check.due("bestSpeak: of several the smallest", x.bestSpeak(60), 9);
        x.cancel(0, 2);
        x.letter(0, 1, 2);
        Check.due("bestSpeak: the greatest", x.bestSpeak(23), 20);
    }

    /** A letter that begins at 59 and is spoken from 60 on, and five more of 9: SPOKEN 54 at 118; then one of 6. */
    private static void greatestQuota() {
        RingOffices x = new RingOffices();
        x.rule(0, 20);
        x.rule(2, 60);
        x.minute(58);
        x.stray(0);
        for (int i = 0; i < 6; i++) {
            x.letter(0, 1, 9);
            x.minute(10);
            x.lose(x.token(0, 1) == 0 ? 0 : 1);
            x.stray(0);
        }
        Check.due("TIME", x.value(3), 118);
        Check.due("SPOKEN", x.office(0, 3), 54);
        x.letter(0, 1, 6);
        Check.due("doneIn", x.doneIn(), 7);
        Check.due("leastQuota: the greatest", x.leastQuota(), 60);
    }

    private static void leastQuota() {
        RingOffices x = new RingOffices();
        Check.due("leastQuota: nothing to do", x.leastQuota(), 1);
        x.letter(0, 1, 6);
        x.letter(1, 2, 5);
        Check.due("leastQuota", x.leastQuota(), 6);
        x.letter(1, 2, 1);
        x.letter(1, 2, 1);
        x.letter(1, 2, 1);
        Check.due("leastQuota: several turns of a day", x.leastQuota(), 8);
        x.minute(1);
        x.rule(2, 1);
        Check.due("leastQuota: it waits for another day as it is", x.doneIn(), NOT_FOUND);
        Check.due("leastQuota: doneIn finds nothing", x.leastQuota(), NOT_FOUND);
        x.cancel(1, 0);
        Check.due("leastQuota: days go by as it is", x.leastQuota(), 1);
        x.rule(2, 60);
        Check.due("leastQuota: but not at a greater QUOTA", x.leastQuota(), 3);
        x = new RingOffices();
        x.letter(0, 1, 6);
        x.minute(2);
        Check.due("leastQuota: what it has begun needs none", x.leastQuota(), 1);
        x.letter(0, 1, 9);
        Check.due("leastQuota: too long", x.leastQuota(), NOT_FOUND);
        x = new RingOffices();
        x.rule(0, 20);
        x.rule(2, 60);
        for (int i = 0; i < 6; i++) x.letter(0, 1, 9);
        int quota = x.leastQuota();
        int due = x.doneIn();
        x.rule(2, quota);
        Check.due("leastQuota: not later", x.doneIn() <= due ? 1 : 0, 1);
        for (int less = quota - 1; less > 0; less--) {
            x.rule(2, less);
            Check.due("leastQuota: with " + less + " later", x.doneIn() == NOT_FOUND || x.doneIn() > due ? 1 : 0, 1);
        }
    }

    private static void nothingChanges() {
        RingOffices x = lively();
        String before = Check.all(x);
        int undoable = x.value(20);
        for (int o = 0; o < 4; o++) {
            x.comesIn(o);
            x.ifShut(o, 300, 0);
        }
        x.doneIn();
        x.ifPassed(300, 0);
        x.ifRule(0, 1, 300, 0);
        x.bestSpeak(300);
        x.leastQuota();
        Check.dueText("what would be changes nothing", Check.all(x), before);
        Check.due("nor what can be undone", x.value(20), undoable);
    }
}
