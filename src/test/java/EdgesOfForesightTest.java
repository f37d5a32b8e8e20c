/** Sentence by sentence, each on new objects: promises 25 to 31. */
public final class EdgesOfForesightTest {
    private static final int INVALID = RingOffices.INVALID;
    private static final int NOT_FOUND = RingOffices.NOT_FOUND;
    private static final int LEAST = Check.LEAST;
    private static final int GREATEST = Check.GREATEST;

    public static void main(String[] args) {
        comesIn();
        comesInAt300();
        comesInNever();
        doneIn();
        doneInAt500();
        ifPassed();
        ifPassedTold();
        ifPassedBeyond();
        ifRule();
        ifRuleTold();
        ifShut();
        ifShutTold();
        bestSpeak();
        bestSpeakOfSeveral();
        leastQuota();
        leastQuotaEnds();
        nothingChanges();
        Check.end("EdgesOfForesightTest");
    }

    /**
     * Ten offices, each with so many letters of 9. Two of them take 20 minutes of a turn, and 10 more bring the
     * token to the next office.
     */
    private static RingOffices slow(int letters, String token) {
        StringBuilder text = new StringBuilder("speak 20 quiet 10 quota 60;office 9 99;");
        for (int o = 1; o < 10; o++) text.append("office 9 ").append(o).append(';');
        for (int o = 0; o < 10; o++) {
            for (int i = 0; i < letters; i++) text.append("letter ").append(o).append(' ').append((o + 1) % 10).append(" 9;");
        }
        return Check.made(text + token);
    }

    // ---- promise 25

    private static void comesIn() {
        Check.about("25", "INVALID for an invalid argument");
        for (int odd : new int[] {-1, 3, 10, LEAST, GREATEST}) Check.refused("comesIn(" + odd + ")", new RingOffices(), INVALID, r -> r.comesIn(odd));
        Check.about("25", "0 if one is AT it now");
        RingOffices x = new RingOffices();
        Check.due("comesIn(0)", x.comesIn(0), 0);
        x.letter(0, 1, 5);
        x.minute(3);
        Check.due("while it speaks", x.comesIn(0), 0);
        Check.about("25", "Returns the least number of minutes, 1 to 300, behind which one is AT it");
        x = new RingOffices();
        Check.due("comesIn(1)", x.comesIn(1), 3);
        Check.due("comesIn(2)", x.comesIn(2), 7);
        x.minute(2);
        Check.due("one minute ahead", x.comesIn(1), 1);
        x.minute(1);
        Check.due("now", x.comesIn(1), 0);
        x.minute(1);
        Check.due("once more round", x.comesIn(1), 8);
        x.stray(0);
        Check.due("another token comes first", x.comesIn(1), 3);
        x.lose(1);
        x.lose(0);
        Check.due("by an election", x.comesIn(1), 10);
        Check.due("behind an election", x.comesIn(2), 14);
        x.minute(9);
        Check.due("by an election in the next minute", x.comesIn(1), 1);
    }

    private static void comesInAt300() {
        Check.about("25", "1 to 300 .. NOT_FOUND if there is none");
        // QUIET minutes, then the office 0 is elected, and 30 minutes for each office ahead of the one.
        for (int quiet = 89; quiet <= 91; quiet++) {
            RingOffices x = slow(2, "");
            x.rule(1, quiet);
            int due = quiet + 210;
            Check.due("comesIn(7) with QUIET " + quiet, x.comesIn(7), due <= 300 ? due : NOT_FOUND);
        }
        RingOffices x = slow(2, "");
        x.rule(1, 91);
        x.minute(1);
        Check.due("one minute later", x.comesIn(7), 300);
    }

    private static void comesInNever() {
        Check.about("25", "NOT_FOUND if there is none: a shut office, which a token leaves at once");
        RingOffices x = new RingOffices();
        x.shut(1, 0);
        Check.due("comesIn(1)", x.comesIn(1), NOT_FOUND);
        Check.due("comesIn(2), past it", x.comesIn(2), 6);
        x.minute(2);
        Check.due("comesIn(1), one minute ahead of it", x.comesIn(1), NOT_FOUND);
        Check.about("25", "NOT_FOUND if there is none: no token and no open office");
        x = new RingOffices();
        for (int o = 0; o < 3; o++) x.shut(o, 0);
        for (int o = 0; o < 3; o++) Check.due("comesIn(" + o + ")", x.comesIn(o), NOT_FOUND);
    }

    // ---- promise 26

    private static void doneIn() {
        Check.about("26", "Returns the least number of minutes, 0 to 500, behind which all queues are empty");
        RingOffices x = new RingOffices();
        Check.due("nothing to do", x.doneIn(), 0);
        x.letter(0, 1, 3);
        Check.due("one letter", x.doneIn(), 4);
        x.minute(3);
        Check.due("one minute ahead", x.doneIn(), 1);
        x.minute(1);
        Check.due("done", x.doneIn(), 0);
        x.lose(0);
        Check.due("nothing to do, no token", x.doneIn(), 0);
        x.letter(2, 0, 1);
        x.minute(1);
        Check.due("behind an election", x.doneIn(), 9 + 1 + 3 + 2);
        Check.about("26", "all queues are empty: a VAIN letter is gone, too");
        x = new RingOffices();
        x.letter(0, 1, 3);
        x.shut(1, 0);
        Check.due("VAIN", x.doneIn(), 4);
        Check.about("26", "if only minutes passed: NOT_FOUND if there is none");
        x = new RingOffices();
        x.letter(0, 1, 7);
        Check.due("longer than SPEAK", x.doneIn(), NOT_FOUND);
        x.rule(0, 7);
        x.rule(2, 6);
        Check.due("longer than QUOTA", x.doneIn(), NOT_FOUND);
        x.rule(2, 7);
        Check.due("neither", x.doneIn(), 8);
        x.shut(0, 0);
        Check.due("a shut office", x.doneIn(), NOT_FOUND);
        Check.about("26", "behind which: a day that begins brings a new quota");
        x = new RingOffices();
        x.rule(2, 4);
        x.letter(0, 1, 3);
        x.letter(0, 1, 2);
        Check.due("on the next day", x.doneIn() > 60 ? 1 : 0, 1);
    }

    private static void doneInAt500() {
        Check.about("26", "0 to 500");
        // Two letters of 9 in the first turn of each office, one in the second: 490 minutes from an election on.
        Check.due("with a token", slow(3, "token 0;").doneIn(), 490);
        for (int quiet = 9; quiet <= 11; quiet++) {
            RingOffices x = slow(3, "");
            x.rule(1, quiet);
            Check.due("with QUIET " + quiet, x.doneIn(), quiet <= 10 ? 490 + quiet : NOT_FOUND);
        }
        RingOffices x = slow(3, "");
        x.rule(1, 11);
        x.minute(1);
        Check.due("one minute later", x.doneIn(), 500);
    }

    // ---- promise 27

    private static void ifPassed() {
        Check.about("27", "many: 0 to 300");
        for (int odd : new int[] {-1, 301, LEAST, GREATEST}) Check.refused("many " + odd, new RingOffices(), INVALID, r -> r.ifPassed(odd, 0));
        Check.about("27", "INVALID for .. any other what");
        for (int odd : new int[] {-1, 6, LEAST, GREATEST}) Check.refused("what " + odd, new RingOffices(), INVALID, r -> r.ifPassed(5, odd));
        Check.refused("many and what", new RingOffices(), INVALID, r -> r.ifPassed(301, 6));
        Check.about("27", "many of 0: nothing in them, and the tokens of now");
        RingOffices x = new RingOffices();
        x.letter(0, 1, 3);
        x.minute(2);
        x.stray(1);
        for (int told = 0; told < 6; told++) Check.due("ifPassed(0, " + told + ")", x.ifPassed(0, told), told == 3 ? 2 : 0);
        Check.about("27", "many of 300: the 300th minute counts");
        // The token 0 comes to the office 9 at 270, and the first letter there is READ at 280, the second at 290.
        x = slow(2, "token 0;");
        Check.due("READ in 290", x.ifPassed(290, 0), 20);
        Check.due("READ in 289", x.ifPassed(289, 0), 19);
        x = slow(2, "");
        Check.due("READ in 300", x.ifPassed(300, 0), 20);
        Check.due("READ in 299", x.ifPassed(299, 0), 19);
        x.rule(1, 11);
        Check.due("READ in 300, one minute later", x.ifPassed(300, 0), 19);
    }

    private static void ifPassedTold() {
        Check.about("27", "0 how many letters would be READ in them, 1 VAIN, 2 minutes spoken");
        RingOffices x = new RingOffices();
        x.letter(0, 1, 2);
        x.letter(0, 2, 3);
        x.shut(2, 0);
        int[][] due = {{2, 0, 0, 1}, {3, 1, 0, 2}, {6, 1, 0, 4}, {7, 1, 1, 5}, {300, 1, 1, 5}};
        for (int[] row : due) {
            for (int told = 0; told < 3; told++) Check.due("ifPassed(" + row[0] + ", " + told + ")", x.ifPassed(row[0], told), row[told + 1]);
        }
        Check.about("27", "in them: not those so far");
        x.minute(7);
        for (int told = 0; told < 3; told++) Check.due("ifPassed(9, " + told + ")", x.ifPassed(9, told), 0);
        Check.about("27", "3 tokens then, 4 CLASHES in them, 5 elections in them");
        x = new RingOffices();
        x.letter(0, 1, 4);
        x.letter(1, 0, 4);
        x.stray(1);
        Check.due("CLASHES in 4", x.ifPassed(4, 4), 4);
        Check.due("CLASHES in 5", x.ifPassed(5, 4), 4);
        x.minute(3);
        Check.due("CLASHES in 4, behind three", x.ifPassed(4, 4), 1);
        Check.due("tokens then", x.ifPassed(4, 3), 2);
        x.lose(0);
        x.lose(0);
        Check.due("tokens in 9", x.ifPassed(9, 3), 0);
        Check.due("tokens in 10", x.ifPassed(10, 3), 1);
        Check.due("elections in 9", x.ifPassed(9, 5), 0);
        Check.due("elections in 10", x.ifPassed(10, 5), 1);
        x.minute(10);
        Check.due("elections in 10, behind one", x.ifPassed(10, 5), 0);
        x = new RingOffices();
        x.minute(2);
        x.stray(1);
        x.letter(1, 0, 5);
        Check.due("tokens then, as one is torn up", x.ifPassed(1, 3), 1);
    }

    private static void ifPassedBeyond() {
        Check.about("27", "Returns that number (also if TIME would be above 9999)");
        RingOffices x = new RingOffices();
        for (int i = 0; i < 99; i++) x.minute(100);
        x.minute(99);
        Check.due("TIME", x.value(3), 9999);
        x.lose(0);
        x.letter(1, 2, 3);
        Check.due("READ in 14", x.ifPassed(14, 0), 1);
        Check.due("elections in 300", x.ifPassed(300, 5), 1);
        Check.due("ifRule", x.ifRule(1, 1, 5, 0), 1);
        Check.due("ifShut", x.ifShut(2, 14, 1), 1);
        Check.due("bestSpeak", x.bestSpeak(300), 3);
        Check.about("25 and 26", "if only minutes passed: also if TIME would be above 9999");
        Check.due("comesIn", x.comesIn(1), 10);
        Check.due("doneIn", x.doneIn(), 14);
        Check.due("leastQuota", x.leastQuota(), 3);
        Check.due("TIME stays", x.value(3), 9999);
    }

    // ---- promises 28 and 29

    private static void ifRule() {
        Check.about("28", "what: as for rule()");
        for (int odd : new int[] {-1, 3, LEAST, GREATEST}) Check.refused("what " + odd, new RingOffices(), INVALID, r -> r.ifRule(odd, 5, 5, 0));
        Check.about("28", "value: as for rule()");
        int[] most = {20, 99, 60};
        for (int w = 0; w < 3; w++) {
            int what = w;
            for (int odd : new int[] {-1, 0, most[w] + 1, LEAST, GREATEST}) {
                Check.refused("value " + odd + " of " + w, new RingOffices(), INVALID, r -> r.ifRule(what, odd, 5, 0));
            }
            Check.due("value 1 of " + w, new RingOffices().ifRule(w, 1, 5, 3), 1);
            Check.due("value " + most[w] + " of " + w, new RingOffices().ifRule(w, most[w], 5, 3), 1);
        }
        Check.about("28", "many: as for ifPassed()");
        for (int odd : new int[] {-1, 301, LEAST, GREATEST}) Check.refused("many " + odd, new RingOffices(), INVALID, r -> r.ifRule(0, 5, odd, 0));
        Check.due("many 0", new RingOffices().ifRule(0, 5, 0, 3), 1);
        Check.due("many 300", new RingOffices().ifRule(0, 5, 300, 3), 1);
        Check.about("28", "told: as for the what of ifPassed()");
        for (int odd : new int[] {-1, 6, LEAST, GREATEST}) Check.refused("told " + odd, new RingOffices(), INVALID, r -> r.ifRule(0, 5, 5, odd));
        Check.due("told 5", new RingOffices().ifRule(0, 5, 5, 5), 0);
    }

    private static void ifRuleTold() {
        Check.about("28", "Returns ifPassed(many, told), if it was set now");
        RingOffices x = new RingOffices();
        x.letter(0, 1, 7);
        Check.due("SPEAK 7", x.ifRule(0, 7, 8, 0), 1);
        Check.due("SPEAK 7, one minute less", x.ifRule(0, 7, 7, 0), 0);
        Check.due("QUOTA 6 and SPEAK 6", x.ifRule(2, 6, 300, 0), 0);
        x.rule(0, 7);
        Check.due("QUOTA 6", x.ifRule(2, 6, 300, 0), 0);
        Check.due("QUOTA 7", x.ifRule(2, 7, 8, 0), 1);
        x.lose(0);
        Check.due("QUIET 3", x.ifRule(1, 3, 3, 5), 1);
        Check.due("QUIET 4", x.ifRule(1, 4, 3, 5), 0);
        x.minute(5);
        Check.due("QUIET 1, as SILENCE is above it", x.ifRule(1, 1, 1, 3), 1);
        Check.due("QUIET 1, many 0: not before a minute", x.ifRule(1, 1, 0, 3), 0);
        Check.about("28", "if it was set now: the value that it has already, too");
        Check.due("QUIET 10", x.ifRule(1, 10, 5, 5), 1);
        Check.due("SPEAK 7", x.ifRule(0, 7, 300, 0), x.ifPassed(300, 0));
        Check.about("28", "as rule() and ifPassed() would do it");
        for (int told = 0; told < 6; told++) {
            for (int speak = 1; speak <= 20; speak += 3) {
                RingOffices y = twoSpeak();
                int foreseen = y.ifRule(0, speak, 40, told);
                y.rule(0, speak);
                Check.due("ifRule(0, " + speak + ", 40, " + told + ")", foreseen, y.ifPassed(40, told));
            }
        }
    }

    private static RingOffices twoSpeak() {
        RingOffices x = new RingOffices();
        x.stray(2);
        x.letter(0, 1, 4);
        x.letter(0, 2, 7);
        x.letter(1, 0, 9);
        x.letter(2, 0, 5);
        x.letter(2, 1, 2);
        x.minute(2);
        return x;
    }

    private static void ifShut() {
        Check.about("29", "office: an office");
        for (int odd : new int[] {-1, 3, LEAST, GREATEST}) Check.refused("office " + odd, new RingOffices(), INVALID, r -> r.ifShut(odd, 5, 0));
        Check.about("29", "many: as for ifPassed()");
        for (int odd : new int[] {-1, 301, LEAST, GREATEST}) Check.refused("many " + odd, new RingOffices(), INVALID, r -> r.ifShut(0, odd, 0));
        Check.due("many 0", new RingOffices().ifShut(1, 0, 3), 1);
        Check.due("many 300", new RingOffices().ifShut(1, 300, 3), 1);
        Check.about("29", "told: as for the what of ifPassed()");
        for (int odd : new int[] {-1, 6, LEAST, GREATEST}) Check.refused("told " + odd, new RingOffices(), INVALID, r -> r.ifShut(0, 5, odd));
        Check.due("told 5", new RingOffices().ifShut(1, 5, 5), 0);
    }

    private static void ifShutTold() {
        Check.about("29", "Returns ifPassed(many, told), if the office was shut now");
        RingOffices x = new RingOffices();
        x.letter(0, 1, 3);
        Check.due("the token AT it is lost at once", x.ifShut(0, 0, 3), 0);
        Check.due("no election in 9", x.ifShut(0, 9, 5), 0);
        Check.due("an election in 10", x.ifShut(0, 10, 5), 1);
        Check.due("its letter is not read out", x.ifShut(0, 300, 2), 0);
        Check.due("VAIN, if the office to which it goes is shut", x.ifShut(1, 4, 1), 1);
        Check.due("READ, if another one is shut", x.ifShut(2, 4, 0), 1);
        Check.about("29", "(opened, if it is shut)");
        x.shut(1, 0);
        Check.due("READ, if it is opened", x.ifShut(1, 4, 0), 1);
        Check.due("VAIN, if it is opened", x.ifShut(1, 4, 1), 0);
        Check.due("VAIN, as it is", x.ifPassed(4, 1), 1);
        x.shut(0, 0);
        Check.due("opened, no token comes by it", x.ifShut(0, 0, 3), 0);
        Check.about("29", "as shut() and ifPassed() would do it");
        for (int told = 0; told < 6; told++) {
            for (int o = 0; o < 3; o++) {
                RingOffices y = twoSpeak();
                int foreseen = y.ifShut(o, 40, told);
                y.shut(o, 0);
                Check.due("ifShut(" + o + ", 40, " + told + ")", foreseen, y.ifPassed(40, told));
                foreseen = y.ifShut(o, 40, told);
                y.shut(o, 1);
                Check.due("ifShut(" + o + ", 40, " + told + ") of a shut one", foreseen, y.ifPassed(40, told));
            }
        }
    }

    // ---- promise 30

    private static void bestSpeak() {
        Check.about("30", "INVALID for an invalid argument; many: as for ifPassed()");
        for (int odd : new int[] {-1, 301, LEAST, GREATEST}) Check.refused("bestSpeak(" + odd + ")", new RingOffices(), INVALID, r -> r.bestSpeak(odd));
        Check.due("bestSpeak(0)", new RingOffices().bestSpeak(0), 1);
        Check.due("bestSpeak(300)", new RingOffices().bestSpeak(300), 1);
        Check.about("30", "Returns the SPEAK, 1 to 20: the least");
        RingOffices x = new RingOffices();
        x.letter(0, 1, 1);
        Check.due("bestSpeak(9)", x.bestSpeak(9), 1);
        Check.about("30", "Returns the SPEAK, 1 to 20: the greatest");
        x = new RingOffices();
        x.letter(0, 1, 9);
        x.letter(0, 1, 9);
        x.letter(0, 1, 2);
        Check.due("bestSpeak(23)", x.bestSpeak(23), 20);
        Check.due("bestSpeak(22)", x.bestSpeak(22), 18);
        Check.about("30", "with the greatest ifPassed(many, 0): READ, not VAIN");
        x = new RingOffices();
        x.letter(0, 1, 2);
        x.letter(0, 2, 7);
        x.shut(2, 0);
        Check.due("bestSpeak(30)", x.bestSpeak(30), 2);
        x.shut(2, 1);
        Check.due("bestSpeak(30), as it is open", x.bestSpeak(30), 7);
        Check.about("30", "if it was set now: whatever SPEAK is");
        x.rule(0, 1);
        Check.due("bestSpeak(30) with SPEAK 1", x.bestSpeak(30), 7);
        x.rule(0, 20);
        Check.due("bestSpeak(30) with SPEAK 20", x.bestSpeak(30), 7);
        Check.due("SPEAK stays", x.value(0), 20);
    }

    private static void bestSpeakOfSeveral() {
        Check.about("30", "of several the smallest one");
        RingOffices x = new RingOffices();
        x.letter(0, 1, 4);
        Check.due("from 4 on", x.bestSpeak(5), 4);
        Check.due("none in time", x.bestSpeak(4), 1);
        x.letter(0, 1, 9);
        Check.due("both, one after the other", x.bestSpeak(300), 9);
        Check.due("both, in one turn", x.bestSpeak(15), 13);
        Check.due("not in time", x.bestSpeak(14), 4);
        Check.about("30", "bestSpeak is as the ifRule of each SPEAK says");
        for (int many = 0; many <= 300; many += 12) {
            RingOffices y = twoSpeak();
            int best = 1;
            for (int speak = 2; speak <= 20; speak++) {
                if (y.ifRule(0, speak, many, 0) > y.ifRule(0, best, many, 0)) best = speak;
            }
            Check.due("bestSpeak(" + many + ")", y.bestSpeak(many), best);
        }
    }

    // ---- promise 31

    private static void leastQuota() {
        Check.about("31", "Returns the least QUOTA, 1 to 60, with which doneIn() would not be greater than it is");
        Check.due("nothing to do", new RingOffices().leastQuota(), 1);
        RingOffices x = new RingOffices();
        x.letter(0, 1, 6);
        Check.due("one letter", x.leastQuota(), 6);
        x.letter(1, 2, 4);
        Check.due("of two offices", x.leastQuota(), 6);
        x.letter(1, 2, 2);
        x.letter(1, 2, 1);
        Check.due("two turns in a day", x.leastQuota(), 7);
        x = new RingOffices();
        x.letter(0, 1, 6);
        x.minute(1);
        Check.due("a letter that has begun needs none", x.leastQuota(), 1);
        Check.about("31", "not greater than it is: with the QUOTA that is");
        x = new RingOffices();
        x.rule(2, 3);
        x.letter(0, 1, 3);
        x.letter(0, 1, 2);
        int due = x.doneIn();
        Check.due("a day later", due > 60 ? 1 : 0, 1);
        Check.due("it may be a day later", x.leastQuota(), 3);
        x.rule(2, 60);
        Check.due("it may not", x.leastQuota(), 5);
        Check.about("31", "NOT_FOUND is not less than what doneIn() is");
        Check.due("a QUOTA of 1 would never do", x.ifRule(2, 1, 300, 0), 0);
        Check.about("31", "NOT_FOUND if doneIn() finds nothing");
        x = new RingOffices();
        x.letter(0, 1, 7);
        Check.refused("longer than SPEAK", x, NOT_FOUND, r -> r.leastQuota());
        x.rule(0, 7);
        x.rule(2, 6);
        Check.refused("longer than QUOTA, though a greater one would do", x, NOT_FOUND, r -> r.leastQuota());
        x.rule(2, 7);
        Check.due("the QUOTA that is", x.leastQuota(), 7);
        RingOffices y = slow(3, "");
        Check.due("done at 500", y.leastQuota() > 0 ? 1 : 0, 1);
        y.rule(1, 11);
        Check.refused("done at 501", y, NOT_FOUND, r -> r.leastQuota());
    }

    private static void leastQuotaEnds() {
        Check.about("31", "1 to 60: the greatest");
        // The last minute of a day begins a letter of 9, which is spoken on the next one, and five more follow: 54.
        RingOffices x = new RingOffices();
        x.rule(0, 20);
        x.rule(2, 60);
        x.minute(58);
        for (int i = 0; i < 6; i++) {
            x.stray(0);
            x.letter(0, 1, 9);
            x.minute(10);
            x.lose(x.token(0, 1) == 0 ? 0 : 1);
        }
        x.stray(0);
        Check.due("SPOKEN at 118", x.office(0, 3), 54);
        x.letter(0, 1, 6);
        Check.due("leastQuota", x.leastQuota(), 60);
        x.cancel(0, 0);
        x.letter(0, 1, 5);
        Check.due("leastQuota, one less", x.leastQuota(), 59);
        Check.about("31", "1 to 60: the least");
        x = new RingOffices();
        x.letter(0, 1, 1);
        Check.due("leastQuota", x.leastQuota(), 1);
        x.letter(0, 1, 1);
        Check.due("leastQuota", x.leastQuota(), 2);
    }

    private static void nothingChanges() {
        Check.about("25 to 31", "telling what would be changes nothing");
        Check.refused("comesIn", twoSpeak(), 1, r -> r.comesIn(1) > 0 ? 1 : 0);
        Check.refused("doneIn", twoSpeak(), NOT_FOUND, r -> r.doneIn());
        Check.refused("ifPassed", twoSpeak(), 1, r -> r.ifPassed(300, 3));
        Check.refused("ifRule", twoSpeak(), 1, r -> r.ifRule(2, 9, 300, 3));
        Check.refused("ifShut", twoSpeak(), 1, r -> r.ifShut(0, 300, 3));
        Check.refused("bestSpeak", twoSpeak(), 9, r -> r.bestSpeak(300));
        Check.refused("leastQuota", twoSpeak(), NOT_FOUND, r -> r.leastQuota());
        Check.about("25 to 31", "nor the tape, the error position and the slots");
        RingOffices x = twoSpeak();
        x.keep(0);
        Check.load(x, "speak");
        Check.write(x, "spe");
        x.ifShut(0, 300, 3);
        x.bestSpeak(300);
        x.leastQuota();
        Check.due("length of the tape", x.truncate(0), 3);
        Check.due("errorPosition", x.errorPosition(), 5);
        Check.due("slot 0", x.restore(0), 2);
    }
}
