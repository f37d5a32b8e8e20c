/** Promises 6 to 10 and 12 to 16: letters, offices, tokens, rules, slots, undo, and what the log says of them. */
public final class OperationsTest {
    private static final int LEAST = Integer.MIN_VALUE;
    private static final int GREATEST = Integer.MAX_VALUE;

    public static void main(String[] args) {
        letter();
        cancel();
        shut();
        lose();
        stray();
        strayOfManyTokens();
        set();
        rule();
        keepAndRestore();
        undo();
        undoOfTheLog();
        undoOfEachOperation();
        whatIsNoOperation();
        Check.end("OperationsTest");
    }

    private static void letter() {
        RingOffices x = new RingOffices();
        for (int odd : new int[] {-1, 3, LEAST, GREATEST}) {
            Check.refused("letter: office", x, RingOffices.INVALID, r -> r.letter(odd, 1, 1));
            Check.refused("letter: to", x, RingOffices.INVALID, r -> r.letter(0, odd, 1));
        }
        for (int odd : new int[] {-1, 0, 10, LEAST, GREATEST}) Check.refused("letter: length", x, RingOffices.INVALID, r -> r.letter(0, 1, odd));
        Check.refused("letter: twice the same", x, RingOffices.INVALID, r -> r.letter(2, 2, 1));
        x.shut(1, 0);
        x.shut(2, 0);
        Check.due("letter from a shut office to a shut one", x.letter(1, 2, 9), 1);
        for (int i = 2; i <= 6; i++) Check.due("letter " + i, x.letter(1, 0, i), i);
        Check.refused("letter 7", x, RingOffices.FULL, r -> r.letter(1, 0, 1));
        Check.refused("letter 7: twice the same comes first", x, RingOffices.INVALID, r -> r.letter(1, 1, 1));
        Check.refused("letter 7: a LENGTH of 0 comes first", x, RingOffices.INVALID, r -> r.letter(1, 0, 0));
        Check.due("another queue", x.letter(0, 2, 1), 1);
        Check.due("letters that came", x.value(10), 7);
        Check.dueText("letter: log", Check.log(x), "7 1 0;7 2 0;0 1 9;0 1 2;0 1 3;0 1 4;0 1 5;0 1 6;0 0 1;");
        Check.dueText("letter: behind those of the queue", Check.list(x), "0:40/1>2@1\n1:70x/9>2/2>0/3>0/4>0/5>0/6>0\n2:20x\n");
    }

    private static void cancel() {
        RingOffices x = new RingOffices();
        for (int length = 1; length <= 6; length++) x.letter(1, 0, length);
        for (int odd : new int[] {-1, 3, LEAST, GREATEST}) Check.refused("cancel: office", x, RingOffices.INVALID, r -> r.cancel(odd, 0));
        Check.refused("cancel: -1", x, RingOffices.INVALID, r -> r.cancel(1, -1));
        Check.refused("cancel: least", x, RingOffices.INVALID, r -> r.cancel(1, LEAST));
        Check.refused("cancel: 6", x, RingOffices.NOT_FOUND, r -> r.cancel(1, 6));
        Check.refused("cancel: greatest", x, RingOffices.NOT_FOUND, r -> r.cancel(1, GREATEST));
        Check.refused("cancel: nothing there", x, RingOffices.NOT_FOUND, r -> r.cancel(0, 0));
        Check.due("cancel: in the middle", x.cancel(1, 2), 5);
        Check.due("cancel: the last one", x.cancel(1, 4), 4);
        Check.due("cancel: the first one", x.cancel(1, 0), 3);
        Check.dueText("cancel: what is left", Check.list(x), "0:40@1\n1:70/2>0/4>0/5>0\n2:20\n");
        Check.due("taken back", x.value(13), 3);
        Check.dueText("cancel: log", Check.log(x).substring(36), "9 1 3;9 1 6;9 1 1;");
        x.minute(4);
        Check.due("cancel: being read out", x.token(0, 4), 2);
        Check.refused("cancel: being read out", x, RingOffices.WRONG_STATE, r -> r.cancel(1, 0));
        x.minute(1);
        Check.due("cancel: in its last minute", x.token(0, 4), 1);
        Check.refused("cancel: in its last minute", x, RingOffices.WRONG_STATE, r -> r.cancel(1, 0));
        Check.due("cancel: the second while the first is read out", x.cancel(1, 1), 2);
        Check.refused("cancel: NOT_FOUND comes first", x, RingOffices.NOT_FOUND, r -> r.cancel(1, 2));
        x.minute(1);
        Check.due("cancel: a first letter that will begin only", x.cancel(1, 0), 0);
    }

    private static void shut() {
        RingOffices x = new RingOffices();
        for (int odd : new int[] {-1, 3, LEAST, GREATEST}) Check.refused("shut: office", x, RingOffices.INVALID, r -> r.shut(odd, 0));
        for (int odd : new int[] {-1, 2, LEAST, GREATEST}) Check.refused("shut: isOpen", x, RingOffices.INVALID, r -> r.shut(0, odd));
        Check.refused("shut: it is open", x, RingOffices.NOT_FOUND, r -> r.shut(0, 1));
        x.letter(0, 1, 3);
        x.minute(2);
        Check.due("shut: a token AT it", x.shut(0, 0), 1);
        Check.dueText("shut: its letters stay", Check.list(x), "0:40x/3>1\n1:70\n2:20\n");
        Check.due("shut: LEFT is gone", x.queue(0, 0, 2), 3);
        Check.dueText("shut: log", Check.log(x), "0 0 3;7 0 0;5 1 0;");
        Check.due("shut: lost", x.value(16), 1);
        Check.due("shut: SPOKEN stays", x.office(0, 3), 1);
        Check.due("shut: SILENCE is as it was", x.value(7), 0);
        Check.refused("shut: it is shut", x, RingOffices.NOT_FOUND, r -> r.shut(0, 0));
        Check.due("open", x.shut(0, 1), 0);
        Check.dueText("open: nothing else", Check.list(x), "0:40/3>1\n1:70\n2:20\n");
        Check.dueText("open: log", Check.log(x), "0 0 3;7 0 0;5 1 0;7 0 1;");
        Check.due("open: no token comes back", x.value(6), 0);

        x = new RingOffices();
        x.minute(1);
        x.stray(2);
        Check.due("shut: a token on the way to it stays", x.shut(1, 0), 0);
        Check.dueText("shut: the tokens", Check.tokens(x), "1 1 2 0 0;2 2 0 0 0;");
        Check.due("shut: only the one AT it is lost", x.shut(2, 0), 1);
        Check.dueText("shut: the token that is left", Check.tokens(x), "1 1 2 0 0;");
    }

    private static void lose() {
        RingOffices x = new RingOffices();
        x.letter(0, 1, 4);
        x.stray(1);
        x.minute(2);
        x.stray(2);
        for (int odd : new int[] {-1, 3, LEAST, GREATEST}) Check.refused("lose: token", x, RingOffices.INVALID, r -> r.lose(odd));
        Check.dueText("lose: the tokens", Check.tokens(x), "1 0 0 1 3;2 2 2 0 0;3 2 0 0 0;");
        Check.due("lose: ON THE WAY", x.lose(1), 2);
        Check.dueText("lose: those that are left", Check.tokens(x), "1 0 0 1 3;3 2 0 0 0;");
        Check.due("lose: SPEAKING", x.lose(0), 1);
        Check.dueText("lose: the letter stays", Check.list(x), "0:40/4>1\n1:70\n2:20@3\n");
        Check.due("lose: its LEFT is its LENGTH", x.queue(0, 0, 2), 4);
        Check.refused("lose: there is only one", x, RingOffices.INVALID, r -> r.lose(1));
        Check.due("lose: the last one", x.lose(0), 3);
        Check.refused("lose: there is none", x, RingOffices.INVALID, r -> r.lose(0));
        Check.due("lost", x.value(16), 3);
        Check.dueText("lose: log", Check.log(x), "0 0 4;6 2 1;6 3 2;5 2 2;5 1 0;5 3 2;");
    }

    private static void stray() {
        RingOffices x = new RingOffices();
        for (int odd : new int[] {-1, 3, LEAST, GREATEST}) Check.refused("stray: office", x, RingOffices.INVALID, r -> r.stray(odd));
        x.shut(2, 0);
        Check.refused("stray: shut", x, RingOffices.WRONG_STATE, r -> r.stray(2));
        x.letter(0, 1, 4);
        x.minute(3);
        Check.due("stray: to the one that speaks", x.stray(0), 2);
        Check.dueText("stray: the older one is torn up", Check.tokens(x), "2 0 0 0 0;");
        Check.due("stray: torn up", x.value(15), 1);
        Check.due("stray: not lost", x.value(16), 0);
        Check.due("stray: the letter stays first", x.queue(0, 0, 2), 4);
        Check.due("stray: minutes spoken", x.value(18), 2);
        Check.dueText("stray: log", Check.log(x), "7 2 0;0 0 4;6 2 0;3 1 0;");
        x.lose(0);
        x.minute(3);
        Check.due("stray: the NUMBER of one that is gone counts", x.stray(0), 3);
        Check.due("stray: SILENCE is of minutes", x.value(7), 3);
        x.minute(1);
        Check.due("stray: SILENCE ends with the minute", x.value(7), 0);
        Check.due("stray: no clash by coming", x.value(17), 0);
    }

    private static void strayOfManyTokens() {
        RingOffices x = new RingOffices();
        Check.due("stray: a second token", x.stray(1), 2);
        Check.due("stray: a third token", x.stray(2), 3);
        x.shut(0, 0);
        x.shut(0, 1);
        Check.due("stray: in place of a lost one", x.stray(0), 4);
        Check.dueText("stray: by NUMBERS", Check.tokens(x), "2 1 0 0 0;3 2 0 0 0;4 0 0 0 0;");
        for (int o = 0; o < 3; o++) {
            int office = o;
            Check.refused("stray: FULL at " + o, x, RingOffices.FULL, r -> r.stray(office));
        }
        x.minute(1);
        Check.refused("stray: FULL, all on the way", x, RingOffices.FULL, r -> r.stray(0));
        x.shut(1, 0);
        Check.refused("stray: WRONG_STATE comes first", x, RingOffices.WRONG_STATE, r -> r.stray(1));
        Check.refused("stray: INVALID comes first", x, RingOffices.INVALID, r -> r.stray(3));
    }

    private static void set() {
        RingOffices x = new RingOffices();
        for (int odd : new int[] {-1, 3, LEAST, GREATEST}) Check.refused("set: office", x, RingOffices.INVALID, r -> r.set(odd, 0, 5));
        for (int odd : new int[] {-1, 2, LEAST, GREATEST}) Check.refused("set: what", x, RingOffices.INVALID, r -> r.set(0, odd, 5));
        for (int odd : new int[] {-1, 0, 10, 70, LEAST, GREATEST}) Check.refused("set: WAY", x, RingOffices.INVALID, r -> r.set(0, 0, odd));
        for (int odd : new int[] {-1, 0, 100, LEAST, GREATEST}) Check.refused("set: NAME", x, RingOffices.INVALID, r -> r.set(0, 1, odd));
        Check.refused("set: WAY as it is", x, RingOffices.NOT_FOUND, r -> r.set(1, 0, 3));
        Check.refused("set: NAME as it is", x, RingOffices.NOT_FOUND, r -> r.set(1, 1, 70));
        Check.refused("set: NAME of another one", x, RingOffices.WRONG_STATE, r -> r.set(1, 1, 20));
        Check.refused("set: NAME of another one", x, RingOffices.WRONG_STATE, r -> r.set(2, 1, 40));
        x.minute(1);
        Check.due("set: WAY of another one may be", x.set(1, 0, 1), 3);
        Check.due("set: WAY", x.set(0, 0, 9), 2);
        Check.dueText("set: the token has its TOGO", Check.tokens(x), "1 1 2 0 0;");
        Check.due("set: NAME", x.set(0, 1, 99), 40);
        Check.due("set: a NAME that is free again", x.set(2, 1, 40), 20);
        Check.due("set: least NAME", x.set(2, 1, 1), 40);
        Check.dueText("set: setup", Check.setup(x), "speak 6 quiet 10 quota 30;office 9 99;office 1 70;office 1 1;");
        Check.dueText("set: log", Check.log(x), "10 10 3;10 0 2;10 1 40;10 21 20;10 21 40;");
        x.minute(3);
        Check.dueText("set: the next way is the new one", Check.tokens(x), "1 2 1 0 0;");
    }

    private static void rule() {
        RingOffices x = new RingOffices();
        for (int odd : new int[] {-1, 3, LEAST, GREATEST}) Check.refused("rule: what", x, RingOffices.INVALID, r -> r.rule(odd, 5));
        int[] most = {20, 99, 60};
        int[] former = {6, 10, 30};
        for (int w = 0; w < 3; w++) {
            int what = w;
            for (int odd : new int[] {-1, 0, most[w] + 1, LEAST, GREATEST}) Check.refused("rule: value", x, RingOffices.INVALID, r -> r.rule(what, odd));
            Check.refused("rule: as it is", x, RingOffices.NOT_FOUND, r -> r.rule(what, former[what]));
            Check.due("rule: least", x.rule(w, 1), former[w]);
            Check.due("rule: least it is", x.value(w), 1);
            Check.due("rule: greatest", x.rule(w, most[w]), 1);
            Check.due("rule: greatest it is", x.value(w), most[w]);
        }
        Check.dueText("rule: log", Check.log(x), "8 0 6;8 0 1;8 1 10;8 1 1;8 2 30;8 2 1;");
    }

    private static void keepAndRestore() {
        RingOffices x = new RingOffices();
        for (int odd : new int[] {-1, 2, LEAST, GREATEST}) {
            Check.refused("keep", x, RingOffices.INVALID, r -> r.keep(odd));
            Check.refused("restore", x, RingOffices.INVALID, r -> r.restore(odd));
        }
        Check.refused("restore: empty", x, RingOffices.NOT_FOUND, r -> r.restore(0));
        x.letter(0, 1, 3);
        x.minute(7);
        x.stray(2);
        String kept = Check.all(x);
        Check.refused("keep 1", x, 7, r -> r.keep(1));
        Check.refused("restore: the other one is empty", x, RingOffices.NOT_FOUND, r -> r.restore(0));
        x.rule(0, 9);
        x.rule(1, 2);
        x.rule(2, 9);
        x.set(0, 0, 4);
        x.set(0, 1, 4);
        x.letter(2, 1, 3);
        x.cancel(2, 0);
        x.lose(1);
        x.shut(2, 0);
        x.minute(60);
        String late = Check.all(x);
        Check.due("keep 0", x.keep(0), 67);
        Check.due("restore 1", x.restore(1), 7);
        Check.dueText("restore 1: all, the log too", Check.all(x), kept);
        Check.due("restore is an operation", x.value(20), 8);
        x.minute(3);
        Check.due("restore 1 again: the slot keeps it", x.restore(1), 7);
        Check.dueText("restore 1 again: all", Check.all(x), kept);
        Check.due("restore 0", x.restore(0), 67);
        Check.dueText("restore 0: all", Check.all(x), late);
        Check.due("undo of restore", x.undo(), 7);
        Check.dueText("undo of restore: all", Check.all(x), kept);
        Check.due("restore: NUMBERS as they were", x.stray(0), 3);
        Check.due("keep in place of what it had", x.keep(1), 7);
        String anew = Check.all(x);
        x.undo();
        Check.due("undo leaves the slots", x.restore(1), 7);
        Check.dueText("undo leaves the slots: all", Check.all(x), anew);
    }

    private static void undo() {
        RingOffices x = new RingOffices();
        Check.refused("undo: nothing", x, RingOffices.INVALID, RingOffices::undo);
        String[] before = new String[13];
        for (int i = 0; i < 12; i++) {
            before[i] = Check.all(x);
            Check.due("operations that can be undone", x.value(20), Math.min(i, 8));
            x.minute(i + 1);
        }
        Check.due("operations that can be undone", x.value(20), 8);
        for (int i = 11; i >= 4; i--) {
            Check.due("undo " + i, x.undo(), i - 4);
            Check.dueText("undo " + i, Check.all(x), before[i]);
        }
        Check.refused("undo: the ninth is forgotten", x, RingOffices.INVALID, RingOffices::undo);
        x.minute(1);
        x.minute(2);
        String two = Check.all(x);
        x.minute(3);
        Check.due("undo one", x.undo(), 2);
        x.letter(0, 1, 1);
        Check.due("undo what came behind", x.undo(), 2);
        Check.dueText("undo what came behind", Check.all(x), two);
    }

    private static void undoOfTheLog() {
        RingOffices x = new RingOffices();
        for (int i = 0; i < 45; i++) x.rule(1, i % 2 == 0 ? 11 + i : 1 + i);
        x.keep(1);
        String before = Check.all(x);
        for (int i = 0; i < 7; i++) x.letter(i % 3, (i + 1) % 3, 1 + i);
        x.minute(50);
        Check.due("entries", x.value(19), 40);
        for (int i = 7; i >= 0; i--) Check.due("undo", x.undo(), i);
        Check.dueText("undo: the entries that had given way are back", Check.all(x), before);
        for (int i = 0; i < 5; i++) x.set(0, 1, 1 + i);
        x.restore(1);
        Check.dueText("restore: the entries that had given way are back", Check.all(x), before);
    }

    private static void undone(String name, RingOffices x, Check.Call call) {
        String before = Check.all(x);
        int undoable = x.value(20);
        if (call.on(x) < 0) Check.due(name + " refused", 1, 0);
        Check.due(name + " counts", x.value(20), undoable + 1);
        Check.due(name + " undone", x.undo(), undoable);
        Check.dueText(name + " undone", Check.all(x), before);
        call.on(x);
    }

    private static void undoOfEachOperation() {
        RingOffices x = new RingOffices();
        undone("letter", x, r -> r.letter(0, 1, 4));
        undone("letter", x, r -> r.letter(2, 1, 2));
        undone("stray", x, r -> r.stray(2));
        undone("minute", x, r -> r.minute(4));
        undone("stray that tears up", x, r -> r.stray(0));
        undone("lose", x, r -> r.lose(0));
        undone("cancel", x, r -> r.cancel(0, 0));
        x = new RingOffices();
        undone("shut", x, r -> r.shut(0, 0));
        undone("open", x, r -> r.shut(0, 1));
        undone("set WAY", x, r -> r.set(0, 0, 4));
        undone("set NAME", x, r -> r.set(0, 1, 4));
        undone("rule", x, r -> r.rule(1, 3));
        x.keep(0);
        undone("restore", x, r -> r.restore(0));
        undone("minutes with an election", x, r -> r.minute(50));
    }

    private static void whatIsNoOperation() {
        RingOffices x = new RingOffices();
        x.minute(1);
        Check.write(x, "speak");
        x.truncate(1);
        x.keep(0);
        Check.load(x, "speak 1 quiet 1");
        Check.due("tape, slots and failed loads are no operations", x.value(20), 1);
        Check.write(x, "abc");
        x.undo();
        Check.due("undo leaves the tape", x.truncate(0), 3);
        Check.due("undo leaves the error position", x.errorPosition(), 0);
        x.ifPassed(9, 0);
        x.ifRule(0, 1, 9, 0);
        x.ifShut(0, 9, 0);
        x.doneIn();
        x.comesIn(2);
        x.bestSpeak(9);
        x.leastQuota();
        Check.due("what would be is no operation", x.value(20), 0);
        Check.due("undo has nothing then", x.undo(), RingOffices.INVALID);
    }
}
