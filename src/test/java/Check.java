/** What the tests share: counting wrong answers, and texts to and from an object. */
final class Check {
    static final int LEAST = Integer.MIN_VALUE;
    static final int GREATEST = Integer.MAX_VALUE;

    private static int wrong = 0;
    private static String sentence = "";

    private Check() {
    }

    /** Tells the sentence of the document to which the answers behind this call are due. */
    static void about(String place, String itsSentence) {
        sentence = place + " [" + itsSentence + "] ";
    }

    static void due(String call, double got, double want) {
        if (got == want) return;
        wrong++;
        if (wrong <= 50) System.out.println(sentence + call + " answered " + got + ", due is " + want);
    }

    static void dueText(String call, String got, String want) {
        if (got.equals(want)) return;
        wrong++;
        if (wrong <= 50) System.out.println(sentence + call + " answered [" + got + "], due is [" + want + "]");
    }

    interface Call {
        int on(RingOffices x);
    }

    /** A call that is refused or only tells something: its answer is due, and nothing else may be another then. */
    static void refused(String name, RingOffices x, int want, Call call) {
        String before = all(x);
        int undoable = x.value(20);
        due(name, call.on(x), want);
        dueText(name + " changes nothing", all(x), before);
        due(name + " is no operation", x.value(20), undoable);
    }

    /** A text in which a bar stands ahead of the first byte of what cannot stand there. */
    static void fault(String marked) {
        int position = marked.indexOf('|');
        String text = marked.substring(0, position) + marked.substring(position + 1);
        RingOffices x = new RingOffices();
        due("load of [" + marked + "]", load(x, text), RingOffices.INVALID);
        due("errorPosition of [" + marked + "]", x.errorPosition(), position);
    }

    static void good(String text, int offices) {
        RingOffices x = new RingOffices();
        due("load of [" + text + "]", load(x, text), offices);
        due("errorPosition of [" + text + "]", x.errorPosition(), RingOffices.NOT_FOUND);
    }

    static int wrong() {
        return wrong;
    }

    static void end(String test) {
        System.out.println(test + ": " + (wrong == 0 ? "all answers are as due" : wrong + " answers are not as due"));
        if (wrong != 0) System.exit(1);
    }

    private static int four(String text, int i) {
        int four = 0;
        for (int k = i; k < i + 4; k++) four = four << 8 | (k < text.length() ? text.charAt(k) & 255 : 32);
        return four;
    }

    /** Puts a text behind what is on the tape. */
    static void write(RingOffices x, String text) {
        for (int i = 0; i < text.length(); i += 20) {
            x.append(four(text, i), four(text, i + 4), four(text, i + 8), four(text, i + 12), four(text, i + 16));
            if (i + 20 > text.length()) x.truncate(i + 20 - text.length());
        }
    }

    static int load(RingOffices x, String text) {
        write(x, text);
        return x.load();
    }

    static RingOffices made(String setup) {
        RingOffices x = new RingOffices();
        int offices = load(x, setup);
        if (offices < 2) due("load of [" + setup + "], error position " + x.errorPosition(), offices, 2);
        return x;
    }

    static String list(RingOffices x) {
        StringBuilder text = new StringBuilder();
        int length = x.listLength();
        for (int i = 0; i < length; i++) text.append((char) x.listByte(i));
        return text.toString();
    }

    static String setup(RingOffices x) {
        StringBuilder text = new StringBuilder();
        int length = x.setupLength();
        for (int i = 0; i < length; i++) text.append((char) x.setupByte(i));
        return text.toString();
    }

    static String log(RingOffices x) {
        StringBuilder text = new StringBuilder();
        int entries = x.value(19);
        for (int i = 0; i < entries; i++) {
            text.append(x.log(i, 0)).append(' ').append(x.log(i, 1)).append(' ').append(x.log(i, 2)).append(';');
        }
        return text.toString();
    }

    /** Each token as NUMBER, office, TOGO, TURN, LEFT. */
    static String tokens(RingOffices x) {
        StringBuilder text = new StringBuilder();
        for (int t = 0; t < x.value(6); t++) {
            for (int what = 0; what < 5; what++) text.append(what == 0 ? "" : " ").append(x.token(t, what));
            text.append(';');
        }
        return text.toString();
    }

    /** Everything that can be told of an object without changing it; slots, tape and error position are not in it. */
    static String all(RingOffices x) {
        StringBuilder text = new StringBuilder();
        for (int what = 0; what < 20; what++) text.append(x.value(what)).append(' ');
        text.append(x.winner()).append(' ').append(x.round()).append(' ').append(x.busiest()).append(' ');
        text.append(x.spoken()).append(' ').append(x.meanLength()).append(' ');
        for (int o = 0; o < x.value(4); o++) {
            for (int what = 0; what < 9; what++) text.append(x.office(o, what)).append(' ');
            for (int i = 0; i < x.office(o, 4); i++) {
                for (int what = 0; what < 3; what++) text.append(x.queue(o, i, what)).append(' ');
            }
        }
        return text.append(tokens(x)).append(log(x)).append(list(x)).append(setup(x)).toString();
    }
}
