import java.util.ArrayList;
import java.util.List;

/**
 * The document told a second time, as plainly as it goes: worlds of small objects that are copied whole,
 * and texts that are taken apart into lists first. ModelTest compares RingOffices with it.
 */
public final class Model {
    private static final int INVALID = -1;
    private static final int NOT_FOUND = -2;
    private static final int FULL = -3;
    private static final int WRONG_STATE = -4;

    private static final class Letter {
        final int to;
        final int length;

        Letter(int to, int length) {
            this.to = to;
            this.length = length;
        }
    }

    private static final class Office {
        int way;
        int name;
        boolean open = true;
        int spoken;
        int readTo;
        List<Letter> queue = new ArrayList<>();

        Office copy() {
            Office o = new Office();
            o.way = way;
            o.name = name;
            o.open = open;
            o.spoken = spoken;
            o.readTo = readTo;
            o.queue = new ArrayList<>(queue);
            return o;
        }
    }

    private static final class Token {
        int number;
        int office;
        boolean onTheWay;
        int togo;
        int turn;
        boolean speaking;
        int left;

        Token copy() {
            Token t = new Token();
            t.number = number;
            t.office = office;
            t.onTheWay = onTheWay;
            t.togo = togo;
            t.turn = turn;
            t.speaking = speaking;
            t.left = left;
            return t;
        }
    }

    private static final class World {
        int speak;
        int quiet;
        int quota;
        int time;
        int silence;
        int greatest;
        int came;
        int read;
        int vain;
        int back;
        int elections;
        int torn;
        int lost;
        int clashes;
        int minutes;
        List<Office> offices = new ArrayList<>();
        List<Token> tokens = new ArrayList<>();
        List<int[]> log = new ArrayList<>();

        World copy() {
            World w = new World();
            w.speak = speak;
            w.quiet = quiet;
            w.quota = quota;
            w.time = time;
            w.silence = silence;
            w.greatest = greatest;
            w.came = came;
            w.read = read;
            w.vain = vain;
            w.back = back;
            w.elections = elections;
            w.torn = torn;
            w.lost = lost;
            w.clashes = clashes;
            w.minutes = minutes;
            for (Office o : offices) w.offices.add(o.copy());
            for (Token t : tokens) w.tokens.add(t.copy());
            w.log = new ArrayList<>(log);
            return w;
        }

        void note(int kind, int a, int b) {
            log.add(new int[] {kind, a, b});
            if (log.size() > 40) log.remove(0);
        }

        Token tokenAt(int office) {
            for (Token t : tokens) if (!t.onTheWay && t.office == office) return t;
            return null;
        }

        Token newToken(int office) {
            Token t = new Token();
            t.number = ++greatest;
            t.office = office;
            tokens.add(t);
            return t;
        }

        void setOut(Token t) {
            t.onTheWay = true;
            t.togo = offices.get(t.office).way;
            t.office = (t.office + 1) % offices.size();
            t.turn = 0;
        }

        void minute() {
            time++;
            if (time % 60 == 0) for (Office o : offices) o.spoken = 0;
            for (Token t : tokens) move(t);
            tear();
            int speaking = 0;
            for (Token t : tokens) if (t.speaking) speaking++;
            if (speaking > 1) clashes++;
            silence = tokens.isEmpty() ? silence + 1 : 0;
            if (silence >= quiet && winner() >= 0) {
                int o = winner();
                Token t = newToken(o);
                silence = 0;
                elections++;
                note(4, o, t.number);
            }
        }

        void move(Token t) {
            Office o = offices.get(t.office);
            if (t.onTheWay) {
                t.togo--;
                if (t.togo > 0) return;
                t.onTheWay = false;
                t.turn = 0;
                if (!o.open) setOut(t);
            } else if (t.speaking) {
                t.left--;
                t.turn++;
                o.spoken++;
                minutes++;
                if (t.left > 0) return;
                t.speaking = false;
                Letter gone = o.queue.remove(0);
                boolean heard = offices.get(gone.to).open;
                if (heard) {
                    read++;
                    offices.get(gone.to).readTo++;
                } else {
                    vain++;
                }
                note(heard ? 1 : 2, 100 * t.office + gone.to, gone.length);
            } else {
                int room = Math.min(speak - t.turn, quota - o.spoken);
                if (o.open && !o.queue.isEmpty() && o.queue.get(0).length <= room) {
                    t.speaking = true;
                    t.left = o.queue.get(0).length;
                } else {
                    setOut(t);
                }
            }
        }

        void tear() {
            List<Token> gone = new ArrayList<>();
            for (Token a : tokens) {
                for (Token b : tokens) {
                    boolean meet = !a.onTheWay && !b.onTheWay && a.office == b.office;
                    if (meet && a.number < b.number && !gone.contains(a)) gone.add(a);
                }
            }
            for (Token t : gone) {
                tokens.remove(t);
                torn++;
                note(3, t.number, t.office);
            }
        }

        int winner() {
            int best = NOT_FOUND;
            int name = 0;
            for (int o = 0; o < offices.size(); o++) {
                if (offices.get(o).open && offices.get(o).name > name) {
                    best = o;
                    name = offices.get(o).name;
                }
            }
            return best;
        }

        void loseIt(Token t) {
            tokens.remove(t);
            lost++;
            note(5, t.number, t.office);
        }

        int setOpen(int office, boolean open) {
            offices.get(office).open = open;
            note(7, office, open ? 1 : 0);
            int before = lost;
            if (!open && tokenAt(office) != null) loseIt(tokenAt(office));
            return lost - before;
        }

        int letters() {
            int sum = 0;
            for (Office o : offices) sum += o.queue.size();
            return sum;
        }

        int told(int what) {
            return new int[] {read, vain, minutes, tokens.size(), clashes, elections}[what];
        }
    }

    private World w = new World();
    private final List<World> past = new ArrayList<>();
    private final World[] slots = new World[2];
    private StringBuilder tape = new StringBuilder();
    private int error = NOT_FOUND;

    public Model() {
        tape.append("speak 6 quiet 10 quota 30;office 2 40;office 3 70;office 1 20;token 0;");
        load();
    }

    private boolean no(int office) {
        return office < 0 || office >= w.offices.size();
    }

    private static boolean out(int x, int least, int most) {
        return x < least || x > most;
    }

    private void operation() {
        past.add(w);
        w = w.copy();
        if (past.size() > 8) past.remove(0);
    }

    public int append(int a, int b, int c, int d, int e) {
        if (tape.length() + 20 > 1200) return INVALID;
        for (int x : new int[] {a, b, c, d, e}) {
            for (int shift = 24; shift >= 0; shift -= 8) tape.append((char) (x >> shift & 255));
        }
        return tape.length();
    }

    public int truncate(int n) {
        if (out(n, 0, tape.length())) return INVALID;
        tape.setLength(tape.length() - n);
        return tape.length();
    }

    // ---- the setup text: first all its tokens, each as {kind, number, start}, then the grammar

    private static final class Wrong extends RuntimeException {
        final int position;

        Wrong(int position) {
            this.position = position;
        }
    }

    private static final class Piece {
        String kind;
        int number;
        int start;
    }

    private List<Piece> pieces;
    private int next;

    private static List<Piece> cut(String text) {
        List<Piece> found = new ArrayList<>();
        java.util.regex.Matcher m = java.util.regex.Pattern.compile("[a-z]+|[0-9]+|[^ \n]").matcher(text);
        while (m.find()) {
            Piece p = new Piece();
            p.start = m.start();
            p.kind = m.group();
            if (p.kind.matches("[0-9]+")) {
                p.number = p.kind.length() > 2 ? 0 : Integer.parseInt(p.kind);
                p.kind = p.kind.length() > 2 ? "bad" : "INT";
            }
            found.add(p);
        }
        Piece end = new Piece();
        end.kind = "END";
        end.start = text.length();
        found.add(end);
        return found;
    }

    private boolean sees(String kind) {
        return pieces.get(next).kind.equals(kind);
    }

    private Piece need(String kind) {
        if (!sees(kind)) throw new Wrong(pieces.get(next).start);
        return pieces.get(next++);
    }

    private int need(int least, int most) {
        Piece p = need("INT");
        if (out(p.number, least, most)) throw new Wrong(p.start);
        return p.number;
    }

    private Wrong lastIsWrong() {
        return new Wrong(pieces.get(next - 1).start);
    }

    private World parsed() {
        World v = new World();
        need("speak");
        v.speak = need(1, 20);
        need("quiet");
        v.quiet = need(1, 99);
        need("quota");
        v.quota = need(1, 60);
        need(";");
        do {
            need("office");
            if (v.offices.size() == 10) throw lastIsWrong();
            Office o = new Office();
            o.way = need(1, 9);
            o.name = need(1, 99);
            for (Office other : v.offices) if (other.name == o.name) throw lastIsWrong();
            if (sees("shut")) {
                next++;
                o.open = false;
            }
            need(";");
            v.offices.add(o);
        } while (v.offices.size() < 2 || sees("office"));
        int last = v.offices.size() - 1;
        while (sees("letter")) {
            next++;
            int from = need(0, last);
            if (v.offices.get(from).queue.size() == 6) throw lastIsWrong();
            int to = need(0, last);
            if (to == from) throw lastIsWrong();
            int length = need(1, 9);
            need(";");
            v.offices.get(from).queue.add(new Letter(to, length));
            v.came++;
        }
        if (sees("token")) {
            next++;
            int office = need(0, last);
            if (!v.offices.get(office).open) throw lastIsWrong();
            need(";");
            v.newToken(office);
        }
        need("END");
        return v;
    }

    public int load() {
        String text = tape.toString();
        tape = new StringBuilder();
        pieces = cut(text);
        next = 0;
        try {
            w = parsed();
        } catch (Wrong e) {
            error = e.position;
            return INVALID;
        }
        error = NOT_FOUND;
        past.clear();
        slots[0] = null;
        slots[1] = null;
        return w.offices.size();
    }

    public int errorPosition() {
        return error;
    }

    // ---- operations

    public int letter(int office, int to, int length) {
        if (no(office) || no(to) || office == to || out(length, 1, 9)) return INVALID;
        if (w.offices.get(office).queue.size() == 6) return FULL;
        operation();
        w.offices.get(office).queue.add(new Letter(to, length));
        w.came++;
        w.note(0, office, length);
        return w.offices.get(office).queue.size();
    }

    public int cancel(int office, int i) {
        if (no(office) || i < 0) return INVALID;
        if (i >= w.offices.get(office).queue.size()) return NOT_FOUND;
        Token t = w.tokenAt(office);
        if (i == 0 && t != null && t.speaking) return WRONG_STATE;
        operation();
        Letter gone = w.offices.get(office).queue.remove(i);
        w.back++;
        w.note(9, office, gone.length);
        return w.offices.get(office).queue.size();
    }

    public int shut(int office, int isOpen) {
        if (no(office) || out(isOpen, 0, 1)) return INVALID;
        if (w.offices.get(office).open == (isOpen == 1)) return NOT_FOUND;
        operation();
        return w.setOpen(office, isOpen == 1);
    }

    public int lose(int token) {
        if (out(token, 0, w.tokens.size() - 1)) return INVALID;
        operation();
        Token t = w.tokens.get(token);
        w.loseIt(t);
        return t.number;
    }

    public int stray(int office) {
        if (no(office)) return INVALID;
        if (!w.offices.get(office).open) return WRONG_STATE;
        if (w.tokens.size() == 3) return FULL;
        operation();
        Token t = w.newToken(office);
        w.note(6, t.number, office);
        w.tear();
        return t.number;
    }

    public int minute(int many) {
        if (out(many, 1, 100)) return INVALID;
        if (w.time + many > 9999) return FULL;
        operation();
        int before = w.read;
        for (int i = 0; i < many; i++) w.minute();
        return w.read - before;
    }

    public int set(int office, int what, int value) {
        if (no(office) || out(what, 0, 1) || out(value, 1, what == 0 ? 9 : 99)) return INVALID;
        int former = what == 0 ? w.offices.get(office).way : w.offices.get(office).name;
        if (former == value) return NOT_FOUND;
        for (Office o : w.offices) if (what == 1 && o.name == value) return WRONG_STATE;
        operation();
        if (what == 0) w.offices.get(office).way = value;
        else w.offices.get(office).name = value;
        w.note(10, 10 * office + what, former);
        return former;
    }

    private static boolean noRule(int what, int value) {
        return out(what, 0, 2) || out(value, 1, new int[] {20, 99, 60}[what]);
    }

    private static void setRule(World v, int what, int value) {
        if (what == 0) v.speak = value;
        if (what == 1) v.quiet = value;
        if (what == 2) v.quota = value;
    }

    public int rule(int what, int value) {
        if (noRule(what, value)) return INVALID;
        int former = value(what);
        if (former == value) return NOT_FOUND;
        operation();
        setRule(w, what, value);
        w.note(8, what, former);
        return former;
    }

    public int keep(int slot) {
        if (out(slot, 0, 1)) return INVALID;
        slots[slot] = w.copy();
        return w.time;
    }

    public int restore(int slot) {
        if (out(slot, 0, 1)) return INVALID;
        if (slots[slot] == null) return NOT_FOUND;
        operation();
        w = slots[slot].copy();
        return w.time;
    }

    public int undo() {
        if (past.isEmpty()) return INVALID;
        w = past.remove(past.size() - 1);
        return past.size();
    }

    // ---- what there is

    public int value(int what) {
        int open = 0;
        int sum = 0;
        for (Office o : w.offices) {
            if (o.open) open++;
            for (Letter l : o.queue) sum += l.length;
        }
        int[] all = {w.speak, w.quiet, w.quota, w.time, w.offices.size(), open, w.tokens.size(), w.silence,
            w.letters(), sum, w.came, w.read, w.vain, w.back, w.elections, w.torn, w.lost, w.clashes, w.minutes,
            w.log.size(), past.size()};
        return out(what, 0, 20) ? INVALID : all[what];
    }

    private int lengths(int office) {
        int sum = 0;
        for (Letter l : w.offices.get(office).queue) sum += l.length;
        return sum;
    }

    public int office(int office, int what) {
        if (no(office) || out(what, 0, 8)) return INVALID;
        Office o = w.offices.get(office);
        int to = 0;
        for (Office other : w.offices) for (Letter l : other.queue) if (l.to == office) to++;
        Token t = w.tokenAt(office);
        return new int[] {o.way, o.name, o.open ? 1 : 0, o.spoken, o.queue.size(), lengths(office),
            t == null ? NOT_FOUND : w.tokens.indexOf(t), o.readTo, to}[what];
    }

    public int queue(int office, int i, int what) {
        if (no(office) || i < 0 || out(what, 0, 2)) return INVALID;
        if (i >= w.offices.get(office).queue.size()) return NOT_FOUND;
        Letter l = w.offices.get(office).queue.get(i);
        Token t = w.tokenAt(office);
        if (what == 2 && i == 0 && t != null && t.speaking) return t.left;
        return what == 0 ? l.to : l.length;
    }

    public int token(int token, int what) {
        if (out(token, 0, w.tokens.size() - 1) || out(what, 0, 4)) return INVALID;
        Token t = w.tokens.get(token);
        return new int[] {t.number, t.office, t.onTheWay ? t.togo : 0, t.onTheWay ? 0 : t.turn,
            t.speaking ? t.left : 0}[what];
    }

    public int winner() {
        return w.winner();
    }

    public int round() {
        int sum = 0;
        for (Office o : w.offices) sum += o.way;
        return sum;
    }

    public int busiest() {
        int best = 0;
        for (int o = 0; o < w.offices.size(); o++) if (lengths(o) > lengths(best)) best = o;
        return best;
    }

    // ---- reasons and what would be

    public int why(int office) {
        if (no(office)) return INVALID;
        Office o = w.offices.get(office);
        Token t = w.tokenAt(office);
        if (t != null && t.speaking) return 0;
        if (!o.open) return 1;
        if (t == null) return 2;
        if (o.queue.isEmpty()) return 3;
        if (o.queue.get(0).length > w.speak - t.turn) return 4;
        if (o.queue.get(0).length > w.quota - o.spoken) return 5;
        return 6;
    }

    public int comesIn(int office) {
        if (no(office)) return INVALID;
        World v = w.copy();
        for (int minutes = 0; minutes <= 300; minutes++) {
            if (v.tokenAt(office) != null) return minutes;
            v.minute();
        }
        return NOT_FOUND;
    }

    private static int done(World v) {
        for (int minutes = 0; minutes <= 500; minutes++) {
            if (v.letters() == 0) return minutes;
            v.minute();
        }
        return NOT_FOUND;
    }

    public int doneIn() {
        return done(w.copy());
    }

    private static int passed(World v, int many, int told) {
        int before = told == 3 ? 0 : v.told(told);
        for (int i = 0; i < many; i++) v.minute();
        return v.told(told) - before;
    }

    public int ifPassed(int many, int what) {
        if (out(many, 0, 300) || out(what, 0, 5)) return INVALID;
        return passed(w.copy(), many, what);
    }

    public int ifRule(int what, int value, int many, int told) {
        if (noRule(what, value) || out(many, 0, 300) || out(told, 0, 5)) return INVALID;
        World v = w.copy();
        setRule(v, what, value);
        return passed(v, many, told);
    }

    public int ifShut(int office, int many, int told) {
        if (no(office) || out(many, 0, 300) || out(told, 0, 5)) return INVALID;
        World v = w.copy();
        v.setOpen(office, !v.offices.get(office).open);
        return passed(v, many, told);
    }

    public int bestSpeak(int many) {
        if (out(many, 0, 300)) return INVALID;
        int best = 20;
        for (int speak = 19; speak >= 1; speak--) {
            if (ifRule(0, speak, many, 0) >= ifRule(0, best, many, 0)) best = speak;
        }
        return best;
    }

    public int leastQuota() {
        int due = doneIn();
        if (due == NOT_FOUND) return NOT_FOUND;
        for (int quota = 1; quota <= 60; quota++) {
            World v = w.copy();
            v.quota = quota;
            int done = done(v);
            if (done != NOT_FOUND && done <= due) return quota;
        }
        throw new IllegalStateException();
    }

    // ---- log, rates, texts

    public int log(int i, int what) {
        if (i < 0 || out(what, 0, 2)) return INVALID;
        return i < w.log.size() ? w.log.get(i)[what] : NOT_FOUND;
    }

    public float spoken() {
        return w.time == 0 ? 0 : (float) w.minutes / (float) w.time;
    }

    public double meanLength() {
        return value(8) == 0 ? 0 : (double) value(9) / (double) value(8);
    }

    private String list() {
        StringBuilder text = new StringBuilder();
        for (int o = 0; o < w.offices.size(); o++) {
            Office office = w.offices.get(o);
            text.append(o + ":" + office.name + (office.open ? "" : "x"));
            for (Letter l : office.queue) text.append("/" + l.length + ">" + l.to);
            Token t = w.tokenAt(o);
            text.append(t == null ? "\n" : "@" + t.number + "\n");
        }
        return text.toString();
    }

    private String setup() {
        StringBuilder text = new StringBuilder("speak " + w.speak + " quiet " + w.quiet + " quota " + w.quota + ";");
        for (Office o : w.offices) text.append("office " + o.way + " " + o.name + (o.open ? ";" : " shut;"));
        for (int o = 0; o < w.offices.size(); o++) {
            for (Letter l : w.offices.get(o).queue) text.append("letter " + o + " " + l.to + " " + l.length + ";");
        }
        for (Token t : w.tokens) {
            if (!t.onTheWay) return text.append("token " + t.office + ";").toString();
        }
        return text.toString();
    }

    private static int byteOf(String text, int i) {
        return i < 0 ? INVALID : i < text.length() ? text.charAt(i) : NOT_FOUND;
    }

    public int listLength() {
        return list().length();
    }

    public int listByte(int i) {
        return byteOf(list(), i);
    }

    public int setupLength() {
        return setup().length();
    }

    public int setupByte(int i) {
        return byteOf(setup(), i);
    }
}
