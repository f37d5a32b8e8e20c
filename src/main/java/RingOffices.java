/**
 * A ring of offices in which only the one with the token may speak. What each call promises stands in
 * ../shared/DOC.md; the words of that document (AT, TOGO, SPEAK ..) are used here with its meaning.
 */
public final class RingOffices {
    public static final int INVALID = -1;
    public static final int NOT_FOUND = -2;
    public static final int FULL = -3;
    public static final int WRONG_STATE = -4;

    private static final int MOST_OFFICES = 10;
    private static final int MOST_LETTERS = 6;
    private static final int MOST_TOKENS = 3;
    private static final int MOST_TIME = 9999;
    private static final int MOST_WAY = 9;
    private static final int MOST_NAME = 99;
    private static final int MOST_LENGTH = 9;
    private static final int DAY = 60;

    private static final int LOG_ROOM = 40;
    private static final int UNDO_ROOM = 8;
    private static final int SLOTS = 2;
    private static final int TAPE_ROOM = 1200;
    private static final int APPENDED = 20;
    // The longest setup text has 980 bytes, the longest list some 330.
    private static final int PAGE_ROOM = 1024;

    private static final int SPEAK = 0;
    private static final int QUIET = 1;
    private static final int QUOTA = 2;
    private static final int MOST_SPEAK = 20;
    private static final int MOST_QUIET = 99;
    private static final int MOST_QUOTA = 60;

    // The counts stand in the order in which value() tells them, from its 10 on.
    private static final int CAME = 0;
    private static final int READ = 1;
    private static final int VAIN = 2;
    private static final int TAKEN_BACK = 3;
    private static final int ELECTIONS = 4;
    private static final int TORN_UP = 5;
    private static final int LOST = 6;
    private static final int CLASHES = 7;
    private static final int MINUTES_SPOKEN = 8;
    private static final int COUNTS = 9;

    private static final int LOG_COME = 0;
    private static final int LOG_READ = 1;
    private static final int LOG_VAIN = 2;
    private static final int LOG_TORN_UP = 3;
    private static final int LOG_ELECTION = 4;
    private static final int LOG_LOST = 5;
    private static final int LOG_STRAY = 6;
    private static final int LOG_SHUT = 7;
    private static final int LOG_RULE = 8;
    private static final int LOG_TAKEN_BACK = 9;
    private static final int LOG_SET = 10;

    private static final int MOST_MINUTES = 100;
    private static final int MOST_FORESEEN = 300;
    private static final int MOST_UNTIL_DONE = 500;
    private static final int TOLD_TOKENS = 3;
    private static final int MOST_TOLD = 5;

    private static final int WORD_SPEAK = 0;
    private static final int WORD_QUIET = 1;
    private static final int WORD_QUOTA = 2;
    private static final int WORD_OFFICE = 3;
    private static final int WORD_SHUT = 4;
    private static final int WORD_LETTER = 5;
    private static final int WORD_TOKEN = 6;
    private static final int NUMERAL = 7;
    private static final int SEMICOLON = 8;
    private static final int END = 9;
    private static final int NO_TOKEN = 10;

    private final State now = new State();
    private final History history = new History();
    private final Slots slots = new Slots();
    private final SetupParser parser = new SetupParser();
    private final Text tape = parser.scanner.text;
    // A setup is parsed and read off in one call, so between calls the draft is free for what is only tried.
    private final State scratch = parser.draft;
    private final Text page = new Text(PAGE_ROOM);
    private int errorAt = NOT_FOUND;

    public RingOffices() {
        now.beginAsNew();
    }

    // ---- texts

    public int append(int a, int b, int c, int d, int e) {
        if (tape.length > TAPE_ROOM - APPENDED) return INVALID;
        tape.addFourBytes(a);
        tape.addFourBytes(b);
        tape.addFourBytes(c);
        tape.addFourBytes(d);
        tape.addFourBytes(e);
        return tape.length;
    }

    public int truncate(int n) {
        if (n < 0 || n > tape.length) return INVALID;
        tape.length -= n;
        return tape.length;
    }

    public int load() {
        errorAt = parser.parse();
        tape.length = 0;
        if (errorAt != NOT_FOUND) return INVALID;
        now.copyFrom(parser.draft);
        slots.forget();
        history.forget();
        return now.offices.count;
    }

    public int errorPosition() {
        return errorAt;
    }

    // ---- letters

    public int letter(int office, int to, int length) {
        Offices offices = now.offices;
        if (!offices.has(office) || !offices.has(to) || office == to) return INVALID;
        if (!isWithin(length, 1, MOST_LENGTH)) return INVALID;
        if (at(offices.waiting, office) >= MOST_LETTERS) return FULL;
        history.remember(now);
        offices.addLetter(office, to, length);
        raise(now.counts, CAME);
        now.log.add(LOG_COME, office, length);
        return at(offices.waiting, office);
    }

    public int cancel(int office, int i) {
        Offices offices = now.offices;
        if (!offices.has(office) || i < 0) return INVALID;
        if (i >= at(offices.waiting, office)) return NOT_FOUND;
        if (i == 0 && now.tokens.leftAt(office) > 0) return WRONG_STATE;
        history.remember(now);
        int length = offices.lengthOf(office, i);
        offices.removeLetter(office, i);
        raise(now.counts, TAKEN_BACK);
        now.log.add(LOG_TAKEN_BACK, office, length);
        return at(offices.waiting, office);
    }

    // ---- offices and tokens

    public int shut(int office, int isOpen) {
        if (!now.offices.has(office) || !isWithin(isOpen, 0, 1)) return INVALID;
        if (at(now.offices.open, office) == isOpen) return NOT_FOUND;
        history.remember(now);
        int lostBefore = at(now.counts, LOST);
        now.shutOrOpen(office, isOpen);
        return at(now.counts, LOST) - lostBefore;
    }

    public int lose(int token) {
        if (!now.tokens.has(token)) return INVALID;
        history.remember(now);
        int number = at(now.tokens.number, token);
        now.loseToken(token);
        return number;
    }

    public int stray(int office) {
        if (!now.offices.has(office)) return INVALID;
        if (!now.offices.isOpen(office)) return WRONG_STATE;
        if (now.tokens.count >= MOST_TOKENS) return FULL;
        history.remember(now);
        now.tokens.add(office);
        int number = now.tokens.lastNumber;
        now.log.add(LOG_STRAY, number, office);
        now.tearUpWhereTwoMeet();
        return number;
    }

    public int minute(int many) {
        if (!isWithin(many, 1, MOST_MINUTES)) return INVALID;
        if (now.time > MOST_TIME - many) return FULL;
        history.remember(now);
        int readBefore = at(now.counts, READ);
        for (int passed = 0; passed < many; passed++) now.passMinute();
        return at(now.counts, READ) - readBefore;
    }

    public int set(int office, int what, int value) {
        if (!now.offices.has(office) || !isWithin(what, 0, 1)) return INVALID;
        if (!isWithin(value, 1, what == 0 ? MOST_WAY : MOST_NAME)) return INVALID;
        int[] row = what == 0 ? now.offices.way : now.offices.name;
        int former = at(row, office);
        if (former == value) return NOT_FOUND;
        if (what == 1 && now.offices.isNameTaken(value)) return WRONG_STATE;
        history.remember(now);
        put(row, office, value);
        now.log.add(LOG_SET, 10 * office + what, former);
        return former;
    }

    public int rule(int what, int value) {
        if (!isRule(what, value)) return INVALID;
        int former = at(now.rules, what);
        if (former == value) return NOT_FOUND;
        history.remember(now);
        put(now.rules, what, value);
        now.log.add(LOG_RULE, what, former);
        return former;
    }

    // ---- slots and undo

    public int keep(int slot) {
        if (!isWithin(slot, 0, SLOTS - 1)) return INVALID;
        slots.fill(slot, now);
        return now.time;
    }

    public int restore(int slot) {
        if (!isWithin(slot, 0, SLOTS - 1)) return INVALID;
        State kept = slots.keptIn(slot);
        if (kept == null) return NOT_FOUND;
        history.remember(now);
        now.copyFrom(kept);
        return now.time;
    }

    public int undo() {
        if (history.count == 0) return INVALID;
        history.takeBack(now);
        return history.count;
    }

    // ---- what there is

    public int value(int what) {
        if (isWithin(what, 0, 2)) return at(now.rules, what);
        if (isWithin(what, 10, 18)) return at(now.counts, what - 10);
        switch (what) {
            case 3: return now.time;
            case 4: return now.offices.count;
            case 5: return now.offices.howManyOpen();
            case 6: return now.tokens.count;
            case 7: return now.silence;
            case 8: return now.offices.lettersInAll();
            case 9: return now.offices.lengthInAll();
            case 19: return now.log.count;
            case 20: return history.count;
            default: return INVALID;
        }
    }

    public int office(int office, int what) {
        Offices offices = now.offices;
        if (!offices.has(office)) return INVALID;
        switch (what) {
            case 0: return at(offices.way, office);
            case 1: return at(offices.name, office);
            case 2: return at(offices.open, office);
            case 3: return at(offices.spokenToday, office);
            case 4: return at(offices.waiting, office);
            case 5: return offices.lengthInQueue(office);
            case 6: return now.tokens.standingAt(office);
            case 7: return at(offices.readTo, office);
            case 8: return offices.lettersTo(office);
            default: return INVALID;
        }
    }

    public int queue(int office, int i, int what) {
        Offices offices = now.offices;
        if (!offices.has(office) || i < 0 || !isWithin(what, 0, 2)) return INVALID;
        if (i >= at(offices.waiting, office)) return NOT_FOUND;
        if (what == 0) return offices.toOf(office, i);
        int left = now.tokens.leftAt(office);
        if (what == 2 && i == 0 && left > 0) return left;
        return offices.lengthOf(office, i);
    }

    public int token(int token, int what) {
        Tokens tokens = now.tokens;
        if (!tokens.has(token)) return INVALID;
        switch (what) {
            case 0: return at(tokens.number, token);
            case 1: return at(tokens.place, token);
            case 2: return at(tokens.togo, token);
            case 3: return at(tokens.turn, token);
            case 4: return at(tokens.left, token);
            default: return INVALID;
        }
    }

    public int winner() {
        return now.offices.openWithGreatestName();
    }

    public int round() {
        int sum = 0;
        for (int o = 0; o < now.offices.count; o++) sum += at(now.offices.way, o);
        return sum;
    }

    public int busiest() {
        int best = 0;
        for (int o = 1; o < now.offices.count; o++) {
            if (now.offices.lengthInQueue(o) > now.offices.lengthInQueue(best)) best = o;
        }
        return best;
    }

    // ---- reasons and what would be

    public int why(int office) {
        Offices offices = now.offices;
        if (!offices.has(office)) return INVALID;
        int token = now.tokens.standingAt(office);
        if (at(now.tokens.left, token) > 0) return 0;
        if (!offices.isOpen(office)) return 1;
        if (token == NOT_FOUND) return 2;
        if (at(offices.waiting, office) == 0) return 3;
        if (!now.fitsInTurn(office, token)) return 4;
        if (!now.fitsInDay(office)) return 5;
        return 6;
    }

    public int comesIn(int office) {
        if (!now.offices.has(office)) return INVALID;
        scratch.copyFrom(now);
        for (int passed = 0; passed <= MOST_FORESEEN; passed++) {
            if (scratch.tokens.standingAt(office) != NOT_FOUND) return passed;
            scratch.passMinute();
        }
        return NOT_FOUND;
    }

    public int doneIn() {
        scratch.copyFrom(now);
        return triedUntilDone(MOST_UNTIL_DONE);
    }

    public int ifPassed(int many, int what) {
        if (!isForesight(many, what)) return INVALID;
        scratch.copyFrom(now);
        return triedMinutes(many, what);
    }

    public int ifRule(int what, int value, int many, int told) {
        if (!isRule(what, value) || !isForesight(many, told)) return INVALID;
        scratch.copyFrom(now);
        put(scratch.rules, what, value);
        return triedMinutes(many, told);
    }

    public int ifShut(int office, int many, int told) {
        if (!now.offices.has(office) || !isForesight(many, told)) return INVALID;
        scratch.copyFrom(now);
        scratch.shutOrOpen(office, now.offices.isOpen(office) ? 0 : 1);
        return triedMinutes(many, told);
    }

    public int bestSpeak(int many) {
        if (!isForesight(many, 0)) return INVALID;
        int best = 1;
        int mostRead = -1;
        for (int speak = 1; speak <= MOST_SPEAK; speak++) {
            scratch.copyFrom(now);
            put(scratch.rules, SPEAK, speak);
            int read = triedMinutes(many, 0);
            if (read > mostRead) {
                best = speak;
                mostRead = read;
            }
        }
        return best;
    }

    public int leastQuota() {
        scratch.copyFrom(now);
        int due = triedUntilDone(MOST_UNTIL_DONE);
        if (due == NOT_FOUND) return NOT_FOUND;
        for (int quota = 1; quota <= MOST_QUOTA; quota++) {
            scratch.copyFrom(now);
            put(scratch.rules, QUOTA, quota);
            if (triedUntilDone(due) != NOT_FOUND) return quota;
        }
        return NOT_FOUND;
    }

    // ---- log, rates, texts

    public int log(int i, int what) {
        if (i < 0 || !isWithin(what, 0, 2)) return INVALID;
        if (i >= now.log.count) return NOT_FOUND;
        return now.log.part(i, what);
    }

    public float spoken() {
        if (now.time == 0) return 0;
        return (float) at(now.counts, MINUTES_SPOKEN) / (float) now.time;
    }

    public double meanLength() {
        int letters = now.offices.lettersInAll();
        if (letters == 0) return 0;
        return (double) now.offices.lengthInAll() / (double) letters;
    }

    public int listLength() {
        writeList();
        return page.length;
    }

    public int listByte(int i) {
        if (i < 0) return INVALID;
        writeList();
        return page.byteAt(i);
    }

    public int setupLength() {
        writeSetup();
        return page.length;
    }

    public int setupByte(int i) {
        if (i < 0) return INVALID;
        writeSetup();
        return page.byteAt(i);
    }

    // ---- rows: every look into a row of numbers goes through these, so that none can miss it

    private static int at(int[] row, int i) {
        return i >= 0 && i < row.length ? row[i] : 0;
    }

    private static void put(int[] row, int i, int value) {
        if (i >= 0 && i < row.length) row[i] = value;
    }

    private static void raise(int[] row, int i) {
        if (i >= 0 && i < row.length) row[i]++;
    }

    private static void copyRow(int[] from, int[] to) {
        System.arraycopy(from, 0, to, 0, Math.min(from.length, to.length));
    }

    /** Takes an element out of those that end ahead of an index; the ones behind it move up. */
    private static void takeOut(int[] row, int i, int ahead) {
        if (i < 0 || i >= ahead || ahead > row.length) return;
        System.arraycopy(row, i + 1, row, i, ahead - i - 1);
    }

    // ---- arguments

    private static boolean isWithin(int number, int least, int most) {
        return number >= least && number <= most;
    }

    private static int mostOfRule(int what) {
        switch (what) {
            case SPEAK: return MOST_SPEAK;
            case QUIET: return MOST_QUIET;
            case QUOTA: return MOST_QUOTA;
            default: return 0;
        }
    }

    private static boolean isRule(int what, int value) {
        return isWithin(value, 1, mostOfRule(what));
    }

    private static boolean isForesight(int many, int told) {
        return isWithin(many, 0, MOST_FORESEEN) && isWithin(told, 0, MOST_TOLD);
    }

    // ---- what would be

    private static int countTold(int told) {
        switch (told) {
            case 0: return READ;
            case 1: return VAIN;
            case 2: return MINUTES_SPOKEN;
            case 4: return CLASHES;
            default: return ELECTIONS;
        }
    }

    /** Lets minutes pass in the scratch state; the counts of now are those that it began with. */
    private int triedMinutes(int many, int told) {
        for (int passed = 0; passed < many; passed++) scratch.passMinute();
        if (told == TOLD_TOKENS) return scratch.tokens.count;
        int count = countTold(told);
        return at(scratch.counts, count) - at(now.counts, count);
    }

    private int triedUntilDone(int most) {
        for (int passed = 0; passed <= most; passed++) {
            if (scratch.offices.lettersInAll() == 0) return passed;
            scratch.passMinute();
        }
        return NOT_FOUND;
    }

    // ---- texts that are written

    private void writeList() {
        page.length = 0;
        for (int o = 0; o < now.offices.count; o++) writeListLine(o);
    }

    private void writeListLine(int office) {
        Offices offices = now.offices;
        page.addNumber(office);
        page.add(':');
        page.addNumber(at(offices.name, office));
        if (!offices.isOpen(office)) page.add('x');
        for (int i = 0; i < at(offices.waiting, office); i++) {
            page.add('/');
            page.addNumber(offices.lengthOf(office, i));
            page.add('>');
            page.addNumber(offices.toOf(office, i));
        }
        int token = now.tokens.standingAt(office);
        if (token != NOT_FOUND) {
            page.add('@');
            page.addNumber(at(now.tokens.number, token));
        }
        page.add('\n');
    }

    private void writeSetup() {
        page.length = 0;
        page.addWord("speak ");
        page.addNumber(at(now.rules, SPEAK));
        page.addWord(" quiet ");
        page.addNumber(at(now.rules, QUIET));
        page.addWord(" quota ");
        page.addNumber(at(now.rules, QUOTA));
        page.add(';');
        for (int o = 0; o < now.offices.count; o++) writeSetupOffice(o);
        for (int o = 0; o < now.offices.count; o++) writeSetupLetters(o);
        int token = now.tokens.firstStanding();
        if (token != NOT_FOUND) {
            page.addWord("token ");
            page.addNumber(at(now.tokens.place, token));
            page.add(';');
        }
    }

    private void writeSetupOffice(int office) {
        page.addWord("office ");
        page.addNumber(at(now.offices.way, office));
        page.add(' ');
        page.addNumber(at(now.offices.name, office));
        if (!now.offices.isOpen(office)) page.addWord(" shut");
        page.add(';');
    }

    private void writeSetupLetters(int office) {
        for (int i = 0; i < at(now.offices.waiting, office); i++) {
            page.addWord("letter ");
            page.addNumber(office);
            page.add(' ');
            page.addNumber(now.offices.toOf(office, i));
            page.add(' ');
            page.addNumber(now.offices.lengthOf(office, i));
            page.add(';');
        }
    }

    /** The offices in their ring, and the letters that wait in each. */
    private static final class Offices {
        final int[] way = new int[MOST_OFFICES];
        final int[] name = new int[MOST_OFFICES];
        final int[] open = new int[MOST_OFFICES];
        final int[] spokenToday = new int[MOST_OFFICES];
        final int[] readTo = new int[MOST_OFFICES];
        final int[] waiting = new int[MOST_OFFICES];
        // The queues stand one behind the other, each with room for MOST_LETTERS.
        final int[] letterTo = new int[MOST_OFFICES * MOST_LETTERS];
        final int[] letterLength = new int[MOST_OFFICES * MOST_LETTERS];
        int count;

        void copyFrom(Offices other) {
            copyRow(other.way, way);
            copyRow(other.name, name);
            copyRow(other.open, open);
            copyRow(other.spokenToday, spokenToday);
            copyRow(other.readTo, readTo);
            copyRow(other.waiting, waiting);
            copyRow(other.letterTo, letterTo);
            copyRow(other.letterLength, letterLength);
            count = other.count;
        }

        void add(int itsWay, int itsName, int isOpen) {
            if (count >= MOST_OFFICES) return;
            put(way, count, itsWay);
            put(name, count, itsName);
            put(open, count, isOpen);
            put(spokenToday, count, 0);
            put(readTo, count, 0);
            put(waiting, count, 0);
            count++;
        }

        boolean has(int office) {
            return office >= 0 && office < count;
        }

        boolean isOpen(int office) {
            return at(open, office) == 1;
        }

        int behind(int office) {
            return office + 1 < count ? office + 1 : 0;
        }

        boolean isNameTaken(int wanted) {
            for (int o = 0; o < count; o++) {
                if (at(name, o) == wanted) return true;
            }
            return false;
        }

        int openWithGreatestName() {
            int best = NOT_FOUND;
            for (int o = 0; o < count; o++) {
                if (isOpen(o) && (best == NOT_FOUND || at(name, o) > at(name, best))) best = o;
            }
            return best;
        }

        int howManyOpen() {
            int sum = 0;
            for (int o = 0; o < count; o++) sum += at(open, o);
            return sum;
        }

        void beginDay() {
            for (int o = 0; o < count; o++) put(spokenToday, o, 0);
        }

        int toOf(int office, int i) {
            return at(letterTo, office * MOST_LETTERS + i);
        }

        int lengthOf(int office, int i) {
            return at(letterLength, office * MOST_LETTERS + i);
        }

        void addLetter(int office, int to, int length) {
            int i = at(waiting, office);
            if (i >= MOST_LETTERS) return;
            put(letterTo, office * MOST_LETTERS + i, to);
            put(letterLength, office * MOST_LETTERS + i, length);
            put(waiting, office, i + 1);
        }

        void removeLetter(int office, int i) {
            int first = office * MOST_LETTERS;
            int letters = at(waiting, office);
            takeOut(letterTo, first + i, first + letters);
            takeOut(letterLength, first + i, first + letters);
            put(waiting, office, letters - 1);
        }

        int lengthInQueue(int office) {
            int sum = 0;
            for (int i = 0; i < at(waiting, office); i++) sum += lengthOf(office, i);
            return sum;
        }

        int lengthInAll() {
            int sum = 0;
            for (int o = 0; o < count; o++) sum += lengthInQueue(o);
            return sum;
        }

        int lettersInAll() {
            int sum = 0;
            for (int o = 0; o < count; o++) sum += at(waiting, o);
            return sum;
        }

        int lettersTo(int office) {
            int sum = 0;
            for (int o = 0; o < count; o++) {
                for (int i = 0; i < at(waiting, o); i++) {
                    if (toOf(o, i) == office) sum++;
                }
            }
            return sum;
        }
    }

    /** The tokens by their NUMBERS. One with a togo above 0 is ON THE WAY, any other one is AT its place. */
    private static final class Tokens {
        final int[] number = new int[MOST_TOKENS];
        final int[] place = new int[MOST_TOKENS];
        final int[] togo = new int[MOST_TOKENS];
        final int[] turn = new int[MOST_TOKENS];
        final int[] left = new int[MOST_TOKENS];
        int count;
        int lastNumber;

        void copyFrom(Tokens other) {
            copyRow(other.number, number);
            copyRow(other.place, place);
            copyRow(other.togo, togo);
            copyRow(other.turn, turn);
            copyRow(other.left, left);
            count = other.count;
            lastNumber = other.lastNumber;
        }

        boolean has(int token) {
            return token >= 0 && token < count;
        }

        void add(int office) {
            if (count >= MOST_TOKENS) return;
            lastNumber++;
            put(number, count, lastNumber);
            put(place, count, office);
            put(togo, count, 0);
            put(turn, count, 0);
            put(left, count, 0);
            count++;
        }

        void remove(int token) {
            if (!has(token)) return;
            takeOut(number, token, count);
            takeOut(place, token, count);
            takeOut(togo, token, count);
            takeOut(turn, token, count);
            takeOut(left, token, count);
            count--;
        }

        void setOut(int token, int to, int minutes) {
            put(place, token, to);
            put(togo, token, minutes);
            put(turn, token, 0);
        }

        boolean isAt(int token, int office) {
            return at(togo, token) == 0 && at(place, token) == office;
        }

        int standingAt(int office) {
            for (int t = 0; t < count; t++) {
                if (isAt(t, office)) return t;
            }
            return NOT_FOUND;
        }

        int firstStanding() {
            for (int t = 0; t < count; t++) {
                if (at(togo, t) == 0) return t;
            }
            return NOT_FOUND;
        }

        int leftAt(int office) {
            return at(left, standingAt(office));
        }

        boolean isFollowedThere(int token) {
            if (at(togo, token) > 0) return false;
            for (int t = token + 1; t < count; t++) {
                if (isAt(t, at(place, token))) return true;
            }
            return false;
        }

        int howManySpeak() {
            int sum = 0;
            for (int t = 0; t < count; t++) {
                if (at(left, t) > 0) sum++;
            }
            return sum;
        }
    }

    /** The latest entries; when there is no room any more, the oldest one gives way. */
    private static final class Log {
        final int[] kind = new int[LOG_ROOM];
        final int[] first = new int[LOG_ROOM];
        final int[] second = new int[LOG_ROOM];
        int oldest;
        int count;

        void copyFrom(Log other) {
            copyRow(other.kind, kind);
            copyRow(other.first, first);
            copyRow(other.second, second);
            oldest = other.oldest;
            count = other.count;
        }

        void add(int itsKind, int itsFirst, int itsSecond) {
            int i = (oldest + count) % LOG_ROOM;
            put(kind, i, itsKind);
            put(first, i, itsFirst);
            put(second, i, itsSecond);
            if (count < LOG_ROOM) count++;
            else oldest = (oldest + 1) % LOG_ROOM;
        }

        int part(int i, int what) {
            int[] row = what == 0 ? kind : what == 1 ? first : second;
            return at(row, (oldest + i) % LOG_ROOM);
        }
    }

    /** Everything that operations change. */
    private static final class State {
        final int[] rules = new int[3];
        final int[] counts = new int[COUNTS];
        final Offices offices = new Offices();
        final Tokens tokens = new Tokens();
        final Log log = new Log();
        int time;
        int silence;

        void copyFrom(State other) {
            copyRow(other.rules, rules);
            copyRow(other.counts, counts);
            offices.copyFrom(other.offices);
            tokens.copyFrom(other.tokens);
            log.copyFrom(other.log);
            time = other.time;
            silence = other.silence;
        }

        void beginAsNew() {
            put(rules, SPEAK, 6);
            put(rules, QUIET, 10);
            put(rules, QUOTA, 30);
            offices.add(2, 40, 1);
            offices.add(3, 70, 1);
            offices.add(1, 20, 1);
            tokens.add(0);
        }

        void clear() {
            for (int i = 0; i < COUNTS; i++) put(counts, i, 0);
            offices.count = 0;
            tokens.count = 0;
            tokens.lastNumber = 0;
            log.oldest = 0;
            log.count = 0;
            time = 0;
            silence = 0;
        }

        void shutOrOpen(int office, int isOpen) {
            put(offices.open, office, isOpen);
            log.add(LOG_SHUT, office, isOpen);
            // None stands at an office that is opened, since it was shut.
            int token = tokens.standingAt(office);
            if (token != NOT_FOUND) loseToken(token);
        }

        void loseToken(int token) {
            log.add(LOG_LOST, at(tokens.number, token), at(tokens.place, token));
            raise(counts, LOST);
            tokens.remove(token);
        }

        void tearUpWhereTwoMeet() {
            // By NUMBERS, for the log's sake: so behind a token that goes t is the next one already.
            int t = 0;
            for (int looked = 0; looked < MOST_TOKENS; looked++) {
                if (tokens.isFollowedThere(t)) {
                    log.add(LOG_TORN_UP, at(tokens.number, t), at(tokens.place, t));
                    raise(counts, TORN_UP);
                    tokens.remove(t);
                } else {
                    t++;
                }
            }
        }

        void passMinute() {
            time++;
            if (time % DAY == 0) offices.beginDay();
            for (int t = 0; t < tokens.count; t++) {
                if (at(tokens.togo, t) > 0) comeNearer(t);
                else if (at(tokens.left, t) > 0) readOn(t);
                else beginOrSetOut(t);
            }
            tearUpWhereTwoMeet();
            if (tokens.howManySpeak() >= 2) raise(counts, CLASHES);
            if (tokens.count > 0) silence = 0;
            else stayWithoutToken();
        }

        private void comeNearer(int token) {
            int togo = at(tokens.togo, token) - 1;
            put(tokens.togo, token, togo);
            int office = at(tokens.place, token);
            if (togo == 0 && !offices.isOpen(office)) leave(token, office);
        }

        private void leave(int token, int office) {
            tokens.setOut(token, offices.behind(office), at(offices.way, office));
        }

        private void readOn(int token) {
            int office = at(tokens.place, token);
            int left = at(tokens.left, token) - 1;
            put(tokens.left, token, left);
            raise(tokens.turn, token);
            raise(offices.spokenToday, office);
            raise(counts, MINUTES_SPOKEN);
            if (left == 0) endLetter(office);
        }

        private void endLetter(int office) {
            int to = offices.toOf(office, 0);
            int length = offices.lengthOf(office, 0);
            if (offices.isOpen(to)) {
                raise(counts, READ);
                raise(offices.readTo, to);
                log.add(LOG_READ, 100 * office + to, length);
            } else {
                raise(counts, VAIN);
                log.add(LOG_VAIN, 100 * office + to, length);
            }
            offices.removeLetter(office, 0);
        }

        private void beginOrSetOut(int token) {
            int office = at(tokens.place, token);
            boolean hasLetter = offices.isOpen(office) && at(offices.waiting, office) > 0;
            if (hasLetter && fitsInTurn(office, token) && fitsInDay(office)) {
                put(tokens.left, token, offices.lengthOf(office, 0));
            } else {
                leave(token, office);
            }
        }

        boolean fitsInTurn(int office, int token) {
            return offices.lengthOf(office, 0) <= at(rules, SPEAK) - at(tokens.turn, token);
        }

        boolean fitsInDay(int office) {
            return offices.lengthOf(office, 0) <= at(rules, QUOTA) - at(offices.spokenToday, office);
        }

        private void stayWithoutToken() {
            silence++;
            int office = offices.openWithGreatestName();
            if (silence < at(rules, QUIET) || office == NOT_FOUND) return;
            silence = 0;
            tokens.add(office);
            raise(counts, ELECTIONS);
            log.add(LOG_ELECTION, office, tokens.lastNumber);
        }
    }

    /** What was ahead of each of the latest operations. */
    private static final class History {
        final State[] states = new State[UNDO_ROOM];
        int next;
        int count;

        History() {
            for (int i = 0; i < UNDO_ROOM; i++) states[i] = new State();
        }

        void forget() {
            count = 0;
        }

        void remember(State state) {
            copyTo(state);
            next = (next + 1) % UNDO_ROOM;
            if (count < UNDO_ROOM) count++;
        }

        private void copyTo(State state) {
            if (next < 0 || next >= UNDO_ROOM) return;
            State free = states[next];
            if (free != null) free.copyFrom(state);
        }

        void takeBack(State state) {
            if (count == 0) return;
            next = (next + UNDO_ROOM - 1) % UNDO_ROOM;
            count--;
            if (next < 0 || next >= UNDO_ROOM) return;
            State former = states[next];
            if (former != null) state.copyFrom(former);
        }
    }

    /** The slots, each with a state of its own or empty. */
    private static final class Slots {
        final State[] states = new State[SLOTS];
        final boolean[] isFull = new boolean[SLOTS];

        Slots() {
            for (int i = 0; i < SLOTS; i++) states[i] = new State();
        }

        void forget() {
            for (int i = 0; i < SLOTS; i++) isFull[i] = false;
        }

        void fill(int slot, State state) {
            if (slot < 0 || slot >= SLOTS) return;
            State free = states[slot];
            if (free == null) return;
            free.copyFrom(state);
            isFull[slot] = true;
        }

        State keptIn(int slot) {
            if (slot < 0 || slot >= SLOTS || !isFull[slot]) return null;
            return states[slot];
        }
    }

    /** Bytes in a row that is made once. */
    private static final class Text {
        final byte[] bytes;
        int length;

        Text(int room) {
            bytes = new byte[room > 0 ? room : 0];
        }

        int byteAt(int i) {
            if (i < 0 || i >= length || i >= bytes.length) return NOT_FOUND;
            return bytes[i] & 255;
        }

        boolean isWord(String word, int start, int end) {
            if (start < 0 || end > bytes.length || end - start != word.length()) return false;
            for (int i = 0; i < word.length(); i++) {
                if (bytes[start + i] != word.charAt(i)) return false;
            }
            return true;
        }

        void add(int one) {
            if (length < 0 || length >= bytes.length) return;
            bytes[length] = (byte) one;
            length++;
        }

        void addFourBytes(int four) {
            add(four >>> 24);
            add(four >>> 16);
            add(four >>> 8);
            add(four);
        }

        void addWord(String word) {
            for (int i = 0; i < word.length(); i++) add(word.charAt(i));
        }

        void addNumber(int number) {
            boolean hasBegun = false;
            for (int unit = 1000000000; unit > 0; unit /= 10) {
                int digit = number / unit % 10;
                hasBegun = hasBegun || digit > 0 || unit == 1;
                if (hasBegun) add('0' + digit);
            }
        }
    }

    /** Finds the tokens of a setup text, one after the other. */
    private static final class Scanner {
        final Text text = new Text(TAPE_ROOM);
        int start;
        int end;
        int kind;
        int number;

        void begin() {
            end = 0;
            advance();
        }

        void advance() {
            skipWhiteSpace();
            int first = text.byteAt(start);
            if (start >= text.length) kind = END;
            else if (isDigit(first)) readNumeral();
            else if (isSmallLetter(first)) readWord();
            else readOther(first);
        }

        private void skipWhiteSpace() {
            start = end;
            while (start < text.length && isWhiteSpace(text.byteAt(start))) start++;
            end = start;
        }

        private void readNumeral() {
            number = 0;
            while (end < text.length && isDigit(text.byteAt(end))) {
                // A run of three digits is no INT, whatever its number would be.
                if (end - start < 2) number = number * 10 + text.byteAt(end) - '0';
                end++;
            }
            kind = end - start > 2 ? NO_TOKEN : NUMERAL;
        }

        private void readWord() {
            while (end < text.length && isSmallLetter(text.byteAt(end))) end++;
            kind = NO_TOKEN;
            for (int word = WORD_SPEAK; word <= WORD_TOKEN; word++) {
                if (text.isWord(keyword(word), start, end)) kind = word;
            }
        }

        private void readOther(int one) {
            kind = one == ';' ? SEMICOLON : NO_TOKEN;
            end = start + 1;
        }

        private static boolean isWhiteSpace(int one) {
            return one == ' ' || one == '\n';
        }

        private static boolean isDigit(int one) {
            return one >= '0' && one <= '9';
        }

        private static boolean isSmallLetter(int one) {
            return one >= 'a' && one <= 'z';
        }

        private static String keyword(int word) {
            switch (word) {
                case WORD_SPEAK: return "speak";
                case WORD_QUIET: return "quiet";
                case WORD_QUOTA: return "quota";
                case WORD_OFFICE: return "office";
                case WORD_SHUT: return "shut";
                case WORD_LETTER: return "letter";
                default: return "token";
            }
        }
    }

    /**
     * Parses a setup text into a draft. Each step answers whether the tokens could stand; the first one
     * that could not is where the scanner still is then. A step may look at scanner.number ahead of
     * takeNumber: when no INT stands there, that number is an old one, but takeNumber refuses then anyway.
     */
    private static final class SetupParser {
        final Scanner scanner = new Scanner();
        final State draft = new State();
        int taken;

        /** Answers the error position, or NOT_FOUND when there is none. */
        int parse() {
            draft.clear();
            scanner.begin();
            boolean isGood = parseRule(WORD_SPEAK, SPEAK) && parseRule(WORD_QUIET, QUIET)
                && parseRule(WORD_QUOTA, QUOTA) && take(SEMICOLON)
                && parseOffices() && parseLetters() && parseToken() && scanner.kind == END;
            return isGood ? NOT_FOUND : scanner.start;
        }

        private boolean parseRule(int word, int what) {
            if (!take(word) || !takeNumber(1, mostOfRule(what))) return false;
            put(draft.rules, what, taken);
            return true;
        }

        private boolean parseOffices() {
            for (int i = 0; i < MOST_OFFICES && take(WORD_OFFICE); i++) {
                if (!takeNumber(1, MOST_WAY)) return false;
                int way = taken;
                if (draft.offices.isNameTaken(scanner.number) || !takeNumber(1, MOST_NAME)) return false;
                int name = taken;
                int isOpen = take(WORD_SHUT) ? 0 : 1;
                if (!take(SEMICOLON)) return false;
                draft.offices.add(way, name, isOpen);
            }
            return draft.offices.count >= 2;
        }

        private boolean parseLetters() {
            int last = draft.offices.count - 1;
            // One round more than there is room for, so that the letter too many is refused at its office.
            for (int i = 0; i <= MOST_OFFICES * MOST_LETTERS && take(WORD_LETTER); i++) {
                if (at(draft.offices.waiting, scanner.number) >= MOST_LETTERS) return false;
                if (!takeNumber(0, last)) return false;
                int office = taken;
                if (scanner.number == office || !takeNumber(0, last)) return false;
                int to = taken;
                if (!takeNumber(1, MOST_LENGTH) || !take(SEMICOLON)) return false;
                draft.offices.addLetter(office, to, taken);
                raise(draft.counts, CAME);
            }
            return true;
        }

        private boolean parseToken() {
            if (!take(WORD_TOKEN)) return true;
            if (!draft.offices.isOpen(scanner.number)) return false;
            if (!takeNumber(0, draft.offices.count - 1) || !take(SEMICOLON)) return false;
            draft.tokens.add(taken);
            return true;
        }

        private boolean take(int kind) {
            if (scanner.kind != kind) return false;
            scanner.advance();
            return true;
        }

        private boolean takeNumber(int least, int most) {
            if (scanner.kind != NUMERAL || !isWithin(scanner.number, least, most)) return false;
            taken = scanner.number;
            scanner.advance();
            return true;
        }
    }
}
