/**
 * An office for music exams: texts of rules by terms, entries judged by them, examiners sent round
 * centres with least travel, marks as they were known on any day, and certificates.
 */
public final class ExamTour {
    /** There is none. */
    public static final int NONE = -1;

    private static final int NO_SUCH_TERM = -2;
    private static final int NO_SUCH_GRADE = -2;
    private static final int NO_SUCH_ENTRY = -3;
    private static final int NO_TOUR = -2;
    private static final int NO_HARDNESS = -1000;

    private static final int MOST_BYTES = 1400;
    private static final int MOST_TERMS = 4;
    private static final int MOST_GRADES = 8;
    private static final int MOST_LISTS = 6;
    private static final int MOST_LISTED = 12;
    private static final int MOST_PARTS = 6;
    private static final int MOST_POINTS = 200;
    private static final int MOST_MUSTS = 8;
    private static final int MOST_MINUTES = 120;
    private static final int USUAL_MINUTES = 10;
    private static final int MOST_DEPTH = 8;
    private static final int MOST_LEAVES = 150;
    // A text has at most 150 leaves, so 149 signs between them, 350 nots (of 4 bytes) and 80 e's.
    private static final int MOST_CELLS = 750;

    private static final int MOST_ENTRIES = 40;
    private static final int MOST_CANDIDATE = 99;
    private static final int MOST_INSTRUMENT = 7;
    private static final int LEAST_AGE = 4;
    private static final int MOST_AGE = 99;
    private static final int MOST_PIECES = 4;

    private static final int MOST_CENTRES = 8;
    private static final int MOST_WAY = 600;
    private static final int MOST_EXAMINERS = 5;
    private static final int ALL_INSTRUMENTS = 255;
    private static final int MOST_SESSIONS = 9;
    private static final int MOST_SESSION_DAY = 99;
    private static final int MOST_SESSION_MINUTES = 300;

    private static final int MOST_STEP = 1000;
    private static final int MOST_DAY = 100000;
    private static final int MOST_MARKS = 200;
    private static final int MOST_CERTIFICATES = 60;
    private static final int PASSED = 1;
    private static final int MERITED = 2;
    // A number behind all examiners' numbers, so that it is none of theirs.
    private static final int BOARD = MOST_EXAMINERS;

    private static final int NO_TOKEN = 1;
    private static final int MISPLACED = 2;
    private static final int TOLD_ALREADY = 3;
    private static final int MEANS_NOTHING = 4;
    private static final int CANNOT_BE = 5;

    // Kinds of tokens; a sign's kind is its byte, so these keep away from the signs' bytes.
    private static final int END = 0;
    private static final int BAD = 1;
    private static final int NUMBER = 2;
    private static final int NAME = 3;
    private static final int GRADE = 200;
    private static final int LIST = 201;
    private static final int PART = 202;
    private static final int MINUTES = 203;
    private static final int MUST = 204;
    private static final int PASS = 205;
    private static final int MERIT = 206;
    private static final int OR = 207;
    private static final int AND = 208;
    private static final int NOT = 209;
    private static final int OWN = 210;
    private static final int PIECES = 211;
    private static final int AGE = 212;
    private static final int TOTAL = 213;
    private static final int LEAST = 214;

    // The words that are no names, in the order of their kinds from GRADE on.
    private static final long[] KEPT_WORDS = {
        0x6772616465L, // grade
        0x6c697374L, // list
        0x70617274L, // part
        0x6d696e75746573L, // minutes
        0x6d757374L, // must
        0x70617373L, // pass
        0x6d65726974L, // merit
        0x6f72L, // or
        0x616e64L, // and
        0x6e6f74L, // not
        0x6f776eL, // own
        0x706965636573L, // pieces
        0x616765L, // age
        0x746f74616cL, // total
        0x6c65617374L, // least
    };

    private final Parser parser = new Parser();
    private final Syllabus[] texts = new Syllabus[MOST_TERMS];
    private final Judge bench = new Judge();
    private final Entries entries = new Entries();
    private final Circuit circuit = new Circuit();
    private final Planner planner = new Planner();
    private final Ledger ledger = new Ledger();
    private final Certificates certificates = new Certificates();

    public ExamTour() {
    }

    public int feed(int a, int b, int c, int d, int e) {
        Tokens tape = parser.tape;
        if (tape.length + 20 > MOST_BYTES) {
            return NONE;
        }
        tape.append(a);
        tape.append(b);
        tape.append(c);
        tape.append(d);
        tape.append(e);
        return tape.length;
    }

    public int end(int n) {
        if (n < 0 || n > parser.tape.length) {
            return NONE;
        }
        parser.tape.length = n;
        return n;
    }

    public int syllabus(int term) {
        if (!isTerm(term)) {
            return NO_SUCH_TERM;
        }
        parser.read();
        parser.tape.length = 0;
        if (parser.fault != 0) {
            return NONE;
        }
        texts[term] = parser.exchange(texts[term]);
        return gradesOf(term);
    }

    public int fault(int what) {
        if (what == 0) {
            return parser.fault;
        }
        return what == 1 ? parser.place : NONE;
    }

    public int grade(int term, int grade, int what) {
        Grade found = findGrade(term, grade);
        if (found == null) {
            return NONE;
        }
        if (what >= 10 && what < 10 + found.parts) {
            return found.most[what - 10];
        }
        switch (what) {
            case 0:
                return found.lists;
            case 1:
                return found.parts;
            case 2:
                return found.musts;
            case 3:
                return found.minutesOrUsual();
            default:
                return NONE;
        }
    }

    public int entry(int candidate, int term, int grade, int instrument, int age, int teacher) {
        boolean can = isWithin(candidate, 0, MOST_CANDIDATE) && isTerm(term)
            && isWithin(grade, 1, MOST_GRADES) && isWithin(instrument, 0, MOST_INSTRUMENT)
            && isWithin(age, LEAST_AGE, MOST_AGE)
            && (teacher == NONE || circuit.hasExaminer(teacher));
        return can ? entries.add(candidate, term, grade, instrument, age, teacher) : NONE;
    }

    public int piece(int entry, long name) {
        return entries.has(entry) && Tokens.isWord(name) ? entries.addPiece(entry, name) : NONE;
    }

    public int judge(int entry) {
        return entries.has(entry) ? firstUnmet(entry) : NO_SUCH_ENTRY;
    }

    public int centre() {
        return circuit.addCentre();
    }

    public boolean way(int a, int b, int minutes) {
        boolean can = circuit.hasCentre(a) && circuit.hasCentre(b) && a != b
            && isWithin(minutes, 0, MOST_WAY);
        if (can) {
            circuit.setWay(a, b, minutes);
        }
        return can;
    }

    public int examiner(int home, int instruments) {
        boolean can = circuit.hasCentre(home) && isWithin(instruments, 0, ALL_INSTRUMENTS);
        return can ? circuit.addExaminer(home, instruments) : NONE;
    }

    public int session(int centre, int day) {
        boolean can = circuit.hasCentre(centre) && isWithin(day, 0, MOST_SESSION_DAY);
        return can ? circuit.addSession(centre, day) : NONE;
    }

    public boolean put(int entry, int session) {
        if (!entries.has(entry) || session != NONE && !circuit.hasSession(session)) {
            return false;
        }
        if (session != NONE && minutesWith(session, entry) > MOST_SESSION_MINUTES) {
            return false;
        }
        entries.sessions[entry] = session;
        return true;
    }

    public int of(int session, int what) {
        if (!circuit.hasSession(session)) {
            return NONE;
        }
        switch (what) {
            case 0:
                return circuit.places[session];
            case 1:
                return circuit.days[session];
            case 2:
                return entries.countIn(session);
            case 3:
                return minutesWith(session, NONE);
            default:
                return NONE;
        }
    }

    public int may(int examiner, int session) {
        if (!circuit.hasExaminer(examiner) || !circuit.hasSession(session)) {
            return NONE;
        }
        return mayTake(examiner, session) ? 1 : 0;
    }

    public int tour() {
        for (int session = 0; session < circuit.sessions; session++) {
            for (int examiner = 0; examiner < circuit.examiners; examiner++) {
                planner.allow(examiner, session, mayTake(examiner, session));
            }
        }
        return planner.plan(circuit);
    }

    public int toured(int session) {
        return circuit.hasSession(session) ? planner.chosen[session] : NONE;
    }

    public int stuck() {
        for (int session = 0; session < circuit.sessions; session++) {
            if (!canBeTaken(session)) {
                return session;
            }
        }
        return NONE;
    }

    public int later(int days) {
        if (!isWithin(days, 0, MOST_STEP) || ledger.day + days > MOST_DAY) {
            return NONE;
        }
        ledger.day += days;
        return ledger.day;
    }

    public int mark(int entry, int examiner, int part, int marks) {
        boolean can = circuit.hasExaminer(examiner) && canBeMarked(entry, part, marks);
        return can ? ledger.tell(examiner, entry, part, marks) : NONE;
    }

    public int appeal(int entry, int part, int marks) {
        boolean can = canBeMarked(entry, part, marks)
            && ledger.knownPoints(entry, part, ledger.day) != NONE;
        return can ? ledger.tell(BOARD, entry, part, marks) : NONE;
    }

    public boolean untell(int mark) {
        return ledger.takeBack(mark);
    }

    public int known(int entry, int part, int day) {
        return ledger.knownPoints(entry, part, day);
    }

    public int main(int entry, int day) {
        return ledger.mainOf(entry, day);
    }

    public int result(int entry, int day) {
        return entries.has(entry) ? resultOf(entry, day) : NONE;
    }

    public int hardness(int examiner) {
        if (!circuit.hasExaminer(examiner)) {
            return NO_HARDNESS;
        }
        return ledger.hardnessOf(examiner, circuit.examiners);
    }

    public int certify(int entry) {
        if (!entries.has(entry)) {
            return NONE;
        }
        int now = resultOf(entry, ledger.day);
        if (now < PASSED || certificates.anyUpTo(entry, now)) {
            return NONE;
        }
        return certificates.give(entry, ledger.day, now);
    }

    public int certificate(int number, int what) {
        if (!certificates.has(number)) {
            return NONE;
        }
        switch (what) {
            case 0:
                return certificates.entries[number - 1];
            case 1:
                return certificates.days[number - 1];
            case 2:
                return certificates.results[number - 1];
            default:
                return NONE;
        }
    }

    public int holds(int number, int day) {
        if (!certificates.has(number)) {
            return NONE;
        }
        boolean given = day >= certificates.days[number - 1];
        int least = certificates.results[number - 1];
        return given && resultOf(certificates.entries[number - 1], day) >= least ? 1 : 0;
    }

    public int about(int what) {
        switch (what) {
            case 0:
                return ledger.day;
            case 1:
                return entries.count;
            case 2:
                return circuit.centres;
            case 3:
                return circuit.examiners;
            case 4:
                return circuit.sessions;
            case 5:
                return ledger.count;
            case 6:
                return certificates.count;
            case 7:
                return parser.tape.length;
            default:
                return isWithin(what, 10, 9 + MOST_TERMS) ? gradesOf(what - 10) : NONE;
        }
    }

    private static boolean isWithin(int n, int least, int most) {
        return n >= least && n <= most;
    }

    private static boolean isTerm(int term) {
        return term >= 0 && term < MOST_TERMS;
    }

    private int gradesOf(int term) {
        Syllabus text = isTerm(term) ? texts[term] : null;
        return text == null ? 0 : text.told;
    }

    private Grade findGrade(int term, int number) {
        Syllabus text = isTerm(term) ? texts[term] : null;
        return text == null ? null : text.find(number);
    }

    private Grade gradeOf(int entry) {
        return findGrade(entries.terms[entry], entries.grades[entry]);
    }

    private int firstUnmet(int entry) {
        Syllabus text = texts[entries.terms[entry]];
        Grade grade = gradeOf(entry);
        if (text == null || grade == null) {
            return NO_SUCH_GRADE;
        }
        for (int must = 0; must < grade.musts; must++) {
            if (bench.work(text, grade, entries, entry, grade.mustStarts[must]) == 0) {
                return must;
            }
        }
        return NONE;
    }

    private int resultOf(int entry, int day) {
        Syllabus text = texts[entries.terms[entry]];
        Grade grade = gradeOf(entry);
        if (text == null || grade == null || firstUnmet(entry) != NONE) {
            return NONE;
        }
        for (int part = 0; part < grade.parts; part++) {
            int points = ledger.knownPoints(entry, part, day);
            if (points == NONE) {
                return NONE;
            }
            bench.points[part] = points;
        }
        if (grade.passStart != NONE
            && bench.work(text, grade, entries, entry, grade.passStart) == 0) {
            return 0;
        }
        boolean merited = grade.meritStart != NONE
            && bench.work(text, grade, entries, entry, grade.meritStart) != 0;
        return merited ? MERITED : PASSED;
    }

    private boolean canBeMarked(int entry, int part, int points) {
        Grade grade = entries.has(entry) ? gradeOf(entry) : null;
        return grade != null && part >= 0 && part < grade.parts
            && isWithin(points, 0, grade.most[part]);
    }

    private int minutesOf(int entry) {
        Grade grade = gradeOf(entry);
        return grade == null ? USUAL_MINUTES : grade.minutesOrUsual();
    }

    /** The minutes of a session's entries as if one more (or NONE) were there. */
    private int minutesWith(int session, int more) {
        int sum = 0;
        for (int entry = 0; entry < entries.count; entry++) {
            if (entries.sessions[entry] == session || entry == more) {
                sum += minutesOf(entry);
            }
        }
        return sum;
    }

    private boolean canBeTaken(int session) {
        for (int examiner = 0; examiner < circuit.examiners; examiner++) {
            if (mayTake(examiner, session)) {
                return true;
            }
        }
        return false;
    }

    private boolean mayTake(int examiner, int session) {
        for (int entry = 0; entry < entries.count; entry++) {
            if (entries.sessions[entry] == session && !mayHear(examiner, entry)) {
                return false;
            }
        }
        return true;
    }

    private boolean mayHear(int examiner, int entry) {
        return circuit.plays(examiner, entries.instruments[entry])
            && entries.teachers[entry] != examiner && !heardElsewhere(examiner, entry);
    }

    private boolean heardElsewhere(int examiner, int entry) {
        for (int mark = 0; mark < ledger.count; mark++) {
            int marked = ledger.entries[mark];
            if (ledger.tellers[mark] == examiner && ledger.stands(mark) && marked != entry
                && entries.candidates[marked] == entries.candidates[entry]) {
                return true;
            }
        }
        return false;
    }

    /** The tape and its tokens, one at a time. */
    private static final class Tokens {
        private final byte[] bytes = new byte[MOST_BYTES];
        int length;
        int kind;
        int place;
        int number;
        long word;
        private int at;

        void append(int four) {
            for (int shift = 24; shift >= 0 && length < MOST_BYTES; shift -= 8) {
                bytes[length] = (byte) (four >> shift);
                length++;
            }
        }

        void rewind() {
            at = 0;
            next();
        }

        void next() {
            while (at < length && isBlank(byteAt(at))) {
                at++;
            }
            place = at;
            int first = byteAt(at);
            if (first == NONE) {
                kind = END;
            } else if (isLetter(first)) {
                readWord();
            } else if (isDigit(first)) {
                readNumber();
            } else {
                kind = isSign(first) ? first : BAD;
                at++;
            }
        }

        private void readWord() {
            word = 0;
            while (at < length && isLetterOrDigit(byteAt(at))) {
                word = word << 8 | byteAt(at);
                at++;
            }
            kind = at - place > 8 ? BAD : kindOf(word);
        }

        private void readNumber() {
            number = 0;
            while (at < length && isDigit(byteAt(at))) {
                number = number * 10 + byteAt(at) - '0';
                at++;
            }
            kind = at - place > 6 || isLetter(byteAt(at)) ? BAD : NUMBER;
        }

        private int byteAt(int i) {
            return i >= 0 && i < length && i < MOST_BYTES ? bytes[i] & 255 : NONE;
        }

        private static int kindOf(long word) {
            for (int i = 0; i < KEPT_WORDS.length; i++) {
                if (KEPT_WORDS[i] == word) {
                    return GRADE + i;
                }
            }
            return NAME;
        }

        /** Whether the bytes of a long, the 0s ahead left out, are a word. */
        static boolean isWord(long name) {
            boolean begun = false;
            for (int shift = 56; shift >= 0; shift -= 8) {
                int c = (int) (name >>> shift) & 255;
                if (begun ? !isLetterOrDigit(c) : c != 0 && !isLetter(c)) {
                    return false;
                }
                begun = begun || c != 0;
            }
            return begun;
        }

        private static boolean isBlank(int c) {
            return c == 32 || c == 10;
        }

        private static boolean isLetter(int c) {
            return c >= 'a' && c <= 'z';
        }

        private static boolean isDigit(int c) {
            return c >= '0' && c <= '9';
        }

        private static boolean isLetterOrDigit(int c) {
            return c >= 'a' && c <= 'z' || c >= '0' && c <= '9';
        }

        private static boolean isSign(int c) {
            return c == '{' || c == '}' || c == '(' || c == ')' || c == '=' || c == ','
                || c == ';' || c == '<' || c == '>' || c == '+' || c == '-';
        }
    }

    /** A term's text as it was understood: its grades, and the cells of their e's. */
    private static final class Syllabus {
        final Grade[] grades = new Grade[MOST_GRADES];
        final int[] cells = new int[MOST_CELLS];
        int told;
        int used;

        Syllabus() {
            for (int i = 0; i < MOST_GRADES; i++) {
                grades[i] = new Grade();
            }
        }

        void clear() {
            told = 0;
            used = 0;
            for (int i = 0; i < MOST_GRADES; i++) {
                grades[i].clear();
            }
        }

        Grade open(int number) {
            if (number < 1 || number > MOST_GRADES) {
                return null;
            }
            grades[number - 1].told = true;
            told++;
            return grades[number - 1];
        }

        Grade find(int number) {
            boolean can = number >= 1 && number <= MOST_GRADES && grades[number - 1].told;
            return can ? grades[number - 1] : null;
        }

        /** An e's cell bears the kind of its token above the lowest 20 bits, which hold 999,999. */
        void addCell(int kind, int value) {
            if (used < MOST_CELLS) {
                cells[used] = kind << 20 | value;
                used++;
            }
        }
    }

    /** A grade of a text; an e is told by where its cells start. */
    private static final class Grade {
        boolean told;
        int lists;
        int parts;
        int musts;
        int minutes;
        int passStart;
        int meritStart;
        final long[] listNames = new long[MOST_LISTS];
        final int[] listSizes = new int[MOST_LISTS];
        final long[] listed = new long[MOST_LISTS * MOST_LISTED];
        final long[] partNames = new long[MOST_PARTS];
        final int[] most = new int[MOST_PARTS];
        final int[] mustStarts = new int[MOST_MUSTS];

        void clear() {
            told = false;
            lists = 0;
            parts = 0;
            musts = 0;
            minutes = 0;
            passStart = NONE;
            meritStart = NONE;
        }

        int minutesOrUsual() {
            return minutes == 0 ? USUAL_MINUTES : minutes;
        }

        int findList(long name) {
            return find(listNames, lists, name);
        }

        int findPart(long name) {
            return find(partNames, parts, name);
        }

        void addList(long name) {
            if (lists < MOST_LISTS) {
                listNames[lists] = name;
                listSizes[lists] = 0;
                lists++;
            }
        }

        /** To the list that was told last. */
        void addListed(long name) {
            int list = lists - 1;
            if (list >= 0 && listSizes[list] < MOST_LISTED) {
                listed[list * MOST_LISTED + listSizes[list]] = name;
                listSizes[list]++;
            }
        }

        boolean isLastListFull() {
            return lists > 0 && listSizes[lists - 1] >= MOST_LISTED;
        }

        void addPart(long name, int points) {
            if (parts < MOST_PARTS) {
                partNames[parts] = name;
                most[parts] = points;
                parts++;
            }
        }

        /** A must, pass or merit, by the kind of its word. */
        void addRule(int kind, int start) {
            if (kind == PASS) {
                passStart = start;
            } else if (kind == MERIT) {
                meritStart = start;
            } else if (musts < MOST_MUSTS) {
                mustStarts[musts] = start;
                musts++;
            }
        }

        boolean isListed(int list, long name) {
            if (list < 0 || list >= lists) {
                return false;
            }
            for (int i = 0; i < listSizes[list]; i++) {
                if (listed[list * MOST_LISTED + i] == name) {
                    return true;
                }
            }
            return false;
        }

        boolean isListedAnywhere(long name) {
            for (int list = 0; list < lists; list++) {
                for (int i = 0; i < listSizes[list]; i++) {
                    if (listed[list * MOST_LISTED + i] == name) {
                        return true;
                    }
                }
            }
            return false;
        }

        private static int find(long[] names, int count, long name) {
            for (int i = 0; i < count && i < names.length; i++) {
                if (names[i] == name) {
                    return i;
                }
            }
            return NONE;
        }
    }

    /** Reads the tape up to its first fault, behind which nothing is read any more. */
    private static final class Parser {
        final Tokens tape = new Tokens();
        int fault;
        int place = NONE;
        // Not a term's text yet, so that a fault leaves the term's own as it was.
        private Syllabus text = new Syllabus();
        private boolean inMust;
        private int leaves;

        void read() {
            fault = 0;
            place = NONE;
            leaves = 0;
            text.clear();
            tape.rewind();
            Grade grade = null;
            for (int i = 0; i < MOST_BYTES && fault == 0 && tape.kind != END; i++) {
                if (grade == null) {
                    grade = openGrade();
                } else if (tape.kind == '}') {
                    grade = null;
                    tape.next();
                } else {
                    readItem(grade);
                }
            }
            if (grade != null) {
                refuse();
            }
        }

        /** Gives the text that was read, and keeps the old one (or null) to read the next into. */
        Syllabus exchange(Syllabus old) {
            Syllabus read = text;
            text = old == null ? new Syllabus() : old;
            return read;
        }

        private Grade openGrade() {
            take(GRADE);
            int where = tape.place;
            int number = takeNumber(1, MOST_GRADES);
            if (text.find(number) != null) {
                fail(TOLD_ALREADY, where);
            }
            take('{');
            return fault == 0 ? text.open(number) : null;
        }

        private void readItem(Grade grade) {
            if (cannotStartItem(grade)) {
                refuse();
                return;
            }
            int kind = tape.kind;
            tape.next();
            switch (kind) {
                case LIST:
                    readList(grade);
                    break;
                case PART:
                    readPart(grade);
                    break;
                case MINUTES:
                    grade.minutes = takeNumber(1, MOST_MINUTES);
                    break;
                default:
                    grade.addRule(kind, text.used);
                    inMust = kind == MUST;
                    readE(grade, 0);
                    text.addCell(';', 0);
            }
            take(';');
        }

        /** Whether the token is no item's word, or its sort is used up in this grade. */
        private boolean cannotStartItem(Grade grade) {
            switch (tape.kind) {
                case LIST:
                    return grade.lists >= MOST_LISTS;
                case PART:
                    return grade.parts >= MOST_PARTS;
                case MINUTES:
                    return grade.minutes != 0;
                case MUST:
                    return grade.musts >= MOST_MUSTS;
                case PASS:
                    return grade.passStart != NONE;
                case MERIT:
                    return grade.meritStart != NONE;
                default:
                    return true;
            }
        }

        private void readList(Grade grade) {
            long name = takeNewName(grade);
            take('=');
            if (fault != 0) {
                return;
            }
            grade.addList(name);
            takeListed(grade);
            for (int i = 0; i < MOST_BYTES && fault == 0 && tape.kind == ','; i++) {
                tape.next();
                takeListed(grade);
            }
        }

        private void readPart(Grade grade) {
            long name = takeNewName(grade);
            int points = takeNumber(1, MOST_POINTS);
            if (fault == 0) {
                grade.addPart(name, points);
            }
        }

        private void readE(Grade grade, int depth) {
            readBoth(grade, depth);
            for (int i = 0; i < MOST_BYTES && fault == 0 && tape.kind == OR; i++) {
                tape.next();
                readBoth(grade, depth);
                text.addCell(OR, 0);
            }
        }

        private void readBoth(Grade grade, int depth) {
            readOne(grade, depth);
            for (int i = 0; i < MOST_BYTES && fault == 0 && tape.kind == AND; i++) {
                tape.next();
                readOne(grade, depth);
                text.addCell(AND, 0);
            }
        }

        /** Each e and each not comes by here, so this one look keeps all from going too deep. */
        private void readOne(Grade grade, int depth) {
            if (depth >= MOST_DEPTH) {
                refuse();
            } else if (tape.kind == NOT) {
                tape.next();
                readOne(grade, depth + 1);
                text.addCell(NOT, 0);
            } else {
                readCompared(grade, depth);
            }
        }

        private void readCompared(Grade grade, int depth) {
            readSum(grade, depth);
            int sign = tape.kind;
            if (fault == 0 && (sign == '<' || sign == '>' || sign == '=')) {
                tape.next();
                readSum(grade, depth);
                text.addCell(sign, 0);
            }
        }

        private void readSum(Grade grade, int depth) {
            readLeaf(grade, depth);
            for (int i = 0; i < MOST_BYTES && fault == 0; i++) {
                int sign = tape.kind;
                if (sign != '+' && sign != '-') {
                    return;
                }
                tape.next();
                readLeaf(grade, depth);
                text.addCell(sign, 0);
            }
        }

        private void readLeaf(Grade grade, int depth) {
            if (tape.kind == '(') {
                tape.next();
                readE(grade, depth + 1);
                take(')');
            } else if (!isLeaf(tape.kind) || leaves >= MOST_LEAVES) {
                refuse();
            } else {
                leaves++;
                addMeaning(grade);
                tape.next();
            }
        }

        private static boolean isLeaf(int kind) {
            return kind == NUMBER || kind == NAME || kind >= OWN && kind <= LEAST;
        }

        private void addMeaning(Grade grade) {
            int kind = tape.kind;
            if (kind == NUMBER) {
                text.addCell(NUMBER, tape.number);
            } else if (kind == NAME) {
                addNamed(inMust ? LIST : PART,
                    inMust ? grade.findList(tape.word) : grade.findPart(tape.word));
            } else if (inMust == (kind == OWN || kind == PIECES || kind == AGE)) {
                text.addCell(kind, 0);
            } else {
                fail(MEANS_NOTHING, tape.place);
            }
        }

        private void addNamed(int kind, int found) {
            if (found == NONE) {
                fail(MEANS_NOTHING, tape.place);
            } else {
                text.addCell(kind, found);
            }
        }

        private void take(int kind) {
            if (fault != 0) {
                return;
            }
            if (tape.kind == kind) {
                tape.next();
            } else {
                refuse();
            }
        }

        private int takeNumber(int least, int most) {
            int number = tape.number;
            if (tape.kind != NUMBER) {
                refuse();
            } else if (number < least || number > most) {
                fail(CANNOT_BE, tape.place);
            }
            tape.next();
            return fault == 0 ? number : 0;
        }

        private long takeNewName(Grade grade) {
            long name = tape.word;
            if (tape.kind != NAME) {
                refuse();
            } else if (grade.findList(name) != NONE || grade.findPart(name) != NONE) {
                fail(TOLD_ALREADY, tape.place);
            }
            tape.next();
            return name;
        }

        private void takeListed(Grade grade) {
            if (tape.kind != NAME || grade.isLastListFull()) {
                refuse();
            } else if (grade.isListed(grade.lists - 1, tape.word)) {
                fail(TOLD_ALREADY, tape.place);
            } else {
                grade.addListed(tape.word);
            }
            tape.next();
        }

        /** The token can't stand here; or there is none at all, which is the lesser fault. */
        private void refuse() {
            fail(tape.kind == BAD ? NO_TOKEN : MISPLACED, tape.place);
        }

        /** Only the first fault counts: what is met behind it may come from it. */
        private void fail(int what, int where) {
            if (fault == 0) {
                fault = what;
                place = where;
            }
        }
    }

    /** Works e's for an entry, and for the points of its parts where the e asks for them. */
    private static final class Judge {
        final int[] points = new int[MOST_PARTS];
        private final int[] stack = new int[MOST_LEAVES];
        private int height;

        int work(Syllabus text, Grade grade, Entries entries, int entry, int start) {
            height = 0;
            for (int i = Math.max(start, 0); i < text.used; i++) {
                int kind = text.cells[i] >> 20;
                int value = text.cells[i] & 0xFFFFF;
                if (kind == ';') {
                    break;
                } else if (kind == NUMBER || kind == PART || kind >= TOTAL) {
                    push(markLeaf(kind, value, grade));
                } else if (kind == LIST || kind >= OWN) {
                    push(pieceLeaf(kind, value, grade, entries, entry));
                } else if (kind == NOT) {
                    push(pop() == 0 ? 1 : 0);
                } else {
                    int right = pop();
                    push(join(kind, pop(), right));
                }
            }
            return pop();
        }

        private int markLeaf(int kind, int value, Grade grade) {
            switch (kind) {
                case PART:
                    return value < MOST_PARTS ? points[value] : 0;
                case TOTAL:
                    return total(grade.parts);
                case LEAST:
                    return least(grade.parts);
                default:
                    return value;
            }
        }

        private int pieceLeaf(int kind, int value, Grade grade, Entries entries, int entry) {
            switch (kind) {
                case LIST:
                    return entries.countListed(entry, grade, value);
                case OWN:
                    return entries.countOwn(entry, grade);
                case PIECES:
                    return entries.pieceCounts[entry];
                default:
                    return entries.ages[entry];
            }
        }

        private int total(int parts) {
            int sum = 0;
            for (int part = 0; part < parts && part < MOST_PARTS; part++) {
                sum += points[part];
            }
            return sum;
        }

        private int least(int parts) {
            int least = parts > 0 ? points[0] : 0;
            for (int part = 1; part < parts && part < MOST_PARTS; part++) {
                least = Math.min(least, points[part]);
            }
            return least;
        }

        private static int join(int kind, int left, int right) {
            switch (kind) {
                case '+':
                    return left + right;
                case '-':
                    return left - right;
                case '<':
                    return left < right ? 1 : 0;
                case '>':
                    return left > right ? 1 : 0;
                case '=':
                    return left == right ? 1 : 0;
                case AND:
                    return left != 0 && right != 0 ? 1 : 0;
                default:
                    return left != 0 || right != 0 ? 1 : 0;
            }
        }

        private void push(int value) {
            if (height < MOST_LEAVES) {
                stack[height] = value;
                height++;
            }
        }

        private int pop() {
            if (height <= 0) {
                return 0;
            }
            height--;
            return stack[height];
        }
    }

    /** The entries, a row each. */
    private static final class Entries {
        int count;
        final int[] candidates = new int[MOST_ENTRIES];
        final int[] terms = new int[MOST_ENTRIES];
        final int[] grades = new int[MOST_ENTRIES];
        final int[] instruments = new int[MOST_ENTRIES];
        final int[] ages = new int[MOST_ENTRIES];
        final int[] teachers = new int[MOST_ENTRIES];
        final int[] sessions = new int[MOST_ENTRIES];
        final int[] pieceCounts = new int[MOST_ENTRIES];
        private final long[] pieces = new long[MOST_ENTRIES * MOST_PIECES];

        boolean has(int entry) {
            return entry >= 0 && entry < count;
        }

        int add(int candidate, int term, int grade, int instrument, int age, int teacher) {
            if (count >= MOST_ENTRIES) {
                return NONE;
            }
            candidates[count] = candidate;
            terms[count] = term;
            grades[count] = grade;
            instruments[count] = instrument;
            ages[count] = age;
            teachers[count] = teacher;
            sessions[count] = NONE;
            count++;
            return count - 1;
        }

        int addPiece(int entry, long name) {
            int had = pieceCounts[entry];
            if (had >= MOST_PIECES) {
                return NONE;
            }
            for (int i = 0; i < had; i++) {
                if (pieces[entry * MOST_PIECES + i] == name) {
                    return NONE;
                }
            }
            pieces[entry * MOST_PIECES + had] = name;
            pieceCounts[entry] = had + 1;
            return had + 1;
        }

        int countListed(int entry, Grade grade, int list) {
            int sum = 0;
            for (int i = 0; i < pieceCounts[entry]; i++) {
                sum += grade.isListed(list, pieces[entry * MOST_PIECES + i]) ? 1 : 0;
            }
            return sum;
        }

        int countOwn(int entry, Grade grade) {
            int sum = 0;
            for (int i = 0; i < pieceCounts[entry]; i++) {
                sum += grade.isListedAnywhere(pieces[entry * MOST_PIECES + i]) ? 0 : 1;
            }
            return sum;
        }

        int countIn(int session) {
            int sum = 0;
            for (int entry = 0; entry < count; entry++) {
                sum += sessions[entry] == session ? 1 : 0;
            }
            return sum;
        }
    }

    /** Centres with their ways, examiners and sessions. */
    private static final class Circuit {
        int centres;
        int examiners;
        int sessions;
        final int[] homes = new int[MOST_EXAMINERS];
        final int[] instruments = new int[MOST_EXAMINERS];
        final int[] places = new int[MOST_SESSIONS];
        final int[] days = new int[MOST_SESSIONS];
        private final int[] ways = new int[MOST_CENTRES * MOST_CENTRES];

        boolean hasCentre(int centre) {
            return centre >= 0 && centre < centres;
        }

        boolean hasExaminer(int examiner) {
            return examiner >= 0 && examiner < examiners;
        }

        boolean hasSession(int session) {
            return session >= 0 && session < sessions;
        }

        int addCentre() {
            if (centres >= MOST_CENTRES) {
                return NONE;
            }
            centres++;
            return centres - 1;
        }

        int addExaminer(int home, int played) {
            if (examiners >= MOST_EXAMINERS) {
                return NONE;
            }
            homes[examiners] = home;
            instruments[examiners] = played;
            examiners++;
            return examiners - 1;
        }

        int addSession(int centre, int day) {
            if (sessions >= MOST_SESSIONS) {
                return NONE;
            }
            places[sessions] = centre;
            days[sessions] = day;
            sessions++;
            return sessions - 1;
        }

        void setWay(int a, int b, int minutes) {
            ways[a * MOST_CENTRES + b] = minutes;
            ways[b * MOST_CENTRES + a] = minutes;
        }

        int minutesBetween(int a, int b) {
            return ways[a * MOST_CENTRES + b];
        }

        boolean plays(int examiner, int instrument) {
            return (instruments[examiner] >> instrument & 1) != 0;
        }
    }

    /**
     * Finds the best tour, day by day. Who was where matters only for the day right behind, so of
     * all beginnings that end a day alike the best one is enough.
     *
     * A tour's worth is one number: its travel above the lowest 27 bits, and in those the examiners,
     * three bits a session, session 0's highest. So the least worth is the least travel, and of
     * tours alike in travel the first.
     */
    private static final class Planner {
        // Five sessions of a day for five examiners: 5 * 4 * 3 * 2 ways to give them.
        private static final int MOST_STATES = 120;
        private static final int CODE_BITS = 3 * MOST_SESSIONS;

        final int[] chosen = new int[MOST_SESSIONS];
        private final boolean[] allowed = new boolean[MOST_SESSIONS * MOST_EXAMINERS];
        private final int[] order = new int[MOST_SESSIONS];
        private int count;
        private int countBefore;
        // Four bits an examiner: 0 for one at home, else the centre's number and 1.
        private int[] where = new int[MOST_STATES];
        private int[] whereBefore = new int[MOST_STATES];
        private long[] worth = new long[MOST_STATES];
        private long[] worthBefore = new long[MOST_STATES];

        Planner() {
            for (int session = 0; session < MOST_SESSIONS; session++) {
                chosen[session] = NONE;
            }
        }

        void allow(int examiner, int session, boolean may) {
            allowed[session * MOST_EXAMINERS + examiner] = may;
        }

        int plan(Circuit circuit) {
            orderByDay(circuit);
            count = 1;
            worth[0] = 0;
            for (int at = 0; at < circuit.sessions; at++) {
                int day = circuit.days[order[at]];
                if (at == 0 || circuit.days[order[at - 1]] != day) {
                    startDay(at > 0 && circuit.days[order[at - 1]] == day - 1);
                    giveDay(circuit, at, day, 0, 0);
                }
            }
            if (count == 0) {
                return NO_TOUR;
            }
            sendAllHome();
            choose(circuit.sessions, worth[0]);
            return (int) (worth[0] >> CODE_BITS);
        }

        private void orderByDay(Circuit circuit) {
            for (int session = 0; session < circuit.sessions; session++) {
                int at = session;
                while (at > 0 && circuit.days[order[at - 1]] > circuit.days[session]) {
                    order[at] = order[at - 1];
                    at--;
                }
                order[at] = session;
            }
        }

        private void startDay(boolean rightBehind) {
            if (!rightBehind) {
                sendAllHome();
            }
            int[] oldWhere = whereBefore;
            long[] oldWorth = worthBefore;
            whereBefore = where;
            worthBefore = worth;
            countBefore = count;
            where = oldWhere;
            worth = oldWorth;
            count = 0;
        }

        /** With all at home the states differ in worth alone, so the best one stays. */
        private void sendAllHome() {
            for (int i = 1; i < count; i++) {
                worth[0] = Math.min(worth[0], worth[i]);
            }
            where[0] = 0;
            count = Math.min(count, 1);
        }

        /** Each level takes an examiner who is free on that day, so there are six levels at most. */
        private void giveDay(Circuit circuit, int at, int day, int places, long cost) {
            if (at >= circuit.sessions || circuit.days[order[at]] != day) {
                addState(circuit, places, cost);
                return;
            }
            int session = order[at];
            for (int examiner = 0; examiner < circuit.examiners; examiner++) {
                boolean free = placeOf(places, examiner) == 0;
                if (free && allowed[session * MOST_EXAMINERS + examiner]) {
                    int place = circuit.places[session] + 1 << 4 * examiner;
                    long more = costOf(circuit, examiner, session);
                    giveDay(circuit, at + 1, day, places | place, cost + more);
                }
            }
        }

        private void addState(Circuit circuit, int places, long cost) {
            if (countBefore <= 0 || count >= MOST_STATES) {
                return;
            }
            long best = worthBefore[0] - savedBetween(circuit, whereBefore[0], places);
            for (int i = 1; i < countBefore; i++) {
                long other = worthBefore[i] - savedBetween(circuit, whereBefore[i], places);
                best = Math.min(best, other);
            }
            where[count] = places;
            worth[count] = best + cost;
            count++;
        }

        private static int placeOf(int places, int examiner) {
            return places >> 4 * examiner & 15;
        }

        /** Of a session from home and back. */
        private static long costOf(Circuit circuit, int examiner, int session) {
            int way = circuit.minutesBetween(circuit.homes[examiner], circuit.places[session]);
            long code = (long) examiner << 3 * (MOST_SESSIONS - 1 - session);
            return (2L * way << CODE_BITS) + code;
        }

        /** What is saved by those who go on directly and not by their homes; it may be below 0. */
        private static long savedBetween(Circuit circuit, int before, int now) {
            long saved = 0;
            for (int examiner = 0; examiner < circuit.examiners; examiner++) {
                int a = placeOf(before, examiner) - 1;
                int b = placeOf(now, examiner) - 1;
                if (circuit.hasCentre(a) && circuit.hasCentre(b)) {
                    int home = circuit.homes[examiner];
                    saved += circuit.minutesBetween(a, home) + circuit.minutesBetween(home, b)
                        - circuit.minutesBetween(a, b);
                }
            }
            return saved << CODE_BITS;
        }

        private void choose(int sessions, long best) {
            for (int session = 0; session < sessions; session++) {
                chosen[session] = (int) (best >> 3 * (MOST_SESSIONS - 1 - session)) & 7;
            }
        }
    }

    /** The marks in the order in which they were told, and the day. */
    private static final class Ledger {
        int day;
        int count;
        final int[] entries = new int[MOST_MARKS];
        final int[] tellers = new int[MOST_MARKS];
        private final int[] parts = new int[MOST_MARKS];
        private final int[] points = new int[MOST_MARKS];
        private final int[] toldOn = new int[MOST_MARKS];
        private final int[] untoldOn = new int[MOST_MARKS];
        // Each gap has a mark of another examiner of its own, so there are fewer than marks.
        private final int[] gaps = new int[MOST_MARKS];

        int tell(int teller, int entry, int part, int told) {
            if (count >= MOST_MARKS) {
                return NONE;
            }
            entries[count] = entry;
            tellers[count] = teller;
            parts[count] = part;
            points[count] = told;
            toldOn[count] = day;
            untoldOn[count] = NONE;
            count++;
            return count - 1;
        }

        boolean takeBack(int mark) {
            if (mark < 0 || mark >= count || !stands(mark)) {
                return false;
            }
            untoldOn[mark] = day;
            return true;
        }

        boolean stands(int mark) {
            return untoldOn[mark] == NONE;
        }

        private boolean isKnown(int mark, int onDay) {
            return toldOn[mark] <= onDay && (stands(mark) || untoldOn[mark] > onDay);
        }

        /** The board is no examiner, so its marks make nobody the main one. */
        int mainOf(int entry, int onDay) {
            for (int mark = 0; mark < count; mark++) {
                if (entries[mark] == entry && tellers[mark] != BOARD && isKnown(mark, onDay)) {
                    return tellers[mark];
                }
            }
            return NONE;
        }

        int knownPoints(int entry, int part, int onDay) {
            int mark = lastOf(BOARD, entry, part, onDay);
            if (mark == NONE) {
                mark = lastOf(mainOf(entry, onDay), entry, part, onDay);
            }
            return mark == NONE ? NONE : points[mark];
        }

        private int lastOf(int teller, int entry, int part, int onDay) {
            for (int mark = count - 1; mark >= 0; mark--) {
                if (tellers[mark] == teller && entries[mark] == entry && parts[mark] == part
                    && isKnown(mark, onDay)) {
                    return mark;
                }
            }
            return NONE;
        }

        int hardnessOf(int examiner, int examiners) {
            int found = 0;
            for (int mark = 0; mark < count; mark++) {
                boolean last = tellers[mark] == examiner
                    && lastOf(examiner, entries[mark], parts[mark], day) == mark;
                for (int other = 0; last && other < examiners; other++) {
                    int theirs = lastOf(other, entries[mark], parts[mark], day);
                    if (other != examiner && theirs != NONE) {
                        found = insertGap(points[theirs] - points[mark], found);
                    }
                }
            }
            return found == 0 ? NO_HARDNESS : gaps[(found - 1) / 2];
        }

        /** Keeps the gaps in order; gives how many there are then. */
        private int insertGap(int gap, int found) {
            if (found >= MOST_MARKS) {
                return found;
            }
            int at = found;
            while (at > 0 && gaps[at - 1] > gap) {
                gaps[at] = gaps[at - 1];
                at--;
            }
            gaps[at] = gap;
            return found + 1;
        }
    }

    /** The certificates; number n stands in row n - 1. */
    private static final class Certificates {
        int count;
        final int[] entries = new int[MOST_CERTIFICATES];
        final int[] days = new int[MOST_CERTIFICATES];
        final int[] results = new int[MOST_CERTIFICATES];

        boolean has(int number) {
            return number >= 1 && number <= count;
        }

        /** Whether an entry has one that a result is good enough for. */
        boolean anyUpTo(int entry, int result) {
            for (int i = 0; i < count; i++) {
                if (entries[i] == entry && results[i] <= result) {
                    return true;
                }
            }
            return false;
        }

        int give(int entry, int day, int result) {
            if (count >= MOST_CERTIFICATES) {
                return NONE;
            }
            entries[count] = entry;
            days[count] = day;
            results[count] = result;
            count++;
            return count;
        }
    }
}
