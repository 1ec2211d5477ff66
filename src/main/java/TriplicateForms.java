import java.util.Arrays;
import java.util.NoSuchElementException;

/** An office of persons, their grudges, and forms that each need three signatures. */
public final class TriplicateForms {
    public static final int NONE = -1;

    private static final int MOST_TAPE = 940;
    private static final int BYTES_OF_A_FEED = 20;
    private static final int MOST_OFFICE = 900;
    private static final int MOST_BOOK = 400;
    private static final int MOST_SENTENCE = 200;
    private static final int MOST_STAMP = 40;

    private static final int MOST_PERSONS = 8;
    private static final int MOST_FORMS = 8;
    private static final int MOST_LINES = 40;
    private static final int MOST_ONES = 20;
    private static final int MOST_WITHIN = 8;
    private static final int MOST_GRUDGE = 9;
    private static final int LAST_DAY = 400;
    private static final int MOST_DAYS_AT_ONCE = 60;
    private static final int MOST_UNDONE = 8;
    private static final int MOST_IMAGES = 2;
    private static final int MOST_SEEDS = 30;
    private static final int DAYS_OF_ODDS = 20;

    private static final int PARTS = 3;
    private static final int ABOUT = 0;
    private static final int HURT = 1;
    private static final int THIRD = 2;

    private static final int OPEN = 0;
    private static final int FILED = 1;
    private static final int GRANTED = 2;
    private static final int VOIDED = 3;

    private static final int NOT_A_TOKEN = 1;
    private static final int NOT_A_NUMBER_AS_TOLD = 2;
    private static final int NOT_A_NAME_AS_TOLD = 3;
    private static final int ONE_TOO_MANY = 4;

    // The number of an act, ten times, and why it was refused make what told(0) says of a LINE.
    private static final int SIGN = 0;
    private static final int SOFTEN = 1;
    private static final int RESENT = 2;
    private static final int RETIRE = 3;
    private static final int RETURN = 4;
    private static final int VOID = 5;
    private static final int LODGE = 6;
    private static final int DAYS = 7;

    private static final Word[] WORDS = Word.values();

    private final Tape tape = new Tape();
    private final Roster roster = new Roster();
    private final Roster nextRoster = new Roster();
    private final Standing standing = new Standing(roster);
    private final Standing trial = new Standing(roster);
    private final Undos undos = new Undos(roster);
    private final Image[] images = new Image[MOST_IMAGES];
    private final Matcher matcher = new Matcher();
    private final Adviser adviser = new Adviser();
    private final Stamp stamp = new Stamp();
    private final Book book = new Book();
    private Sentence sentence = new Sentence();
    private Sentence nextSentence = new Sentence();
    private int latestFault = 0;

    public TriplicateForms() {
        for (int k = 0; k < images.length; k++) {
            images[k] = new Image(roster);
        }
    }

    public int feed(int a, int b, int c, int d, int e) {
        if (tape.length + BYTES_OF_A_FEED > MOST_TAPE) {
            return NONE;
        }
        tape.add(a);
        tape.add(b);
        tape.add(c);
        tape.add(d);
        tape.add(e);
        return tape.length;
    }

    public boolean end(int n) {
        if (n < 0 || n > tape.length) {
            return false;
        }
        tape.length = n;
        return true;
    }

    public int office() {
        int lines = nextRoster.readText(tape, trial);
        latestFault = tape.faultKind;
        tape.length = 0;
        if (latestFault != 0) {
            return -1 - tape.faultPlace;
        }
        roster.copyFrom(nextRoster);
        standing.copyFrom(trial);
        sentence.forget();
        undos.forget();
        return lines;
    }

    public int fault() {
        return latestFault;
    }

    public int form(int f, int what) throws NoSuchElementException {
        if (!roster.hasForm(f) || what < 0 || what > 6) {
            throw new NoSuchElementException("no such form or no such what");
        }
        switch (what) {
            case 0:
                return roster.aboutOf(f);
            case 1:
                return standing.hurtOf(f);
            case 5:
                return standing.howIs(f);
            case 6:
                return standing.daysLeft(f);
            default:
                return standing.signerOf(f, what - 2);
        }
    }

    public int person(int p, int what) throws NoSuchElementException {
        if (!roster.hasPerson(p) || what < 0 || what > 4) {
            throw new NoSuchElementException("no such person or no such what");
        }
        switch (what) {
            case 0:
                return standing.isRetired(p) ? 1 : 0;
            case 1:
                return standing.signedToday(p);
            case 2:
                return standing.timesSigned(p);
            case 3:
                return standing.grudgesOf(p);
            default:
                return roster.shyOf(p);
        }
    }

    public int grudge(int p, int q) {
        return roster.hasPerson(p) && roster.hasPerson(q) && p != q ? standing.grudgeOf(p, q) : NONE;
    }

    public int now(int what) {
        switch (what) {
            case 0:
                return standing.day;
            case 1:
                return standing.formsThatAre(OPEN);
            case 2:
                return standing.formsThatAre(FILED);
            case 3:
                return standing.formsThatAre(GRANTED);
            case 4:
                return standing.formsThatAre(VOIDED);
            case 5:
                return standing.clearForms();
            case 6:
                return standing.retired;
            case 7:
                return standing.allGrudges();
            default:
                return NONE;
        }
    }

    public int sign(int p, int f) {
        return roster.hasPerson(p) && roster.hasForm(f) ? attempt(SIGN, p, f) : NONE;
    }

    public int soften(int p, int q) {
        return roster.hasPerson(p) && roster.hasPerson(q) ? attempt(SOFTEN, p, q) : NONE;
    }

    public int resent(int p, int q) {
        return roster.hasPerson(p) && roster.hasPerson(q) ? attempt(RESENT, p, q) : NONE;
    }

    public int retire(int p) {
        return roster.hasPerson(p) ? attempt(RETIRE, p, 0) : NONE;
    }

    public int back(int p) {
        return roster.hasPerson(p) ? attempt(RETURN, p, 0) : NONE;
    }

    public int cancel(int f) {
        return roster.hasForm(f) ? attempt(VOID, f, 0) : NONE;
    }

    public int lodge(int f) {
        return roster.hasForm(f) ? attempt(LODGE, f, 0) : NONE;
    }

    public int days(int n) {
        if (n < 1 || n > MOST_DAYS_AT_ONCE) {
            return NONE;
        }
        int going = Math.min(n, LAST_DAY - standing.day);
        if (going > 0) {
            attempt(DAYS, going, 0);
        }
        return going;
    }

    public int undo() {
        return undos.takeBack(standing);
    }

    public int part(int p, int f) {
        return standing.partOf(p, f);
    }

    public int can(int f) {
        return roster.hasForm(f) ? standing.signersPossible(f) : NONE;
    }

    public int when(int f) {
        return roster.hasForm(f) ? standing.firstGranted(f) : NONE;
    }

    public int match() {
        return matcher.assign(standing);
    }

    public int matched(int p) {
        return matcher.formOf(p);
    }

    public int fits() {
        int forms = adviser.formsThatFit(tape, standing);
        tape.length = 0;
        return forms;
    }

    public int ask() {
        return adviser.toAsk;
    }

    public int cover() {
        return adviser.fewestToCover(standing);
    }

    public int covering() {
        return adviser.covering;
    }

    public int eased(int f, int p) {
        return roster.hasForm(f) && roster.hasPerson(p) ? standing.easing(f, p) : NONE;
    }

    public int served(int rule) {
        if (rule != 0 && rule != 1) {
            return NONE;
        }
        int forms = 0;
        for (int f = 0; f < roster.forms; f++) {
            int thirds = standing.thirdsByAny(f);
            if (rule == 0) {
                thirds &= standing.retired;
            }
            if (standing.hurtOf(f) != NONE && thirds != 0) {
                forms++;
            }
        }
        return forms;
    }

    public int martyr() {
        int martyr = NONE;
        int most = 0;
        for (int p = 0; p < roster.persons; p++) {
            int forms = standing.formsThatHurt(p);
            if (forms > most) {
                most = forms;
                martyr = p;
            }
        }
        return martyr;
    }

    public int stamp(int f) {
        if (!roster.hasForm(f)) {
            return NONE;
        }
        stamp.write(standing, f);
        return stamp.length;
    }

    public int byteAt(int i) {
        return stamp.signAt(i);
    }

    public int drawn(int n, int seed) {
        if (n < 1 || n > MOST_DAYS_AT_ONCE || roster.persons == 0) {
            return NONE;
        }
        if (standing.day >= LAST_DAY) {
            return 0;
        }
        undos.keep(standing);
        return standing.goByDraws(n, seed);
    }

    public int odds(int f, int n, int seed) {
        if (!roster.hasForm(f) || n < 1 || n > MOST_SEEDS) {
            return NONE;
        }
        int granted = 0;
        for (int i = 0; i < n; i++) {
            trial.copyFrom(standing);
            trial.goByDraws(DAYS_OF_ODDS, seed + i);
            if (trial.howIs(f) == GRANTED) {
                granted++;
            }
        }
        return granted;
    }

    public int book(int lives) {
        if (lives != 0 && lives != 1) {
            return -1000;
        }
        book.readText(tape, roster);
        latestFault = tape.faultKind;
        tape.length = 0;
        if (latestFault != 0) {
            return -2 - tape.faultPlace;
        }
        trial.copyFrom(standing);
        if (lives == 0) {
            return book.goThrough(trial);
        }
        int wrong = book.goThrough(standing);
        if (book.ahead > 0) {
            undos.keep(trial);
        }
        return wrong;
    }

    public int told(int what) {
        return book.latest(what);
    }

    public int sentence() {
        nextSentence.readText(tape, roster);
        latestFault = tape.faultKind;
        tape.length = 0;
        if (latestFault != 0) {
            return -1 - tape.faultPlace;
        }
        Sentence before = sentence;
        sentence = nextSentence;
        nextSentence = before;
        return sentence.ones;
    }

    public int said(int k) {
        if (sentence.isNone()) {
            return NONE;
        }
        int forms = sentence.formsItIsSaidOf(standing);
        if (k == NONE) {
            return Integer.bitCount(forms);
        }
        int ahead = 0;
        for (int f = 0; f < roster.forms; f++) {
            if ((forms & 1 << f) != 0) {
                if (ahead == k) {
                    return f;
                }
                ahead++;
            }
        }
        return NONE;
    }

    public boolean image(int k) {
        if (k < 0 || k >= images.length) {
            return false;
        }
        images[k].keep(roster, standing, sentence);
        return true;
    }

    public boolean restore(int k) {
        if (k < 0 || k >= images.length || !images[k].kept) {
            return false;
        }
        roster.copyFrom(images[k].rosterThen);
        standing.copyFrom(images[k].standingThen);
        sentence.copyFrom(images[k].sentenceThen);
        undos.forget();
        return true;
    }

    public int count(int what) {
        switch (what) {
            case 0:
                return roster.persons;
            case 1:
                return roster.forms;
            case 2:
                return roster.anyThird ? 1 : 0;
            case 3:
                return tape.length;
            default:
                return NONE;
        }
    }

    /** Does an act of which it is known that the ones it names are there, so that it can be undone. */
    private int attempt(int act, int a, int b) {
        int why = standing.whyNot(act, a, b);
        if (why == 0) {
            undos.keep(standing);
            standing.perform(act, a, b);
        }
        return why;
    }

    /** The WORDS that mean something in a text, and so are no NAMES. */
    private enum Word {
        PERSON("person"), RETIRED("retired"), GRUDGE("grudge"), SHY("shy"), FORM("form"), RULE("rule"),
        DRAWER("drawer"), ANY("any"),
        SIGNS("signs"), SOFTENS("softens"), RESENTS("resents"), RETIRES("retires"), RETURNS("returns"),
        VOID("void"), LODGE("lodge"), DAY("day"),
        OR("or"), AND("and"), NOT("not"), OPEN("open"), FILED("filed"), GRANTED("granted"), VOIDED("voided"),
        CLEAR("clear"), ABOUT("about"), HURTS("hurts"), SIGNED("signed"), PARTS("parts"), DAYS("days"),
        NUMBER("number");

        /** Five bits a letter, as the Tape packs them: no text need be made to compare two WORDS. */
        final long letters;

        Word(String text) {
            long packed = 0;
            for (int i = 0; i < text.length(); i++) {
                packed = packed * 32 + (text.charAt(i) - 'a' + 1);
            }
            letters = packed;
        }
    }

    /** The bytes that were fed; it is read TOKEN by TOKEN, up to the first FAULT, which it keeps. */
    private static final class Tape {
        static final int END = 0;
        static final int WORD = 1;
        static final int NUMBER = 2;
        static final int MARK = 3;
        static final int NO_TOKEN = 4;

        private final byte[] bytes = new byte[MOST_TAPE];
        int length = 0;
        private int most = 0;
        private int at = 0;
        int kind = END;
        int place = 0;
        int value = 0;
        long letters = 0;
        Word meaning = null;
        int faultKind = 0;
        int faultPlace = 0;

        void add(int number) {
            for (int shift = 24; shift >= 0; shift -= 8) {
                if (length >= 0 && length < bytes.length) {
                    bytes[length] = (byte) (number >>> shift);
                    length++;
                }
            }
        }

        int signAt(int i) {
            return i >= 0 && i < length && i < bytes.length ? bytes[i] & 255 : NONE;
        }

        void begin(int mostBytes) {
            most = mostBytes;
            at = 0;
            faultKind = 0;
            faultPlace = 0;
            advance();
        }

        /** Reads the next TOKEN. */
        void advance() {
            int sign = signAt(at);
            while (at < length && (sign == ' ' || sign == '\n')) {
                at++;
                sign = signAt(at);
            }
            place = at;
            meaning = null;
            if (length > most && at >= most) {
                kind = NO_TOKEN;
                place = most;
            } else if (at >= length) {
                kind = END;
            } else if (isSmallLetter(sign) || isDigit(sign)) {
                readRun();
            } else {
                boolean mark = sign == ';' || sign == '<' || sign == '=' || sign == '>' || sign == '(' || sign == ')';
                kind = mark ? MARK : NO_TOKEN;
                value = sign;
                at++;
            }
        }

        private void readRun() {
            int small = 0;
            int digits = 0;
            letters = 0;
            value = 0;
            int sign = signAt(at);
            while (at < length && (isSmallLetter(sign) || isDigit(sign))) {
                if (isDigit(sign)) {
                    digits++;
                    value = value * 10 + (sign - '0');
                } else {
                    small++;
                    letters = letters * 32 + (sign - 'a' + 1);
                }
                at++;
                sign = signAt(at);
            }
            if (digits == 0 && small <= 7) {
                kind = WORD;
                findMeaning();
            } else {
                kind = small == 0 && digits <= 3 ? NUMBER : NO_TOKEN;
            }
        }

        private void findMeaning() {
            for (int i = 0; i < WORDS.length; i++) {
                if (WORDS[i].letters == letters) {
                    meaning = WORDS[i];
                }
            }
        }

        boolean isWord(Word word) {
            return kind == WORD && meaning == word;
        }

        boolean isMark(int sign) {
            return kind == MARK && value == sign;
        }

        boolean isName() {
            return kind == WORD && meaning == null;
        }

        /** Keeps a FAULT at the TOKEN that is read; always false. */
        boolean refuse(int fault) {
            faultKind = fault;
            faultPlace = place;
            return false;
        }

        boolean takeMark(int sign) {
            if (!isMark(sign)) {
                return refuse(NOT_A_TOKEN);
            }
            advance();
            return true;
        }

        /** The NUMBER that is read, or NONE with its FAULT. */
        int numberFrom(int least, int greatest) {
            if (kind != NUMBER) {
                refuse(NOT_A_TOKEN);
                return NONE;
            }
            if (value < least || value > greatest) {
                refuse(NOT_A_NUMBER_AS_TOLD);
                return NONE;
            }
            return value;
        }

        private static boolean isSmallLetter(int sign) {
            return sign >= 'a' && sign <= 'z';
        }

        private static boolean isDigit(int sign) {
            return sign >= '0' && sign <= '9';
        }
    }

    /** What an OFFICE's text told and no day changes: NAMES, FORMS, who is shy, the RULE. */
    private static final class Roster {
        private final long[] personNames = new long[MOST_PERSONS];
        private final long[] formNames = new long[MOST_FORMS];
        private final int[] about = new int[MOST_FORMS];
        private final int[] span = new int[MOST_FORMS];
        private final int[] shy = new int[MOST_PERSONS];
        private boolean ruleTold = false;
        int persons = 0;
        int forms = 0;
        boolean anyThird = false;

        void copyFrom(Roster other) {
            System.arraycopy(other.personNames, 0, personNames, 0, MOST_PERSONS);
            System.arraycopy(other.formNames, 0, formNames, 0, MOST_FORMS);
            System.arraycopy(other.about, 0, about, 0, MOST_FORMS);
            System.arraycopy(other.span, 0, span, 0, MOST_FORMS);
            System.arraycopy(other.shy, 0, shy, 0, MOST_PERSONS);
            ruleTold = other.ruleTold;
            persons = other.persons;
            forms = other.forms;
            anyThird = other.anyThird;
        }

        private void forget() {
            for (int p = 0; p < MOST_PERSONS; p++) {
                shy[p] = 0;
            }
            ruleTold = false;
            persons = 0;
            forms = 0;
            anyThird = false;
        }

        boolean hasPerson(int p) {
            return p >= 0 && p < persons && p < MOST_PERSONS;
        }

        boolean hasForm(int f) {
            return f >= 0 && f < forms && f < MOST_FORMS;
        }

        int aboutOf(int f) {
            return f >= 0 && f < forms && f < MOST_FORMS ? about[f] : NONE;
        }

        int spanOf(int f) {
            return hasForm(f) ? span[f] : 0;
        }

        int shyOf(int p) {
            return hasPerson(p) ? shy[p] : 0;
        }

        long formName(int f) {
            return hasForm(f) ? formNames[f] : 0;
        }

        private int personNamed(long letters) {
            for (int p = 0; p < persons && p < MOST_PERSONS; p++) {
                if (personNames[p] == letters) {
                    return p;
                }
            }
            return NONE;
        }

        private int formNamed(long letters) {
            for (int f = 0; f < forms && f < MOST_FORMS; f++) {
                if (formNames[f] == letters) {
                    return f;
                }
            }
            return NONE;
        }

        /** The PERSON whose NAME is read, or NONE with its FAULT. */
        int personRead(Tape in) {
            int p = in.isName() ? personNamed(in.letters) : NONE;
            if (p == NONE) {
                in.refuse(in.isName() ? NOT_A_NAME_AS_TOLD : NOT_A_TOKEN);
            }
            return p;
        }

        /** The FORM whose NAME is read, or NONE with its FAULT. */
        int formRead(Tape in) {
            int f = in.isName() ? formNamed(in.letters) : NONE;
            if (f == NONE) {
                in.refuse(in.isName() ? NOT_A_NAME_AS_TOLD : NOT_A_TOKEN);
            }
            return f;
        }

        /** Reads the tape as an OFFICE and lays what is so on its first DAY into start: how many LINES. */
        int readText(Tape in, Standing start) {
            forget();
            start.clear();
            in.begin(MOST_OFFICE);
            int lines = 0;
            while (lines < MOST_OFFICE && in.kind != Tape.END) {
                if (!readLine(in, start)) {
                    return NONE;
                }
                lines++;
            }
            return lines;
        }

        private boolean readLine(Tape in, Standing start) {
            if (in.isWord(Word.PERSON)) {
                return readPersonLine(in, start);
            }
            if (in.isWord(Word.GRUDGE)) {
                return readGrudgeLine(in, start);
            }
            if (in.isWord(Word.SHY)) {
                return readShyLine(in);
            }
            if (in.isWord(Word.FORM)) {
                return readFormLine(in);
            }
            if (in.isWord(Word.RULE)) {
                return readRuleLine(in);
            }
            return in.refuse(NOT_A_TOKEN);
        }

        private boolean newNameRead(Tape in) {
            if (!in.isName()) {
                return in.refuse(NOT_A_TOKEN);
            }
            if (personNamed(in.letters) != NONE || formNamed(in.letters) != NONE) {
                return in.refuse(NOT_A_NAME_AS_TOLD);
            }
            return true;
        }

        private boolean readPersonLine(Tape in, Standing start) {
            if (persons < 0 || persons >= MOST_PERSONS) {
                return in.refuse(ONE_TOO_MANY);
            }
            in.advance();
            if (!newNameRead(in)) {
                return false;
            }
            personNames[persons] = in.letters;
            in.advance();
            if (in.isWord(Word.RETIRED)) {
                start.retired |= 1 << persons;
                in.advance();
            }
            persons++;
            return in.takeMark(';');
        }

        private boolean readGrudgeLine(Tape in, Standing start) {
            in.advance();
            int p = personRead(in);
            if (p == NONE) {
                return false;
            }
            in.advance();
            int q = personRead(in);
            if (q == NONE) {
                return false;
            }
            if (p == q || start.grudgeOf(p, q) != 0) {
                return in.refuse(NOT_A_NAME_AS_TOLD);
            }
            in.advance();
            int grudge = in.numberFrom(1, MOST_GRUDGE);
            if (grudge == NONE) {
                return false;
            }
            start.addGrudge(p, q, grudge);
            in.advance();
            return in.takeMark(';');
        }

        private boolean readShyLine(Tape in) {
            in.advance();
            int p = personRead(in);
            if (!hasPerson(p)) {
                return false;
            }
            in.advance();
            int q = personRead(in);
            if (q == NONE) {
                return false;
            }
            if (p == q || (shy[p] & 1 << q) != 0) {
                return in.refuse(NOT_A_NAME_AS_TOLD);
            }
            shy[p] |= 1 << q;
            in.advance();
            return in.takeMark(';');
        }

        private boolean readFormLine(Tape in) {
            if (forms < 0 || forms >= MOST_FORMS) {
                return in.refuse(ONE_TOO_MANY);
            }
            in.advance();
            if (!newNameRead(in)) {
                return false;
            }
            long name = in.letters;
            in.advance();
            int p = personRead(in);
            if (p == NONE) {
                return false;
            }
            in.advance();
            int days = in.numberFrom(1, 9);
            if (days == NONE) {
                return false;
            }
            formNames[forms] = name;
            about[forms] = p;
            span[forms] = days;
            forms++;
            in.advance();
            return in.takeMark(';');
        }

        private boolean readRuleLine(Tape in) {
            if (ruleTold) {
                return in.refuse(NOT_A_NAME_AS_TOLD);
            }
            in.advance();
            if (!in.isWord(Word.DRAWER) && !in.isWord(Word.ANY)) {
                return in.refuse(NOT_A_TOKEN);
            }
            ruleTold = true;
            anyThird = in.isWord(Word.ANY);
            in.advance();
            return in.takeMark(';');
        }
    }

    /** All that is so on a DAY: grudges, the drawer, how far each FORM is. */
    private static final class Standing {
        final Roster roster;
        private final int[] grudges = new int[MOST_PERSONS * MOST_PERSONS];
        private final int[] signedToday = new int[MOST_PERSONS];
        private final int[] timesSigned = new int[MOST_PERSONS];
        private final int[] how = new int[MOST_FORMS];
        private final int[] daysToGo = new int[MOST_FORMS];
        private final int[] signers = new int[MOST_FORMS * PARTS];
        int retired = 0;
        int day = 0;
        private int drawState = 0;

        Standing(Roster roster) {
            this.roster = roster;
            setToStart();
        }

        void clear() {
            setToStart();
        }

        private void setToStart() {
            Arrays.fill(grudges, 0);
            Arrays.fill(signedToday, NONE);
            Arrays.fill(timesSigned, 0);
            Arrays.fill(how, OPEN);
            Arrays.fill(daysToGo, 0);
            Arrays.fill(signers, NONE);
            retired = 0;
            day = 0;
        }

        void copyFrom(Standing other) {
            System.arraycopy(other.grudges, 0, grudges, 0, MOST_PERSONS * MOST_PERSONS);
            System.arraycopy(other.signedToday, 0, signedToday, 0, MOST_PERSONS);
            System.arraycopy(other.timesSigned, 0, timesSigned, 0, MOST_PERSONS);
            System.arraycopy(other.how, 0, how, 0, MOST_FORMS);
            System.arraycopy(other.daysToGo, 0, daysToGo, 0, MOST_FORMS);
            System.arraycopy(other.signers, 0, signers, 0, MOST_FORMS * PARTS);
            retired = other.retired;
            day = other.day;
        }

        private static int place(int f, int part) {
            boolean both = f >= 0 && f < MOST_FORMS && part >= 0 && part < PARTS;
            return both ? f * PARTS + part : NONE;
        }

        int grudgeOf(int p, int q) {
            boolean both = p >= 0 && p < MOST_PERSONS && q >= 0 && q < MOST_PERSONS;
            return both ? grudges[p * MOST_PERSONS + q] : 0;
        }

        void addGrudge(int p, int q, int more) {
            if (p >= 0 && p < MOST_PERSONS && q >= 0 && q < MOST_PERSONS) {
                grudges[p * MOST_PERSONS + q] += more;
            }
        }

        int grudgesOf(int p) {
            int all = 0;
            for (int q = 0; q < MOST_PERSONS; q++) {
                all += grudgeOf(p, q);
            }
            return all;
        }

        int allGrudges() {
            int all = 0;
            for (int i = 0; i < grudges.length; i++) {
                all += grudges[i];
            }
            return all;
        }

        boolean isRetired(int p) {
            return roster.hasPerson(p) && (retired & 1 << p) != 0;
        }

        int signedToday(int p) {
            return roster.hasPerson(p) ? signedToday[p] : NONE;
        }

        int timesSigned(int p) {
            return roster.hasPerson(p) ? timesSigned[p] : 0;
        }

        int howIs(int f) {
            return roster.hasForm(f) ? how[f] : NONE;
        }

        int signerOf(int f, int part) {
            int at = place(f, part);
            return at >= 0 ? signers[at] : NONE;
        }

        boolean hasSigned(int p, int f) {
            return signerOf(f, ABOUT) == p || signerOf(f, HURT) == p || signerOf(f, THIRD) == p;
        }

        int partsSigned(int f) {
            int signed = 0;
            for (int part = 0; part < PARTS; part++) {
                if (signerOf(f, part) != NONE) {
                    signed++;
                }
            }
            return signed;
        }

        int daysLeft(int f) {
            int is = howIs(f);
            if (is == FILED) {
                return daysToGo[f];
            }
            return is == GRANTED ? 0 : roster.spanOf(f);
        }

        int hurtOf(int f) {
            int signed = signerOf(f, HURT);
            return signed != NONE ? signed : angriestAt(f);
        }

        /** Who is HURT by a FORM as long as that part is not signed. */
        int angriestAt(int f) {
            int about = roster.aboutOf(f);
            int angriest = NONE;
            int most = 0;
            for (int p = 0; p < roster.persons; p++) {
                int grudge = grudgeOf(p, about);
                if (p != about && grudge > most) {
                    most = grudge;
                    angriest = p;
                }
            }
            return angriest;
        }

        int formsThatAre(int what) {
            int forms = 0;
            for (int f = 0; f < roster.forms; f++) {
                if (howIs(f) == what) {
                    forms |= 1 << f;
                }
            }
            return forms;
        }

        int clearForms() {
            int forms = 0;
            for (int f = 0; f < roster.forms; f++) {
                if (hurtOf(f) == NONE) {
                    forms |= 1 << f;
                }
            }
            return forms;
        }

        int formsThatHurt(int p) {
            int forms = 0;
            for (int f = 0; f < roster.forms; f++) {
                if (hurtOf(f) == p) {
                    forms++;
                }
            }
            return forms;
        }

        /** Who may be THIRD whether he is in the drawer or not, as bits. */
        int thirdsByAny(int f) {
            int about = roster.aboutOf(f);
            int hurt = hurtOf(f);
            int thirds = 0;
            for (int p = 0; p < roster.persons; p++) {
                if (p != about && p != hurt && (roster.shyOf(p) & 1 << about) == 0) {
                    thirds |= 1 << p;
                }
            }
            return thirds;
        }

        /** The part that would be somebody's if the one told were HURT, signed or not; NONE if he has none. */
        private int partWith(int hurt, int p, int f) {
            int about = roster.aboutOf(f);
            if (!roster.hasPerson(p) || about == NONE) {
                return NONE;
            }
            if (p == about) {
                return ABOUT;
            }
            if (p == hurt) {
                return HURT;
            }
            boolean shy = (roster.shyOf(p) & 1 << about) != 0;
            return !shy && (roster.anyThird || isRetired(p)) ? THIRD : NONE;
        }

        int partIfUnsigned(int p, int f) {
            return partWith(angriestAt(f), p, f);
        }

        int partOf(int p, int f) {
            if (howIs(f) != OPEN || hasSigned(p, f)) {
                return NONE;
            }
            int part = partWith(hurtOf(f), p, f);
            return signerOf(f, part) == NONE ? part : NONE;
        }

        int signersPossible(int f) {
            int persons = 0;
            for (int p = 0; p < roster.persons; p++) {
                if (partOf(p, f) != NONE) {
                    persons |= 1 << p;
                }
            }
            return persons;
        }

        int firstGranted(int f) {
            int is = howIs(f);
            if (is != OPEN && is != FILED) {
                return NONE;
            }
            int wait = is == OPEN ? daysToSign(f) : 0;
            int granted = day + wait + daysLeft(f);
            return wait == NONE || granted > LAST_DAY ? NONE : granted;
        }

        /** 0 if all that is missing can be signed today, 1 on the next DAY, NONE if some part has nobody. */
        private int daysToSign(int f) {
            int somebody = 0;
            int somebodyToday = 0;
            for (int p = 0; p < roster.persons; p++) {
                int part = partOf(p, f);
                if (part != NONE) {
                    somebody |= 1 << part;
                    somebodyToday |= signedToday(p) == NONE ? 1 << part : 0;
                }
            }
            int missing = 0;
            for (int part = 0; part < PARTS; part++) {
                missing |= signerOf(f, part) == NONE ? 1 << part : 0;
            }
            if (somebody != missing) {
                return NONE;
            }
            return somebodyToday == missing ? 0 : 1;
        }

        /** By how much others' grudges must be less; of like grudges the first is HURT, so who is ahead needs one less. */
        int easing(int f, int p) {
            int about = roster.aboutOf(f);
            int grudge = grudgeOf(p, about);
            if (grudge == 0 || p == about) {
                return NONE;
            }
            int less = 0;
            for (int q = 0; q < roster.persons; q++) {
                if (q != p && q != about) {
                    int most = q < p ? grudge - 1 : grudge;
                    less += Math.max(0, grudgeOf(q, about) - most);
                }
            }
            return less;
        }

        /** Why an act can't be done, the least; 0 if it can. */
        int whyNot(int act, int a, int b) {
            switch (act) {
                case SIGN:
                    if (howIs(b) != OPEN) {
                        return 1;
                    }
                    if (signedToday(a) != NONE) {
                        return 2;
                    }
                    return partOf(a, b) == NONE ? 3 : 0;
                case SOFTEN:
                    return a == b || grudgeOf(a, b) == 0 ? 1 : 0;
                case RESENT:
                    if (a == b) {
                        return 1;
                    }
                    return grudgeOf(a, b) >= MOST_GRUDGE ? 2 : 0;
                case RETIRE:
                    return isRetired(a) ? 1 : 0;
                case RETURN:
                    return isRetired(a) ? 0 : 1;
                case VOID:
                    return howIs(a) == GRANTED || howIs(a) == VOIDED ? 1 : 0;
                case LODGE:
                    return howIs(a) == VOIDED ? 0 : 1;
                default:
                    return a > LAST_DAY - day ? 1 : 0;
            }
        }

        /** Does an act that whyNot() does not refuse. */
        void perform(int act, int a, int b) {
            switch (act) {
                case SIGN:
                    putSignature(a, b, partOf(a, b));
                    break;
                case SOFTEN:
                    addGrudge(a, b, -1);
                    break;
                case RESENT:
                    addGrudge(a, b, 1);
                    break;
                case RETIRE:
                    retired |= 1 << a;
                    break;
                case RETURN:
                    retired &= ~(1 << a);
                    break;
                case VOID:
                    setHow(a, VOIDED);
                    break;
                case LODGE:
                    openAnew(a);
                    break;
                default:
                    for (int gone = 0; gone < a; gone++) {
                        goOneDay();
                    }
                    break;
            }
        }

        private void setHow(int f, int what) {
            if (roster.hasForm(f)) {
                how[f] = what;
            }
        }

        private void putSignature(int p, int f, int part) {
            int at = place(f, part);
            if (at < 0 || !roster.hasPerson(p) || !roster.hasForm(f)) {
                return;
            }
            signers[at] = p;
            signedToday[p] = f;
            timesSigned[p]++;
            if (partsSigned(f) == PARTS) {
                how[f] = FILED;
                daysToGo[f] = roster.spanOf(f);
            }
        }

        private void openAnew(int f) {
            setHow(f, OPEN);
            for (int part = 0; part < PARTS; part++) {
                int at = place(f, part);
                if (at >= 0) {
                    signers[at] = NONE;
                }
            }
        }

        private void goOneDay() {
            for (int f = 0; f < roster.forms && f < MOST_FORMS; f++) {
                if (how[f] == FILED) {
                    daysToGo[f]--;
                    if (daysToGo[f] <= 0) {
                        grant(f);
                    }
                }
            }
            Arrays.fill(signedToday, NONE);
            day++;
        }

        private void grant(int f) {
            setHow(f, GRANTED);
            int hurt = signerOf(f, HURT);
            int about = roster.aboutOf(f);
            if (grudgeOf(hurt, about) < MOST_GRUDGE) {
                addGrudge(hurt, about, 1);
            }
        }

        /** At most n DAYS DRAWN by a seed: how many went by. */
        int goByDraws(int n, int seed) {
            drawState = seed;
            int gone = 0;
            while (gone < n && day < LAST_DAY) {
                for (int p = 0; p < roster.persons; p++) {
                    if (roster.forms > 0) {
                        performIfPossible(SIGN, p, draw(roster.forms));
                    }
                    int whim = draw(6);
                    if (whim <= 1) {
                        performIfPossible(whim == 0 ? RESENT : SOFTEN, p, draw(roster.persons));
                    }
                }
                goOneDay();
                gone++;
            }
            return gone;
        }

        private void performIfPossible(int act, int a, int b) {
            if (whyNot(act, a, b) == 0) {
                perform(act, a, b);
            }
        }

        private int draw(int n) {
            drawState = drawState * 1103515245 + 12345;
            return n > 0 ? (drawState >>> 8) % n : 0;
        }
    }

    /** What was so ahead of the latest acts; the oldest is lost when there are too many. */
    private static final class Undos {
        private final Standing[] kept = new Standing[MOST_UNDONE];
        private int next = 0;
        private int count = 0;

        Undos(Roster roster) {
            for (int i = 0; i < kept.length; i++) {
                kept[i] = new Standing(roster);
            }
        }

        void forget() {
            count = 0;
        }

        void keep(Standing standing) {
            if (next < 0 || next >= kept.length) {
                return;
            }
            kept[next].copyFrom(standing);
            next = next + 1 < kept.length ? next + 1 : 0;
            count = Math.min(count + 1, kept.length);
        }

        /** Makes it so again as it was ahead of the latest act: how many more there are. */
        int takeBack(Standing standing) {
            int latest = next > 0 ? next - 1 : kept.length - 1;
            if (count <= 0 || latest < 0 || latest >= kept.length) {
                return NONE;
            }
            standing.copyFrom(kept[latest]);
            next = latest;
            count--;
            return count;
        }
    }

    /** What image() keeps. */
    private static final class Image {
        final Roster rosterThen = new Roster();
        final Standing standingThen;
        final Sentence sentenceThen = new Sentence();
        boolean kept = false;

        Image(Roster roster) {
            standingThen = new Standing(roster);
        }

        void keep(Roster roster, Standing standing, Sentence sentence) {
            rosterThen.copyFrom(roster);
            standingThen.copyFrom(standing);
            sentenceThen.copyFrom(sentence);
            kept = true;
        }
    }

    /** Gives to as many PERSONS as can be a part each to sign today. */
    private static final class Matcher {
        private static final int SLOTS = MOST_FORMS * PARTS;

        /** Which part of which FORM a PERSON could sign, as one number; NONE if he could sign none of it. */
        private final int[] slots = new int[MOST_PERSONS * MOST_FORMS];
        private final int[] holders = new int[SLOTS];
        private final int[] chosen = new int[MOST_PERSONS];
        private int persons = 0;
        private int forms = 0;
        private int tried = 0;

        Matcher() {
            Arrays.fill(chosen, NONE);
        }

        int formOf(int p) {
            return p >= 0 && p < chosen.length ? chosen[p] : NONE;
        }

        /** The most parts; of all ways that sign so many it keeps the first one. */
        int assign(Standing standing) {
            readSlots(standing);
            Arrays.fill(chosen, NONE);
            int most = mostFrom(0, 0);
            int taken = 0;
            int sure = 0;
            for (int p = 0; p < persons && p < MOST_PERSONS; p++) {
                for (int f = 0; f < forms && chosen[p] == NONE; f++) {
                    int slot = slotOf(p, f);
                    if (isFree(slot, taken) && sure + 1 + mostFrom(p + 1, taken | 1 << slot) == most) {
                        chosen[p] = f;
                        taken |= 1 << slot;
                        sure++;
                    }
                }
            }
            return most;
        }

        private void readSlots(Standing standing) {
            persons = standing.roster.persons;
            forms = standing.roster.forms;
            Arrays.fill(slots, NONE);
            for (int p = 0; p < persons && p < MOST_PERSONS; p++) {
                for (int f = 0; f < forms && f < MOST_FORMS && standing.signedToday(p) == NONE; f++) {
                    int part = standing.partOf(p, f);
                    slots[p * MOST_FORMS + f] = part == NONE ? NONE : f * PARTS + part;
                }
            }
        }

        private int slotOf(int p, int f) {
            boolean both = p >= 0 && p < MOST_PERSONS && f >= 0 && f < MOST_FORMS;
            return both ? slots[p * MOST_FORMS + f] : NONE;
        }

        private static boolean isFree(int slot, int taken) {
            return slot >= 0 && slot < SLOTS && (taken & 1 << slot) == 0;
        }

        /** How many PERSONS from the first one told on can have each another slot that is not taken. */
        private int mostFrom(int first, int taken) {
            Arrays.fill(holders, NONE);
            int most = 0;
            for (int p = first; p < persons; p++) {
                tried = taken;
                if (findSlot(p, 0)) {
                    most++;
                }
            }
            return most;
        }

        /** Finds a slot for one more PERSON; who holds one may have to go to another, at most each one once. */
        private boolean findSlot(int p, int depth) {
            if (depth > MOST_PERSONS) {
                return false;
            }
            for (int f = 0; f < forms; f++) {
                int slot = slotOf(p, f);
                if (isFree(slot, tried)) {
                    tried |= 1 << slot;
                    if (canBeLeft(slot, depth)) {
                        holders[slot] = p;
                        return true;
                    }
                }
            }
            return false;
        }

        private boolean canBeLeft(int slot, int depth) {
            if (slot < 0 || slot >= holders.length) {
                return false;
            }
            return holders[slot] == NONE || findSlot(holders[slot], depth + 1);
        }
    }

    /** Says whom to ask which FORM it was, and by how few THIRDS all are served. */
    private static final class Adviser {
        private final int[] thirds = new int[MOST_FORMS];
        int toAsk = NONE;
        int covering = NONE;

        int formsThatFit(Tape tape, Standing standing) {
            if (tape.length < 1 || tape.length > PARTS) {
                return NONE;
            }
            int signers = 0;
            for (int i = 0; i < tape.length; i++) {
                int p = tape.signAt(i);
                if (!standing.roster.hasPerson(p) || (signers & 1 << p) != 0) {
                    return NONE;
                }
                signers |= 1 << p;
            }
            int forms = 0;
            for (int f = 0; f < standing.roster.forms; f++) {
                if (couldHaveSigned(signers, f, standing)) {
                    forms |= 1 << f;
                }
            }
            if (forms != 0) {
                toAsk = whomToAsk(forms, standing);
            }
            return forms;
        }

        private static boolean couldHaveSigned(int signers, int f, Standing standing) {
            int parts = 0;
            for (int p = 0; p < MOST_PERSONS; p++) {
                if ((signers & 1 << p) != 0) {
                    int part = standing.partIfUnsigned(p, f);
                    if (part == NONE || (parts & 1 << part) != 0) {
                        return false;
                    }
                    parts |= 1 << part;
                }
            }
            return true;
        }

        private static int whomToAsk(int forms, Standing standing) {
            int best = NONE;
            int leastUneven = MOST_FORMS + 1;
            for (int p = 0; p < standing.roster.persons; p++) {
                int uneven = 0;
                for (int f = 0; f < standing.roster.forms; f++) {
                    if ((forms & 1 << f) != 0) {
                        uneven += standing.partIfUnsigned(p, f) != NONE ? 1 : -1;
                    }
                }
                if (Math.abs(uneven) < leastUneven) {
                    leastUneven = Math.abs(uneven);
                    best = p;
                }
            }
            return best;
        }

        int fewestToCover(Standing standing) {
            int needed = readThirds(standing);
            int best = NONE;
            int fewest = NONE;
            for (int drawer = 0; drawer < 1 << standing.roster.persons; drawer++) {
                int size = Integer.bitCount(drawer);
                if ((fewest == NONE || size < fewest) && coversAll(drawer, needed)) {
                    fewest = size;
                    best = drawer;
                }
            }
            if (fewest != NONE) {
                covering = best;
            }
            return fewest;
        }

        /** Which FORMS need a THIRD, as bits; who could be it goes into the row. */
        private int readThirds(Standing standing) {
            int needed = 0;
            for (int f = 0; f < standing.roster.forms && f < MOST_FORMS; f++) {
                thirds[f] = standing.thirdsByAny(f);
                if (standing.hurtOf(f) != NONE) {
                    needed |= 1 << f;
                }
            }
            return needed;
        }

        private boolean coversAll(int drawer, int needed) {
            for (int f = 0; f < MOST_FORMS; f++) {
                if ((needed & 1 << f) != 0 && (thirds[f] & drawer) == 0) {
                    return false;
                }
            }
            return true;
        }
    }

    /** The text that is stamped on a FORM. */
    private static final class Stamp {
        private final char[] signs = new char[MOST_STAMP];
        int length = 0;

        int signAt(int i) {
            return i >= 0 && i < length && i < signs.length ? signs[i] : NONE;
        }

        void write(Standing standing, int f) {
            length = 0;
            putName(standing.roster.formName(f));
            switch (standing.howIs(f)) {
                case FILED:
                    putText(" is filed");
                    break;
                case GRANTED:
                    putText(" is granted");
                    break;
                case VOIDED:
                    putText(" is void");
                    break;
                default:
                    putWants(standing, f);
                    break;
            }
        }

        private void putWants(Standing standing, int f) {
            if (standing.hurtOf(f) == NONE) {
                putText(" is clear");
                return;
            }
            putText(" wants");
            putText(standing.signerOf(f, ABOUT) == NONE ? " about" : "");
            putText(standing.signerOf(f, HURT) == NONE ? " hurt" : "");
            putText(standing.signerOf(f, THIRD) == NONE ? " third" : "");
        }

        private void putName(long letters) {
            for (int shift = 30; shift >= 0; shift -= 5) {
                int letter = (int) (letters >>> shift) & 31;
                if (letter != 0) {
                    putSign((char) ('a' + letter - 1));
                }
            }
        }

        private void putText(String text) {
            for (int i = 0; i < text.length(); i++) {
                putSign(text.charAt(i));
            }
        }

        private void putSign(char sign) {
            if (length >= 0 && length < signs.length) {
                signs[length] = sign;
                length++;
            }
        }
    }

    /** A BOOK's LINES, and what became of the latest one that was judged or lived. */
    private static final class Book {
        private final int[] acts = new int[MOST_LINES];
        private final int[] firsts = new int[MOST_LINES];
        private final int[] seconds = new int[MOST_LINES];
        private int lines = 0;
        private boolean gone = false;
        private int why = 0;
        int ahead = 0;
        private int dayThen = 0;
        private int grantedThen = 0;

        int latest(int what) {
            if (!gone) {
                return NONE;
            }
            switch (what) {
                case 0:
                    return why;
                case 1:
                    return ahead;
                case 2:
                    return dayThen;
                case 3:
                    return grantedThen;
                default:
                    return NONE;
            }
        }

        /** Goes LINE by LINE as far as none is WRONG: the one that is, or NONE. */
        int goThrough(Standing standing) {
            gone = true;
            why = 0;
            ahead = 0;
            int wrong = NONE;
            for (int line = 0; line < lines && line < MOST_LINES && wrong == NONE; line++) {
                int refused = standing.whyNot(acts[line], firsts[line], seconds[line]);
                if (refused != 0) {
                    why = acts[line] * 10 + refused;
                    wrong = line;
                } else {
                    standing.perform(acts[line], firsts[line], seconds[line]);
                    ahead++;
                }
            }
            dayThen = standing.day;
            grantedThen = standing.formsThatAre(GRANTED);
            return wrong;
        }

        void readText(Tape in, Roster roster) {
            lines = 0;
            in.begin(MOST_BOOK);
            boolean good = true;
            for (int line = 0; line <= MOST_LINES && good && in.kind != Tape.END; line++) {
                good = readLine(in, roster);
            }
        }

        private boolean readLine(Tape in, Roster roster) {
            if (in.isWord(Word.VOID)) {
                return begin(in, VOID) && readForm(in, roster, firsts) && endLine(in);
            }
            if (in.isWord(Word.LODGE)) {
                return begin(in, LODGE) && readForm(in, roster, firsts) && endLine(in);
            }
            if (in.isWord(Word.DAY)) {
                return begin(in, DAYS) && readDays(in) && endLine(in);
            }
            int p = roster.personRead(in);
            if (p == NONE || !begin(in, NONE)) {
                return false;
            }
            keep(firsts, p);
            return readDeed(in, roster) && endLine(in);
        }

        /** Goes behind a LINE's first WORD, if there may be one more LINE. */
        private boolean begin(Tape in, int act) {
            if (lines < 0 || lines >= MOST_LINES) {
                return in.refuse(ONE_TOO_MANY);
            }
            acts[lines] = act;
            seconds[lines] = 0;
            in.advance();
            return true;
        }

        private boolean endLine(Tape in) {
            lines++;
            return in.takeMark(';');
        }

        private boolean readForm(Tape in, Roster roster, int[] row) {
            int f = roster.formRead(in);
            if (f == NONE) {
                return false;
            }
            keep(row, f);
            in.advance();
            return true;
        }

        private boolean readPerson(Tape in, Roster roster, int[] row) {
            int p = roster.personRead(in);
            if (p == NONE) {
                return false;
            }
            keep(row, p);
            in.advance();
            return true;
        }

        private boolean readDays(Tape in) {
            int n = in.numberFrom(1, MOST_DAYS_AT_ONCE);
            if (n == NONE) {
                return false;
            }
            keep(firsts, n);
            in.advance();
            return true;
        }

        private void keep(int[] row, int value) {
            if (lines >= 0 && lines < row.length) {
                row[lines] = value;
            }
        }

        private boolean readDeed(Tape in, Roster roster) {
            if (in.isWord(Word.SIGNS)) {
                return setAct(in, SIGN) && readForm(in, roster, seconds);
            }
            if (in.isWord(Word.SOFTENS)) {
                return setAct(in, SOFTEN) && readPerson(in, roster, seconds);
            }
            if (in.isWord(Word.RESENTS)) {
                return setAct(in, RESENT) && readPerson(in, roster, seconds);
            }
            if (in.isWord(Word.RETIRES)) {
                return setAct(in, RETIRE);
            }
            if (in.isWord(Word.RETURNS)) {
                return setAct(in, RETURN);
            }
            return in.refuse(NOT_A_TOKEN);
        }

        private boolean setAct(Tape in, int act) {
            keep(acts, act);
            in.advance();
            return true;
        }
    }

    /** What may be said of a FORM, written so that each sign of joining comes behind what it joins. */
    private static final class Sentence {
        private static final int NOT = 0;
        private static final int AND = 1;
        private static final int OR = 2;
        private static final int IS = 3;
        private static final int IS_CLEAR = 4;
        private static final int IS_ABOUT = 5;
        private static final int HURTS = 6;
        private static final int SIGNED_BY = 7;
        private static final int PARTS_SIGNED = 8;
        private static final int DAYS_LEFT = 9;
        private static final int ITS_NUMBER = 10;

        private final int[] kinds = new int[2 * MOST_ONES];
        private final int[] whats = new int[2 * MOST_ONES];
        private final int[] numbers = new int[2 * MOST_ONES];
        private final int[] answers = new int[MOST_ONES];
        private int length = 0;
        int ones = 0;

        void forget() {
            length = 0;
            ones = 0;
        }

        boolean isNone() {
            return ones == 0;
        }

        void copyFrom(Sentence other) {
            System.arraycopy(other.kinds, 0, kinds, 0, 2 * MOST_ONES);
            System.arraycopy(other.whats, 0, whats, 0, 2 * MOST_ONES);
            System.arraycopy(other.numbers, 0, numbers, 0, 2 * MOST_ONES);
            length = other.length;
            ones = other.ones;
        }

        void readText(Tape in, Roster roster) {
            forget();
            in.begin(MOST_SENTENCE);
            if (readCond(in, roster, 1) && in.kind != Tape.END) {
                in.refuse(NOT_A_TOKEN);
            }
        }

        /** An 'or' is written only when the ALL behind it is over: 'and' binds closer. */
        private boolean readCond(Tape in, Roster roster, int within) {
            boolean good = readOne(in, roster, within);
            boolean orWaits = false;
            for (int more = 0; more <= MOST_ONES && good && (in.isWord(Word.AND) || in.isWord(Word.OR)); more++) {
                boolean and = in.isWord(Word.AND);
                if (!and && orWaits) {
                    write(OR, 0, 0);
                }
                orWaits = orWaits || !and;
                in.advance();
                good = readOne(in, roster, within) && (!and || write(AND, 0, 0));
            }
            return good && (!orWaits || write(OR, 0, 0));
        }

        private boolean readOne(Tape in, Roster roster, int within) {
            if (!in.isMark('(') && !beginsOne(in.kind == Tape.WORD ? in.meaning : null)) {
                return in.refuse(NOT_A_TOKEN);
            }
            if (ones >= MOST_ONES || within > MOST_WITHIN) {
                return in.refuse(ONE_TOO_MANY);
            }
            ones++;
            if (in.isMark('(') || in.isWord(Word.NOT)) {
                return readOuterOne(in, roster, within);
            }
            Word word = in.meaning;
            in.advance();
            if (word == Word.ABOUT || word == Word.HURTS || word == Word.SIGNED) {
                return readPersonsOne(in, roster, word);
            }
            if (word == Word.PARTS || word == Word.DAYS || word == Word.NUMBER) {
                return readNumbersOne(in, word);
            }
            return word == Word.CLEAR ? write(IS_CLEAR, 0, 0) : write(IS, howNamed(word), 0);
        }

        /** A ONE that has others within. */
        private boolean readOuterOne(Tape in, Roster roster, int within) {
            boolean not = in.isWord(Word.NOT);
            in.advance();
            if (not) {
                return readOne(in, roster, within + 1) && write(NOT, 0, 0);
            }
            if (!readCond(in, roster, within + 1)) {
                return false;
            }
            if (!in.isMark(')')) {
                return in.refuse(NOT_A_TOKEN);
            }
            in.advance();
            return true;
        }

        private static boolean beginsOne(Word word) {
            return word == Word.NOT || word == Word.CLEAR || howNamed(word) != NONE
                    || word == Word.ABOUT || word == Word.HURTS || word == Word.SIGNED
                    || word == Word.PARTS || word == Word.DAYS || word == Word.NUMBER;
        }

        private static int howNamed(Word word) {
            if (word == Word.OPEN) {
                return OPEN;
            }
            if (word == Word.FILED) {
                return FILED;
            }
            if (word == Word.GRANTED) {
                return GRANTED;
            }
            return word == Word.VOIDED ? VOIDED : NONE;
        }

        private boolean readPersonsOne(Tape in, Roster roster, Word word) {
            int p = roster.personRead(in);
            if (p == NONE) {
                return false;
            }
            in.advance();
            if (word == Word.ABOUT) {
                return write(IS_ABOUT, p, 0);
            }
            return word == Word.HURTS ? write(HURTS, p, 0) : write(SIGNED_BY, p, 0);
        }

        private boolean readNumbersOne(Tape in, Word word) {
            if (!in.isMark('<') && !in.isMark('=') && !in.isMark('>')) {
                return in.refuse(NOT_A_TOKEN);
            }
            int sign = in.value;
            in.advance();
            int number = in.numberFrom(0, 999);
            if (number == NONE) {
                return false;
            }
            in.advance();
            if (word == Word.PARTS) {
                return write(PARTS_SIGNED, sign, number);
            }
            return word == Word.DAYS ? write(DAYS_LEFT, sign, number) : write(ITS_NUMBER, sign, number);
        }

        private boolean write(int kind, int what, int number) {
            if (length < 0 || length >= kinds.length) {
                return false;
            }
            kinds[length] = kind;
            whats[length] = what;
            numbers[length] = number;
            length++;
            return true;
        }

        /** The FORMS of which it may be said, as bits: each step answers for all FORMS at once. */
        int formsItIsSaidOf(Standing standing) {
            int all = (1 << standing.roster.forms) - 1;
            int top = 0;
            for (int i = 0; i < length && i < kinds.length; i++) {
                boolean joins = kinds[i] == AND || kinds[i] == OR;
                if (joins && top >= 2 && top <= answers.length) {
                    top--;
                    int both = answers[top - 1] & answers[top];
                    int either = answers[top - 1] | answers[top];
                    answers[top - 1] = kinds[i] == AND ? both : either;
                } else if (kinds[i] == NOT && top >= 1 && top <= answers.length) {
                    answers[top - 1] = all & ~answers[top - 1];
                } else if (top >= 0 && top < answers.length) {
                    answers[top] = formsWith(standing, i);
                    top++;
                }
            }
            return top > 0 ? answers[0] : 0;
        }

        private int formsWith(Standing standing, int i) {
            int forms = 0;
            for (int f = 0; f < standing.roster.forms; f++) {
                if (isSo(standing, f, i)) {
                    forms |= 1 << f;
                }
            }
            return forms;
        }

        private boolean isSo(Standing standing, int f, int i) {
            if (i < 0 || i >= kinds.length) {
                return false;
            }
            switch (kinds[i]) {
                case IS:
                    return standing.howIs(f) == whats[i];
                case IS_CLEAR:
                    return standing.hurtOf(f) == NONE;
                case IS_ABOUT:
                    return standing.roster.aboutOf(f) == whats[i];
                case HURTS:
                    return standing.hurtOf(f) == whats[i];
                case SIGNED_BY:
                    return standing.hasSigned(whats[i], f);
                case PARTS_SIGNED:
                    return compares(standing.partsSigned(f), whats[i], numbers[i]);
                case DAYS_LEFT:
                    return compares(standing.daysLeft(f), whats[i], numbers[i]);
                default:
                    return compares(f, whats[i], numbers[i]);
            }
        }

        private static boolean compares(int value, int sign, int number) {
            if (sign == '<') {
                return value < number;
            }
            return sign == '=' ? value == number : value > number;
        }
    }
}
