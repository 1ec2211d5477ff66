/**
 * The boundary cases that the document names, sentence by sentence in its order: what is just in, what is just out,
 * what is empty, full, refused or wraps around. Above each method stand the sentences that it holds to.
 */
public final class BoundariesTest {
    private static final int NONE = TriplicateForms.NONE;
    private static final int[] FAR = {Integer.MIN_VALUE, -1000, -33, -32, -31, -8, -2, -1, 31, 32, 33, 64, 1000,
        1 << 30, Integer.MAX_VALUE};
    private static final String[] RESERVED = ("person retired grudge shy form rule drawer any signs softens resents"
            + " retires returns void lodge day or and not open filed granted voided clear about hurts signed parts days"
            + " number").split(" ");

    // f is about a: b is HURT, d may be its THIRD, c is in the drawer too but shy of a; g is about b and CLEAR.
    private static final String OFFICE = "person a;person b;person c retired;person d retired;person e;"
            + "grudge b a 3;shy c a;form f a 2;form g b 1;";
    private static final String SMALL = "person a;person b;person c retired;grudge b a 1;form f a 1;";
    private static final String EIGHT = "person a;person b;person c;person d;person e;person f;person g;person h;";

    private BoundariesTest() {
    }

    public static void main(String[] args) {
        texts();
        forms();
        lookingAhead();
        betweenTermsAndPromises();
        promisesOfTheState();
        promisesOfActs();
        promisesOfAnswers();
        promisesOfTexts();
        Desk.finish("BoundariesTest");
    }

    private static void texts() {
        everyByte();
        wordsAndNumbers();
        officeBytes();
        grudgeLines();
        shyLines();
        formLines();
        ruleLines();
        names();
        eightOfEach();
        allOfAFullOffice();
        bookBytesAndLines();
        bookDays();
        bookOrder();
        sentenceBytes();
        sentenceOnes();
        sentenceJoins();
        sentenceNumbers();
        faultAtTheEnd();
        faultAtTheMostBytes();
        faultOfNames();
        faultsOfOneToken();
    }

    private static void forms() {
        whoIsHurt();
        whoIsThird();
        whatIsClear();
        whyNotSign();
        whyNotOthers();
        aDayGoes();
        the400thDay();
    }

    private static void lookingAhead() {
        canWhetherHeSigned();
        whenTodayOrTomorrow();
        whenByDay400();
        matchOfLikeOnes();
        fitsTheTape();
        askOfLikeOnes();
        coverOfLikeOnes();
        easedByLittle();
        stampOfAll();
        drawsWrap();
    }

    private static void betweenTermsAndPromises() {
        aNewOffice();
        throwingChangesNothing();
        theLastCall();
    }

    private static void promisesOfTheState() {
        aNewObject();
        feedAndEnd();
        officeStays();
        faultOfTheLatest();
        formAndPerson();
        grudgeAndNow();
    }

    private static void promisesOfActs() {
        noSuchOnes();
        refusedActs();
        daysGoBy();
        undoKeepsEight();
        undoOfEachAct();
    }

    private static void promisesOfAnswers() {
        partIfNobodySigned();
        matchedByTheLatest();
        askAndCoveringByTheLatest();
        servedByRules();
        martyrOfLikeOnes();
        stampAndByteAt();
        drawnDays();
        oddsOfSeeds();
    }

    private static void promisesOfTexts() {
        bookLives();
        toldOfTheLatest();
        sentenceStays();
        saidOfForms();
        imagesAndRestore();
    }

    // ------------------------------------------------------------------ what the methods below share

    private static void due(String call, long got, long want) {
        Desk.due(call, got, want);
    }

    private static void due(String call, boolean got, boolean want) {
        Desk.due(call, got, want);
    }

    private static void officeIs(String text, int lines) {
        TriplicateForms x = new TriplicateForms();
        due("office '" + text + "'", Desk.office(x, text), lines);
        due("fault of office '" + text + "'", x.fault(), 0);
    }

    private static void officeFault(String text, int place, int kind) {
        TriplicateForms x = new TriplicateForms();
        due("office '" + text + "'", Desk.office(x, text), -1 - place);
        due("fault of office '" + text + "'", x.fault(), kind);
        due("tape behind office '" + text + "'", x.count(3), 0);
    }

    private static void bookIs(String text, int wrong) {
        TriplicateForms x = Desk.with(OFFICE);
        due("book '" + text + "'", Desk.book(x, text, 0), wrong);
        due("fault of book '" + text + "'", x.fault(), 0);
    }

    private static void bookFault(String text, int place, int kind) {
        TriplicateForms x = Desk.with(OFFICE);
        String before = picture(x);
        due("book '" + text + "'", Desk.book(x, text, 1), -2 - place);
        due("fault of book '" + text + "'", x.fault(), kind);
        dueAsBefore("book '" + text + "'", x, before);
    }

    private static void sentenceIs(String text, int ones) {
        TriplicateForms x = Desk.with(OFFICE);
        due("sentence '" + text + "'", Desk.sentence(x, text), ones);
        due("fault of sentence '" + text + "'", x.fault(), 0);
    }

    private static void sentenceFault(String text, int place, int kind) {
        TriplicateForms x = Desk.with(OFFICE);
        String before = picture(x);
        due("sentence '" + text + "'", Desk.sentence(x, text), -1 - place);
        due("fault of sentence '" + text + "'", x.fault(), kind);
        dueAsBefore("sentence '" + text + "'", x, before);
    }

    /** The FORMS that a SENTENCE is said of, as bits. */
    private static int saidOf(TriplicateForms x, String text) {
        due("sentence '" + text + "' is one", Desk.sentence(x, text) > 0, true);
        int forms = 0;
        for (int k = 0; k < x.said(NONE); k++) {
            forms |= 1 << x.said(k);
        }
        return forms;
    }

    /** What an object answers of its state, as one text. */
    private static String picture(TriplicateForms x) {
        StringBuilder text = new StringBuilder();
        for (int what = 0; what < 8; what++) {
            text.append(x.now(what)).append(' ');
        }
        for (int what = 0; what < 4; what++) {
            text.append(x.count(what)).append(' ').append(x.told(what)).append(' ');
        }
        for (int p = 0; p < x.count(0); p++) {
            for (int what = 0; what < 5; what++) {
                text.append(x.person(p, what)).append(' ');
            }
            for (int q = 0; q < x.count(0); q++) {
                text.append(x.grudge(p, q)).append(' ');
            }
            text.append(x.matched(p)).append(' ');
        }
        for (int f = 0; f < x.count(1); f++) {
            for (int what = 0; what < 7; what++) {
                text.append(x.form(f, what)).append(' ');
            }
        }
        for (int i = 0; i < 40; i++) {
            text.append(x.byteAt(i)).append(' ');
        }
        return text.append(x.said(NONE)).append(' ').append(x.ask()).append(' ').append(x.covering()).toString();
    }

    private static void dueAsBefore(String call, TriplicateForms x, String before) {
        String now = picture(x);
        due(call + " leaves '" + before + "', is '" + now + "'", now.equals(before), true);
    }

    private static TriplicateForms onDay(int day, String office) {
        TriplicateForms x = Desk.with(office);
        while (x.now(0) < day) {
            x.days(Math.min(60, day - x.now(0)));
        }
        return x;
    }

    private static void resent(TriplicateForms x, int p, int q, int times) {
        for (int i = 0; i < times; i++) {
            due("resent(" + p + ", " + q + ")", x.resent(p, q), 0);
        }
    }

    private static void soften(TriplicateForms x, int p, int q, int times) {
        for (int i = 0; i < times; i++) {
            due("soften(" + p + ", " + q + ")", x.soften(p, q), 0);
        }
    }

    /** The three PERSONS told sign a FORM on this DAY. */
    private static void file(TriplicateForms x, int f, int about, int hurt, int third) {
        due("about signs " + f, x.sign(about, f), 0);
        due("hurt signs " + f, x.sign(hurt, f), 0);
        due("third signs " + f, x.sign(third, f), 0);
        due(f + " is filed", x.form(f, 5), 1);
    }

    // ------------------------------------------------------------------ Terms 1

    /**
     * "TOKENS of all texts, with blanks (32, 10) between them or not: WORDS: small letters .. ; < = > ( ) . (.. what is
     * not as told is no TOKEN.)"
     */
    private static void everyByte() {
        for (int sign = 0; sign < 256; sign++) {
            boolean blank = sign == 32 || sign == 10;
            boolean letter = sign >= 'a' && sign <= 'z';
            boolean digit = sign >= '0' && sign <= '9';
            TriplicateForms x = new TriplicateForms();
            due("byte " + sign + " as a NAME", Desk.office(x, "person " + (char) sign + ";"),
                    letter ? 1 : blank ? -9 : -8);
            due("fault of byte " + sign + " as a NAME", x.fault(), letter ? 0 : 1);
            due("byte " + sign + " behind a LINE", Desk.office(x, "person a;" + (char) sign), blank ? 1 : -10);
            due("fault of byte " + sign + " behind a LINE", x.fault(), blank ? 0 : 1);
            due("byte " + sign + " behind a NAME", Desk.office(x, "person a" + (char) sign + ";"),
                    blank || letter ? 1 : digit ? -8 : sign == ';' ? -10 : -9);
            due("byte " + sign + " as a SIGN", Desk.sentence(x, "parts" + (char) sign + "1") > 0,
                    sign == '<' || sign == '=' || sign == '>');
        }
        officeIs("person a;form f a 1;", 2);
        officeIs(" \n person \n a\n\n;  form\nf\na\n1\n;\n", 2);
        sentenceIs("not(open)and(parts<1 or days>1 or number=1)", 7);
    }

    /** "WORDS: small letters, 1 to 7; NUMBERS: 1 to 3 digits .. (A WORD, NUMBER goes on as long as .. do ..)" */
    private static void wordsAndNumbers() {
        officeIs("person a;", 1);
        officeIs("person abcdefg;", 1);
        officeFault("person abcdefgh;", 7, 1);
        officeFault("personab;", 0, 1);
        officeFault("persona;", 0, 1);
        officeFault("person a1;", 7, 1);
        officeFault("person 1a;", 7, 1);
        officeFault("person a 1;", 9, 1);
        officeFault("person aA;", 8, 1);
        officeIs("person a;form f a 1;form g a 01;form h a 001;", 4);
        officeFault("person a;form f a 0001;", 18, 1);
        officeFault("person a;form f a 1b;", 18, 1);
        officeFault("person a;form f a1;", 16, 1);
        officeFault("person abcdefghijklmnopqrstuvwxyzabcdefghijklmnopqrstuvwxyz;", 7, 1);
        officeFault("person a;form f a 4294967297;", 18, 1);
        officeFault("person a;form f a 1 0059", 20, 1);
        TriplicateForms x = Desk.with("person abcdefg;form gfedcba abcdefg 1;");
        Desk.dueText("a NAME of seven", Desk.stamped(x, 0), "gfedcba is clear");
        officeIs("person a;person aa;person aaa;person abcdefg;person abcdef;person bcdefg;", 6);
    }

    /** "An OFFICE is a text of at most 900 bytes: { LINE ; }." */
    private static void officeBytes() {
        officeIs("", 0);
        officeIs(" ", 0);
        officeIs("\n", 0);
        officeFault(";", 0, 1);
        officeFault("person a", 8, 1);
        officeFault("person a;;", 9, 1);
        officeIs("person a;" + " ".repeat(890), 1);
        officeIs("person a;" + " ".repeat(891), 1);
        officeFault("person a;" + " ".repeat(892), 900, 1);
        officeFault("person a;" + " ".repeat(931), 900, 1);
        officeIs(" ".repeat(891) + "person a;", 1);
        officeFault(" ".repeat(892) + "person a;", 900, 1);
        officeIs(" ".repeat(900), 0);
        officeFault(" ".repeat(901), 900, 1);
    }

    /**
     * "'grudge' PERSON PERSON N (the first one's against the second; unlike; each two once, as told; 1 to 9; 0
     * without)"
     */
    private static void grudgeLines() {
        String two = "person a;person b;";
        TriplicateForms x = Desk.with(two + "grudge a b 1;grudge b a 9;");
        due("a's against b", x.grudge(0, 1), 1);
        due("b's against a", x.grudge(1, 0), 9);
        x = Desk.with(two + "grudge a b 2;");
        due("0 without", x.grudge(1, 0), 0);
        due("each two once in each OFFICE", Desk.office(x, two + "grudge a b 1;grudge b a 2;"), 4);
        due("a FAULT behind it", Desk.office(x, two + "grudge a b 9;grudge b a 9;;"), -45);
        due("as told ahead of it", x.grudge(1, 0), 2);
        due("none of it in the next one", Desk.office(x, two), 2);
        due("no grudges", x.now(7), 0);
        officeFault(two + "grudge a b 0;", 29, 2);
        officeFault(two + "grudge a b 000;", 29, 2);
        officeFault(two + "grudge a b 10;", 29, 2);
        officeFault(two + "grudge a b 999;", 29, 2);
        officeFault(two + "grudge a b 1000;", 29, 1);
        officeFault(two + "grudge a b;", 28, 1);
        officeFault(two + "grudge a a 1;", 27, 3);
        officeFault(two + "grudge a b 1;grudge a b 2;", 40, 3);
        officeFault(two + "grudge a b 1;grudge b a 2;grudge b a 2;", 53, 3);
    }

    /** "'shy' PERSON PERSON (the first of the second; likewise)" */
    private static void shyLines() {
        String two = "person a;person b;";
        TriplicateForms x = Desk.with(two + "shy b a;");
        due("b is shy of a", x.person(1, 4), 1);
        due("a of nobody", x.person(0, 4), 0);
        x = Desk.with(two + "shy b a;shy a b;");
        due("a of b too", x.person(0, 4), 2);
        officeFault(two + "shy a a;", 24, 3);
        officeFault(two + "shy a b;shy a b;", 32, 3);
        officeFault(two + "shy a b 1;", 26, 1);
        due("each two once in each OFFICE", Desk.office(x, two + "shy a b;shy b a;"), 4);
        due("a FAULT behind it", Desk.office(x, two + "shy a b;shy b a;;"), -35);
        due("none of it in the next one", Desk.office(x, two), 2);
        due("a is shy of nobody", x.person(0, 4), 0);
        due("b is shy of nobody", x.person(1, 4), 0);
        x = Desk.with(EIGHT + "shy h a;shy h g;shy a h;");
        due("h is shy of the first and the last but one", x.person(7, 4), 65);
        due("a is shy of the last", x.person(0, 4), 128);
    }

    /** "'form' NAME PERSON DAYS (whom it is about; 1 to 9)" */
    private static void formLines() {
        TriplicateForms x = Desk.with("person a;person b;form f b 1;form g a 9;");
        due("whom f is about", x.form(0, 0), 1);
        due("1 is the least", x.form(0, 6), 1);
        due("whom g is about", x.form(1, 0), 0);
        due("9 is the most", x.form(1, 6), 9);
        officeFault("person a;form f a 0;", 18, 2);
        officeFault("person a;form f a 10;", 18, 2);
        officeFault("person a;form f a 11;", 18, 2);
        officeFault("person a;form f a;", 17, 1);
        officeFault("form f a 1;", 7, 3);
    }

    /** "'rule' RULE (RULE: 'drawer', 'any'; once; drawer without)"; "'rule' told again (at it)" */
    private static void ruleLines() {
        due("drawer without", Desk.with("person a;").count(2), 0);
        due("drawer", Desk.with("rule drawer;").count(2), 0);
        due("any", Desk.with("rule any;").count(2), 1);
        TriplicateForms x = Desk.with("rule any;");
        Desk.office(x, "person a;");
        due("drawer without, behind an OFFICE with any", x.count(2), 0);
        due("once in each OFFICE", Desk.office(x, "rule any;"), 1);
        due("once in each OFFICE, again", Desk.office(x, "rule any;person a;"), 2);
        Desk.office(x, "rule drawer;rule any;");
        due("any, with a FAULT behind it", x.count(2), 1);
        due("once in each OFFICE, behind a FAULT", Desk.office(x, "rule drawer;"), 1);
        officeFault("rule any;rule any;", 9, 3);
        officeFault("rule drawer;rule any;", 12, 3);
        officeFault("rule any;person a;rule 7", 18, 3);
        officeFault("rule a;", 5, 1);
        officeFault("rule;", 4, 1);
    }

    /** "NAME: a WORD, none of those told here, in a BOOK or a SENTENCE; told once." */
    private static void names() {
        due("reserved WORDS", RESERVED.length, 30);
        for (String word : RESERVED) {
            officeFault("person " + word + ";", 7, 1);
            officeFault("person a;form " + word + " a 1;", 14, 1);
            officeFault("person a;grudge a " + word + " 1;", 18, 1);
            officeIs("person " + word.charAt(0) + ";", 1);
            String near = word.length() < 7 ? word + "x" : word.substring(0, 6);
            officeIs("person " + near + ";", 1);
        }
        officeFault("person a;person a;", 16, 3);
        officeFault("person a;form a a 1;", 14, 3);
        officeFault("person a;form f a 1;form f a 1;", 25, 3);
        officeFault("person a;form f a 1;person f;", 27, 3);
        officeIs("person a;person b;form ab a 1;form ba b 1;", 4);
    }

    /** "8 PERSONS, 8 FORMS at most, numbered from 0 each. Who is RETIRED is in the drawer." */
    private static void eightOfEach() {
        officeFault(EIGHT + "person i;", 72, 4);
        officeFault(EIGHT + "person", 72, 4);
        officeFault(EIGHT + "person ;", 72, 4);
        StringBuilder forms = new StringBuilder();
        for (char name = 'p'; name <= 'w'; name++) {
            forms.append("form ").append(name).append(" h 1;");
        }
        TriplicateForms x = Desk.with(EIGHT.replace("person h;", "person h retired;") + forms);
        due("eight PERSONS", x.count(0), 8);
        due("eight FORMS", x.count(1), 8);
        due("the last PERSON is 7", x.form(0, 0), 7);
        due("the last one is in the drawer", x.now(6), 128);
        due("he is RETIRED", x.person(7, 0), 1);
        due("the others are not", x.person(6, 0), 0);
        Desk.dueText("the first FORM is 0", Desk.stamped(x, 0), "p is clear");
        Desk.dueText("the last FORM is 7", Desk.stamped(x, 7), "w is clear");
        officeFault(EIGHT + forms + "form x h 1;", 160, 4);
        officeFault(EIGHT + forms + " form", 161, 4);
        officeIs(EIGHT + forms + "rule any;shy a b;grudge a b 1;", 19);
    }

    /** "8 PERSONS, 8 FORMS at most": what is answered of the last ones, as of all others */
    private static void allOfAFullOffice() {
        StringBuilder forms = new StringBuilder();
        for (char name = 'p'; name <= 'w'; name++) {
            forms.append("form ").append(name).append(' ').append((char) (name - 'p' + 'a')).append(" 9;");
        }
        TriplicateForms x = Desk.with(EIGHT + forms + "grudge h g 9;grudge a h 1;");
        due("all eight", x.match(), 8);
        for (int p = 0; p < 8; p++) {
            due("matched(" + p + ")", x.matched(p), p == 7 ? 6 : p);
            due("can(" + p + ")", x.can(p), 1 << p | (p == 7 ? 1 : p == 6 ? 128 : 0));
            due("fits()", Desk.fits(x, p), 1 << p | (p == 7 ? 64 : p == 0 ? 128 : 0));
            due("sign(" + p + ", " + p + ")", x.sign(p, p), 0);
        }
        due("a and h are HURT", x.now(5), 63);
        due("the two have nobody in the drawer", x.served(0), 0);
        due("six each by 'any'", x.served(1), 2);
        due("all are still OPEN", x.now(1), 255);
        due("signed by h", saidOf(x, "signed h"), 128);
        due("about h", saidOf(x, "about h"), 128);
        due("hurts h", saidOf(x, "hurts h"), 64);
        due("number>6", saidOf(x, "number>6"), 128);
        due("eight parts are undone", x.undo(), 7);
        due("the last one's is not signed", x.form(7, 2), NONE);
        due("the last but one's is", x.form(6, 2), 6);
        due("image", x.image(1), true);
        x.days(1);
        x.sign(7, 7);
        x.cancel(6);
        due("restore", x.restore(1), true);
        due("the last one's is not signed", x.form(7, 2), NONE);
        due("the last but one's is", x.form(6, 2), 6);
        due("each but the last signed on this DAY", x.match(), 1);
        due("h is HURT by the last but one and ABOUT the last: the least FORM", x.matched(7), 6);
        x.retire(1);
        due("b for both", x.cover(), 1);
        due("b", x.covering(), 2);
        due("a is HURT by the last", x.eased(7, 0), 0);
        due("a and h by one each", x.martyr(), 0);
        Desk.dueText("the last", Desk.stamped(x, 7), "w wants about hurt third");
        due("g is a PERSON", Desk.book(x, "h signs g;", 0), -10);
        due("h signs the last", Desk.book(x, "h signs w;day 9;h signs v;b signs w;a signs w;b signs v;", 1), 5);
        due("b signed today", x.told(0), 2);
        x.days(1);
        due("b signs v", Desk.book(x, "b signs v;day 9;", 1), NONE);
        due("the last two are GRANTED", x.now(3), 192);
        due("a's grudge against h grew", x.grudge(0, 7), 2);
        due("h's against g was 9", x.grudge(7, 6), 9);
        due("odds of the last", x.odds(7, 30, 1), 30);
    }

    /** "A BOOK is a text of at most 400 bytes: { LINE ; }, 40 at most" */
    private static void bookBytesAndLines() {
        bookIs("", NONE);
        bookIs("\n \n", NONE);
        bookFault(";", 0, 1);
        bookFault("day 1", 5, 1);
        bookFault("day 1;;", 6, 1);
        bookIs("day 1;" + " ".repeat(394), NONE);
        bookFault("day 1;" + " ".repeat(395), 400, 1);
        bookIs(" ".repeat(394) + "day 1;", NONE);
        bookFault(" ".repeat(395) + "day 1;", 400, 1);
        String forty = "day 1;".repeat(39) + "void f;";
        bookIs(forty, NONE);
        TriplicateForms x = Desk.with(OFFICE);
        Desk.book(x, forty, 0);
        due("all 40 LINES", x.told(1), 40);
        bookFault(forty + "day 1;", 241, 4);
        bookFault(forty + "void f;", 241, 4);
        bookFault(forty + "lodge f;", 241, 4);
        bookFault(forty + "a retires;", 241, 4);
        bookFault(forty + "\na", 242, 4);
    }

    /** "'day' N (1 to 60)" */
    private static void bookDays() {
        bookFault("day 0;", 4, 2);
        bookFault("day 000;", 4, 2);
        bookIs("day 1;", NONE);
        bookIs("day 060;", NONE);
        bookFault("day 61;", 4, 2);
        bookFault("day 999;", 4, 2);
        bookFault("day 1000;", 4, 1);
        bookFault("day;", 3, 1);
    }

    /** "LINE: PERSON ( 'signs' FORM | 'softens' PERSON | .. | 'returns' ) | 'void' FORM | 'lodge' FORM" */
    private static void bookOrder() {
        bookIs("a signs f;b softens a;a resents e;a retires;c returns;void g;lodge g;day 1;", NONE);
        bookFault("a;", 1, 1);
        bookFault("a", 1, 1);
        bookFault("a signs;", 7, 1);
        bookFault("a softens;", 9, 1);
        bookFault("a resents;", 9, 1);
        bookFault("a retires b;", 10, 1);
        bookFault("a returns b;", 10, 1);
        bookFault("void;", 4, 1);
        bookFault("lodge;", 5, 1);
        bookFault("void f g;", 7, 1);
        bookFault("a retired;", 2, 1);
        bookFault("rule any;", 0, 1);
        bookFault("7;", 0, 1);
    }

    /** "A SENTENCE is a text of at most 200 bytes" */
    private static void sentenceBytes() {
        sentenceFault("", 0, 1);
        sentenceFault(" \n", 2, 1);
        sentenceIs("open" + " ".repeat(196), 1);
        sentenceFault("open" + " ".repeat(197), 200, 1);
        sentenceIs(" ".repeat(196) + "open", 1);
        sentenceFault(" ".repeat(197) + "open", 200, 1);
        sentenceFault("open;", 4, 1);
        sentenceFault("open or", 7, 1);
        sentenceFault("or open", 0, 1);
        sentenceFault("not", 3, 1);
        sentenceFault("()", 1, 1);
        sentenceFault("(open", 5, 1);
        sentenceFault("open)", 4, 1);
        sentenceFault("(open))", 6, 1);
    }

    /** "20 ONES, 8 within one another."; promise 37 counts "each not, bracket and other one" */
    private static void sentenceOnes() {
        String twenty = "open" + " or open".repeat(19);
        sentenceIs(twenty, 20);
        sentenceFault(twenty + " or open", 160, 4);
        sentenceFault(twenty + " and not open", 161, 4);
        sentenceFault(twenty + " or (open)", 160, 4);
        sentenceFault(twenty + " or about a", 160, 4);
        sentenceFault(twenty + " or parts=1", 160, 4);
        String eighteen = "open" + " or open".repeat(17);
        sentenceIs(eighteen + " or not open", 20);
        sentenceIs(eighteen + " or (open)", 20);
        sentenceFault(eighteen + " or not not open", 152, 4);
        sentenceFault(eighteen + " or (not open)", 149, 4);
        sentenceFault(eighteen + " or (open or open)", 153, 4);
        sentenceIs("(((((((open)))))))", 8);
        sentenceFault("((((((((open))))))))", 8, 4);
        sentenceFault("(((((((((", 8, 4);
        sentenceIs("not ".repeat(7) + "open", 8);
        sentenceFault("not ".repeat(8) + "open", 32, 4);
        sentenceFault("not ".repeat(9) + "open", 32, 4);
        sentenceIs("not(not(not(not open)))", 8);
        sentenceFault("not(not(not(not(open))))", 16, 4);
        sentenceIs("(((((((open or open)))))))or(((((open)))))", 15);
        sentenceFault("(((((((open or not open)))))))", 19, 4);
    }

    /** "COND: ALL { 'or' ALL }. ALL: ONE { 'and' ONE }. ONE: 'not' ONE | ( COND ) | .." */
    private static void sentenceJoins() {
        TriplicateForms x = Desk.with("person a;form p a 1;form q a 1;form r a 1;form s a 1;");
        due("two", saidOf(x, "number=0 or number=2"), 5);
        due("none", saidOf(x, "number=0 and number=2"), 0);
        due("'and' is closer, ahead", saidOf(x, "number=0 and number=1 or number=3"), 8);
        due("'and' is closer, behind", saidOf(x, "number=3 or number=0 and number=1"), 8);
        due("brackets ahead", saidOf(x, "(number=3 or number=0) and number<2"), 1);
        due("brackets behind", saidOf(x, "number>1 and (number=3 or number=0)"), 8);
        due("'not' is closest", saidOf(x, "not number=0 and number<2"), 2);
        due("'not' of brackets", saidOf(x, "not(number=0 or number=3)"), 6);
        due("'not not'", saidOf(x, "not not number=0"), 1);
        due("'and' and 'and'", saidOf(x, "number>0 and number<3 and not number=1"), 4);
        due("'or' and 'or'", saidOf(x, "number=0 or number=1 or number=3"), 11);
        due("three ALLS", saidOf(x, "number<2 and number>0 or number=0 or number>2 and open"), 11);
        due("twenty ONES", saidOf(x, "filed or ".repeat(19) + "number=2"), 4);
        due("eight within", saidOf(x, "not(not(not(not number=1)))"), 2);
        due("brackets in brackets", saidOf(x, "((number=0 or number=1)and(number=1 or number=2))or(number=3)"), 10);
        Desk.sentence(x, "not(number=0)and(number=9 or number=1 or number=2 or number=7 or number=8 or number=9)"
                + "and not not open and number<2 and open and clear and parts=0");
        x.image(1);
        Desk.sentence(x, "filed or ".repeat(19) + "filed");
        due("none is filed", x.said(NONE), 0);
        x.restore(1);
        due("a long SENTENCE that was kept", x.said(NONE), 1);
        due("a long SENTENCE that was kept", x.said(0), 1);
    }

    /** "( 'parts' | 'days' | 'number' ) SIGN NUMBER": any NUMBER, the SIGNS at their edges */
    private static void sentenceNumbers() {
        sentenceIs("parts=0", 1);
        sentenceIs("days<999", 1);
        sentenceFault("number>1000", 7, 1);
        sentenceFault("parts 1", 6, 1);
        sentenceFault("parts=", 6, 1);
        sentenceFault("parts=a", 6, 1);
        sentenceFault("parts<=1", 6, 1);
        TriplicateForms x = Desk.with(OFFICE);
        x.sign(0, 0);
        due("parts<1", saidOf(x, "parts<1"), 2);
        due("parts=1", saidOf(x, "parts=1"), 1);
        due("parts>1", saidOf(x, "parts>1"), 0);
        due("parts>0", saidOf(x, "parts>0"), 1);
        due("days<2", saidOf(x, "days<2"), 2);
        due("days=2", saidOf(x, "days=2"), 1);
        due("days>2", saidOf(x, "days>2"), 0);
        due("number<1", saidOf(x, "number<1"), 1);
        due("number=1", saidOf(x, "number=1"), 2);
        due("number>1", saidOf(x, "number>1"), 0);
        x.sign(1, 0);
        x.sign(3, 0);
        due("signed as ABOUT", saidOf(x, "signed a"), 1);
        due("signed as HURT", saidOf(x, "signed b"), 1);
        due("signed as THIRD", saidOf(x, "signed d"), 1);
        due("signed by none", saidOf(x, "signed e"), 0);
        due("hurts", saidOf(x, "hurts b"), 1);
        due("hurts none", saidOf(x, "hurts a"), 0);
        x.days(1);
        due("DAYS that are left, if it is FILED", saidOf(x, "days=1"), 3);
        x.cancel(0);
        due("else as told", saidOf(x, "days=2"), 1);
        due("VOIDED, all parts are signed still", saidOf(x, "parts=3"), 1);
        x.undo();
        x.days(1);
        due("0 if it is GRANTED", saidOf(x, "days=0"), 1);
    }

    /** "1 no TOKEN, or one that can't come (at it; the end: how many bytes there are ..)" */
    private static void faultAtTheEnd() {
        officeFault("person", 6, 1);
        officeFault("person ", 7, 1);
        officeFault("person a\n\n", 10, 1);
        officeFault("person a;grudge a", 17, 1);
        officeFault("person a" + " ".repeat(892), 900, 1);
        bookFault("day", 3, 1);
        bookFault("day 1 ", 6, 1);
        bookFault("day 1" + " ".repeat(395), 400, 1);
        sentenceFault("not ", 4, 1);
        sentenceFault("about", 5, 1);
        sentenceFault("(open" + " ".repeat(195), 200, 1);
    }

    /** "the most bytes told, if there are more and no FAULT is ahead: TOKENS that begin ahead of it are read whole" */
    private static void faultAtTheMostBytes() {
        officeFault("person a" + " ".repeat(893), 900, 1);
        officeFault(" ".repeat(899) + "person a;", 900, 1);
        officeFault(" ".repeat(899) + "personx", 899, 1);
        officeFault(" ".repeat(894) + "person" + "x", 894, 1);
        officeFault("person a;" + " ".repeat(890) + "persons", 899, 1);
        officeFault("person a;person " + " ".repeat(883) + "a;", 899, 3);
        officeFault("person a;person " + " ".repeat(884) + "a;", 900, 1);
        officeFault(EIGHT + " ".repeat(827) + "person i;", 899, 4);
        officeFault(EIGHT + " ".repeat(828) + "person i;", 900, 1);
        officeFault("person a;form f a " + " ".repeat(881) + "10;", 899, 2);
        officeFault("person a;form f a " + " ".repeat(882) + "10;", 900, 1);
        officeFault("x" + " ".repeat(930), 0, 1);
        officeFault(" ".repeat(900) + "x", 900, 1);
        bookFault("day " + " ".repeat(395) + "61;", 399, 2);
        bookFault("day " + " ".repeat(396) + "61;", 400, 1);
        bookFault(" ".repeat(399) + "zoe", 399, 3);
        bookFault(" ".repeat(400) + "zoe", 400, 1);
        bookFault("day 1;".repeat(40) + " ".repeat(159) + "void", 399, 4);
        bookFault("day 1;".repeat(40) + " ".repeat(160) + "void", 400, 1);
        sentenceFault("about " + " ".repeat(193) + "zoe", 199, 3);
        sentenceFault("about " + " ".repeat(194) + "zoe", 200, 1);
        sentenceFault("open" + " ".repeat(195) + "clear", 199, 1);
        sentenceFault("not " + " ".repeat(195) + "open", 200, 1);
        sentenceFault("not ".repeat(8) + " ".repeat(167) + "open", 199, 4);
    }

    /**
     * "3 a NAME told twice, not told, or of another sort, two that must be unlike, or were told together (at the
     * second)"
     */
    private static void faultOfNames() {
        String two = "person a;person b;form f a 1;";
        officeFault(two + "grudge zoe a 1;", 36, 3);
        officeFault(two + "grudge a zoe 1;", 38, 3);
        officeFault(two + "grudge f a 1;", 36, 3);
        officeFault(two + "grudge a f 1;", 38, 3);
        officeFault(two + "shy f a;", 33, 3);
        officeFault(two + "shy a f;", 35, 3);
        officeFault(two + "form g f 1;", 36, 3);
        officeFault(two + "form g g 1;", 36, 3);
        bookFault("zoe retires;", 0, 3);
        bookFault("f retires;", 0, 3);
        bookFault("a signs b;", 8, 3);
        bookFault("a signs zoe;", 8, 3);
        bookFault("a softens f;", 10, 3);
        bookFault("a resents f;", 10, 3);
        bookFault("void a;", 5, 3);
        bookFault("lodge a;", 6, 3);
        sentenceFault("about f", 6, 3);
        sentenceFault("hurts zoe", 6, 3);
        sentenceFault("signed f", 7, 3);
    }

    /** "FAULTS, the first along the text, of one TOKEN the least" */
    private static void faultsOfOneToken() {
        officeFault("person a;grudge a a 0;", 18, 3);
        officeFault("person a;grudge zoe zoe 10;", 16, 3);
        officeFault("person a;person b;grudge a b 0", 29, 2);
        String forty = "day 1;".repeat(40);
        bookFault(forty + "zoe retires;", 240, 3);
        bookFault(forty + "f retires;", 240, 3);
        bookFault(forty + ";", 240, 1);
        bookFault(forty + "signs", 240, 1);
        bookFault(forty + "A", 240, 1);
        bookFault("day 61;" + forty + "day 1;", 4, 2);
        String twenty = "open" + " or open".repeat(19);
        sentenceFault(twenty + " or", 159, 1);
        sentenceFault(twenty + " or zoe", 160, 1);
        sentenceFault(twenty + " or )", 160, 1);
        sentenceFault("((((((((zoe", 8, 1);
        sentenceFault("((((((((", 8, 1);
        sentenceFault("about zoe" + " or open".repeat(20), 6, 3);
    }

    // ------------------------------------------------------------------ Terms 2

    /**
     * "1 HURT: of all others the one whose grudge against him is the greatest (above 0; of like ones the first; as it
     * is now), as long as that part is not signed, then who signed it"
     */
    private static void whoIsHurt() {
        TriplicateForms x = Desk.with(OFFICE);
        due("g hurts nobody at 0", x.form(1, 1), NONE);
        resent(x, 4, 1, 1);
        due("1 is above 0", x.form(1, 1), 4);
        resent(x, 2, 1, 1);
        due("of like ones the first", x.form(1, 1), 2);
        resent(x, 3, 1, 1);
        due("of like ones the first still", x.form(1, 1), 2);
        resent(x, 4, 1, 1);
        due("the greatest, as it is now", x.form(1, 1), 4);
        soften(x, 4, 1, 1);
        due("as it is now", x.form(1, 1), 2);
        resent(x, 1, 2, 9);
        due("only grudges against ABOUT", x.form(1, 1), 2);
        x.sign(2, 1);
        soften(x, 2, 1, 1);
        resent(x, 4, 1, 5);
        due("then who signed it", x.form(1, 1), 2);
        x.cancel(1);
        due("who signed it, while it is VOIDED", x.form(1, 1), 2);
        x.lodge(1);
        due("not signed, LODGED anew", x.form(1, 1), 4);
    }

    /** "2 THIRD: any PERSON who is neither ABOUT nor HURT, is not shy of ABOUT, and, by the RULE 'drawer', is RETIRED." */
    private static void whoIsThird() {
        TriplicateForms x = Desk.with(OFFICE);
        due("in the drawer", x.part(3, 0), 2);
        due("shy", x.part(2, 0), NONE);
        due("not RETIRED", x.part(4, 0), NONE);
        x.retire(4);
        due("RETIRED now", x.part(4, 0), 2);
        x.retire(0);
        x.retire(1);
        due("ABOUT in the drawer signs as ABOUT", x.part(0, 0), 0);
        due("HURT in the drawer signs as HURT", x.part(1, 0), 1);
        TriplicateForms y = Desk.with(OFFICE + "rule any;");
        due("by 'any' not RETIRED", y.part(4, 0), 2);
        due("by 'any' RETIRED", y.part(3, 0), 2);
        due("by 'any' shy", y.part(2, 0), NONE);
        due("by 'any' ABOUT", y.part(0, 0), 0);
        due("by 'any' HURT", y.part(1, 0), 1);
        due("shy of a alone", y.part(2, 1), 2);
        TriplicateForms z = Desk.with("person a;person b;shy b a;grudge b a 1;form f a 1;");
        due("HURT may be shy", z.part(1, 0), 1);
    }

    /** "It is CLEAR, if nobody is HURT." */
    private static void whatIsClear() {
        TriplicateForms x = Desk.with(OFFICE);
        due("g alone", x.now(5), 2);
        soften(x, 1, 0, 3);
        due("both", x.now(5), 3);
        resent(x, 4, 0, 1);
        due("g again", x.now(5), 2);
        x.sign(4, 0);
        soften(x, 4, 0, 1);
        due("who signed is HURT", x.now(5), 2);
        x.sign(1, 1);
        x.sign(3, 1);
        due("two parts of a CLEAR one do not file it", x.form(1, 5), 0);
        due("it is CLEAR, however signed", x.now(5), 2);
        x.cancel(1);
        due("it is CLEAR, however it is", x.now(5), 2);
        due("a SENTENCE says so", saidOf(x, "clear"), 2);
    }

    /** "To SIGN a FORM: why not, the least: 1 it is not OPEN; 2 .. on this DAY; 3 no part of it ..: he signs it." */
    private static void whyNotSign() {
        TriplicateForms x = Desk.with(OFFICE);
        due("3 no part", x.sign(4, 0), 3);
        due("0 he signs it", x.sign(0, 0), 0);
        due("2 ahead of 3: he signed today and that one", x.sign(0, 0), 2);
        due("2 another one", x.sign(0, 1), 2);
        x.days(1);
        due("3 who signed one part of it may not sign another", x.sign(0, 0), 3);
        due("0 THIRD", x.sign(3, 0), 0);
        x.retire(4);
        due("3 THIRD is signed", x.sign(4, 0), 3);
        due("0 HURT", x.sign(1, 0), 0);
        due("FILED by the third signature", x.form(0, 5), 1);
        due("1 ahead of 2", x.sign(1, 0), 1);
        due("1 ahead of 3", x.sign(4, 0), 1);
        x.days(2);
        due("1 GRANTED", x.sign(0, 0), 1);
        x.cancel(1);
        due("1 VOIDED", x.sign(1, 1), 1);
        TriplicateForms y = Desk.with(OFFICE);
        y.sign(3, 0);
        resent(y, 3, 0, 4);
        y.days(1);
        due("HURT by now has signed as THIRD", y.form(0, 1), 3);
        due("3 he may not sign another part", y.sign(3, 0), 3);
        due("3 who was HURT has none", y.sign(1, 0), 3);
        TriplicateForms z = Desk.with(OFFICE);
        z.sign(1, 0);
        resent(z, 3, 0, 9);
        due("HURT is signed: he is not HURT, and signs as THIRD", z.sign(3, 0), 0);
        due("as THIRD", z.form(0, 4), 3);
    }

    /**
     * "To SOFTEN ..: 1 he has no grudge .. (alike, too) .. To RESENT ..: 1 they are alike; 2 it is 9 .. To RETIRE: 1 he
     * is RETIRED. To RETURN: 1 he is not. To VOID a FORM: 1 it is GRANTED or VOIDED .. To LODGE one: 1 it is not
     * VOIDED: it is OPEN, nothing of it is signed."
     */
    private static void whyNotOthers() {
        TriplicateForms x = Desk.with(OFFICE);
        soften(x, 1, 0, 3);
        due("soften at 0", x.soften(1, 0), 1);
        due("soften alike", x.soften(1, 1), 1);
        resent(x, 1, 0, 9);
        due("resent at 9", x.resent(1, 0), 2);
        due("9 at most", x.grudge(1, 0), 9);
        due("resent alike", x.resent(1, 1), 1);
        due("retire", x.retire(0), 0);
        due("retire the RETIRED", x.retire(0), 1);
        due("return", x.back(0), 0);
        due("return who is not", x.back(0), 1);
        due("lodge an OPEN one", x.lodge(0), 1);
        x.sign(3, 0);
        due("void an OPEN one", x.cancel(0), 0);
        due("void a VOIDED one", x.cancel(0), 1);
        due("lodge a VOIDED one", x.lodge(0), 0);
        due("nothing of it is signed", x.form(0, 4), NONE);
        due("it is OPEN", x.form(0, 5), 0);
        x.days(1);
        file(x, 0, 0, 1, 3);
        due("lodge a FILED one", x.lodge(0), 1);
        due("void a FILED one", x.cancel(0), 0);
        x.undo();
        x.days(2);
        due("void a GRANTED one", x.cancel(0), 1);
        due("lodge a GRANTED one", x.lodge(0), 1);
    }

    /**
     * "A DAY .. goes: FORM by FORM that is FILED: a DAY less is left; if none is, it is GRANTED, and the grudge of who
     * signed as HURT against ABOUT is 1 more (9 at most). It is the next DAY, nobody has signed on it."
     */
    private static void aDayGoes() {
        TriplicateForms x = Desk.with(OFFICE);
        file(x, 0, 0, 1, 3);
        due("two DAYS are left", x.form(0, 6), 2);
        x.days(1);
        due("one is left", x.form(0, 6), 1);
        due("FILED still", x.form(0, 5), 1);
        due("no grudge grew yet", x.grudge(1, 0), 3);
        due("the next DAY", x.now(0), 1);
        due("nobody has signed on it", x.person(0, 1), NONE);
        x.days(1);
        due("none is left", x.form(0, 6), 0);
        due("GRANTED", x.form(0, 5), 2);
        due("his grudge grew", x.grudge(1, 0), 4);
        x.days(5);
        due("once", x.grudge(1, 0), 4);
        TriplicateForms y = Desk.with("person a;person b;person c retired;person d;person e retired;"
                + "grudge b a 8;rule any;form f a 1;form g a 1;");
        file(y, 0, 0, 1, 2);
        y.days(1);
        due("9 at most, from 8", y.grudge(1, 0), 9);
        file(y, 1, 0, 1, 4);
        y.days(1);
        due("9 at most, from 9", y.grudge(1, 0), 9);
        due("GRANTED all the same", y.now(3), 3);
        TriplicateForms z = Desk.with(OFFICE);
        file(z, 0, 0, 1, 3);
        soften(z, 1, 0, 3);
        resent(z, 4, 0, 2);
        z.days(2);
        due("of who signed as HURT, from 0", z.grudge(1, 0), 1);
        due("not of who has the greatest by then", z.grudge(4, 0), 2);
        TriplicateForms w = Desk.with(OFFICE);
        file(w, 0, 0, 1, 3);
        w.cancel(0);
        w.days(9);
        due("a VOIDED one is not GRANTED", w.form(0, 5), 3);
        w.lodge(0);
        file(w, 0, 0, 1, 3);
        due("LODGED anew all its DAYS are left", w.form(0, 6), 2);
    }

    /** "A DAY (0 to 399; 400: all are over)" */
    private static void the400thDay() {
        TriplicateForms x = onDay(399, OFFICE);
        due("399 is one", x.now(0), 399);
        due("it goes", x.days(1), 1);
        due("400", x.now(0), 400);
        due("all are over", x.days(1), 0);
        due("all are over: drawn", x.drawn(1, 1), 0);
        due("all are over: a BOOK", Desk.book(x, "day 1;", 1), 0);
        due("why", x.told(0), 71);
        due("400 still", x.now(0), 400);
        due("days is not undone, but the one ahead", x.undo() >= 0 ? x.now(0) : NONE, 399);
    }

    // ------------------------------------------------------------------ Terms 3

    /** "CAN sign: who could sign a FORM now, whether he signed one on this DAY or not." */
    private static void canWhetherHeSigned() {
        TriplicateForms x = Desk.with(OFFICE);
        due("a, b and d", x.can(0), 11);
        x.sign(1, 1);
        due("b signed one on this DAY", x.can(0), 11);
        x.sign(0, 0);
        due("a signed this one", x.can(0), 10);
        x.sign(3, 0);
        due("d signed this one", x.can(0), 2);
        x.retire(4);
        due("THIRD is signed", x.can(0), 2);
        x.days(1);
        x.sign(1, 0);
        due("FILED", x.can(0), 0);
        x.days(2);
        due("GRANTED", x.can(0), 0);
        x.cancel(1);
        due("VOIDED", x.can(1), 0);
    }

    /**
     * "WHEN: .. its parts signed today by those who have not signed on this DAY, if for each part that is not signed
     * there is one (each another one), else all that is missing on the next DAY; grudges, RULE and drawer as they are
     * now."
     */
    private static void whenTodayOrTomorrow() {
        TriplicateForms x = Desk.with(OFFICE);
        due("all today", x.when(0), 2);
        due("HURT has nobody", x.when(1), NONE);
        resent(x, 0, 1, 1);
        due("g as grudges are now", x.when(1), 1);
        x.sign(1, 1);
        due("HURT of f signed one on this DAY", x.when(0), 3);
        due("ABOUT of g signed it", x.when(1), 1);
        x.sign(3, 1);
        due("b and the only THIRD of f signed on this DAY", x.when(0), 3);
        x.retire(4);
        due("b still", x.when(0), 3);
        x.days(1);
        due("all on this DAY", x.when(0), 3);
        x.sign(3, 0);
        due("THIRD is signed", x.when(0), 3);
        x.sign(0, 0);
        due("HURT is left", x.when(0), 3);
        x.sign(1, 0);
        due("FILED: when it is", x.when(0), 3);
        x.days(1);
        due("FILED: when it is, a DAY on", x.when(0), 3);
        x.days(1);
        due("GRANTED", x.when(0), NONE);
        TriplicateForms y = Desk.with(OFFICE);
        y.sign(3, 1);
        due("the only THIRD signed another one", y.when(0), 3);
        y.retire(4);
        due("another THIRD is in the drawer", y.when(0), 2);
        y.back(4);
        y.back(3);
        due("THIRD has nobody", y.when(0), NONE);
        y.retire(3);
        y.cancel(0);
        due("VOIDED", y.when(0), NONE);
        TriplicateForms z = Desk.with(OFFICE);
        resent(z, 0, 1, 1);
        z.sign(0, 1);
        due("ABOUT signed another one on this DAY", z.when(0), 3);
        due("that one today", z.when(1), 1);
    }

    /** "NONE: .. not by DAY 400 .." */
    private static void whenByDay400() {
        TriplicateForms x = onDay(398, OFFICE);
        due("two DAYS from 398", x.when(0), 400);
        x.sign(3, 1);
        due("three from 398", x.when(0), NONE);
        x.undo();
        file(x, 0, 0, 1, 3);
        due("FILED, two from 398", x.when(0), 400);
        x.days(1);
        due("FILED, one from 399", x.when(0), 400);
        x = onDay(399, OFFICE);
        due("two from 399", x.when(0), NONE);
        resent(x, 0, 1, 1);
        due("one from 399", x.when(1), 400);
        file(x, 0, 0, 1, 3);
        due("FILED, two from 399", x.when(0), NONE);
        due("g on the next DAY, from 399", x.when(1), NONE);
        x.days(1);
        due("one from 400", x.when(0), NONE);
        due("g from 400", x.when(1), NONE);
    }

    /**
     * "MATCH: the most parts that can be signed today, each PERSON one at most (who has not signed on this DAY), each
     * part of an OPEN FORM once, by the parts as they are now; of like ones the first: PERSON by PERSON the least FORM,
     * none behind all."
     */
    private static void matchOfLikeOnes() {
        due("none", new TriplicateForms().match(), 0);
        due("no FORMS", Desk.with("person a;person b;").match(), 0);
        TriplicateForms x = Desk.with("person a;form f a 1;form g a 1;");
        due("each PERSON one at most", x.match(), 1);
        due("the least FORM", x.matched(0), 0);
        x.cancel(0);
        due("g alone", x.match(), 1);
        due("of an OPEN one", x.matched(0), 1);
        x.sign(0, 1);
        due("he signed on this DAY", x.match(), 0);
        due("none", x.matched(0), NONE);
        TriplicateForms y = Desk.with("person a;person b retired;person c retired;form f a 1;");
        due("each part once", y.match(), 2);
        due("a's ABOUT", y.matched(0), 0);
        due("the first THIRD", y.matched(1), 0);
        due("none behind all", y.matched(2), NONE);
        // b and c could be THIRD of f, b alone of g: so many as can be is ahead of the least FORM.
        TriplicateForms z = Desk.with("person a;person b retired;person c retired;person d;shy c d;"
                + "form f a 1;form g d 1;");
        due("all four", z.match(), 4);
        due("b leaves f to c", z.matched(1), 1);
        due("c", z.matched(2), 0);
        due("d", z.matched(3), 1);
        TriplicateForms v = Desk.with("person a;person b retired;person c retired;form f a 1;form g a 1;");
        due("three", v.match(), 3);
        due("b is THIRD of f", v.matched(1), 0);
        due("each part once: c of g", v.matched(2), 1);
        TriplicateForms w = Desk.with("person a;person b;person c retired;grudge b a 1;form f a 1;form g a 1;");
        due("three", w.match(), 3);
        due("each the least FORM", w.matched(0) + w.matched(1) + w.matched(2), 0);
        w.sign(0, 0);
        due("parts as they are now", w.match(), 2);
        due("HURT of f", w.matched(1), 0);
    }

    /**
     * "FITS by the tape (a byte for each: a PERSON; 1 to 3 of them, unlike): FORMS (however they are) that those told
     * could have signed, each another part, if nothing of it was signed."
     */
    private static void fitsTheTape() {
        TriplicateForms x = Desk.with(OFFICE);
        due("no byte", Desk.fits(x), NONE);
        due("one", Desk.fits(x, 0), 1);
        due("two", Desk.fits(x, 1, 0), 1);
        due("three", Desk.fits(x, 3, 1, 0), 1);
        due("four", Desk.fits(x, 0, 1, 3, 4), NONE);
        due("tape behind four", x.count(3), 0);
        due("alike", Desk.fits(x, 3, 3), NONE);
        due("alike, the first and the last", Desk.fits(x, 3, 1, 3), NONE);
        due("tape behind alike ones", x.count(3), 0);
        due("the first past the last PERSON", Desk.fits(x, 5), NONE);
        due("a byte of 128", Desk.fits(x, 128), NONE);
        due("a byte of 255", Desk.fits(x, 255), NONE);
        due("no PERSON behind one", Desk.fits(x, 0, 5), NONE);
        due("the last PERSON, who could have signed none", Desk.fits(x, 4), 0);
        due("two of one part", Desk.fits(x, 2, 3), 0);
        due("THIRD of both", Desk.fits(x, 3), 3);
        due("c is shy of a", Desk.fits(x, 2), 2);
        file(x, 0, 0, 1, 3);
        due("FILED", Desk.fits(x, 0, 1, 3), 1);
        x.retire(4);
        due("who could have signed, if nothing was", Desk.fits(x, 4), 3);
        x.days(2);
        due("GRANTED", Desk.fits(x, 0, 1, 3), 1);
        x.cancel(1);
        due("VOIDED", Desk.fits(x, 3), 3);
        resent(x, 4, 0, 9);
        due("HURT as it is now, though b signed", Desk.fits(x, 4), 3);
        due("b is none of f", Desk.fits(x, 1, 4), 2);
        due("any text is as good", Desk.fits(Desk.with(EIGHT + "form p h 1;"), 7), 1);
    }

    /** "ASK: the PERSON who can sign some part of as many of these as not, as nearly as may be (of like ones the first)." */
    private static void askOfLikeOnes() {
        TriplicateForms x = Desk.with("person a;person b;person c retired;form f a 1;form g b 1;form h b 1;");
        due("all", Desk.fits(x, 2), 7);
        due("1 of 3 is as near as 2 of 3: the first", x.ask(), 0);
        due("g and h", Desk.fits(x, 1, 2), 6);
        due("a none, b both, c both: the first", x.ask(), 0);
        x = Desk.with("person a;person b;person c retired;person d;form f b 1;form g b 1;form h d 1;form i d 1;");
        due("all", Desk.fits(x, 2), 15);
        due("b half of them, a none", x.ask(), 1);
        x = Desk.with("person a;person b;person c retired;person d;form f a 1;form g b 1;form h d 1;form i d 1;");
        due("all", Desk.fits(x, 2), 15);
        due("d half of them, a and b one each", x.ask(), 3);
        due("h and i", Desk.fits(x, 3), 12);
        due("of these alone: a none, b none, c both, d both", x.ask(), 0);
        x = Desk.with("person a;person b;person c retired;person d;person e;shy c d;form f b 1;form g b 1;form h a 1;"
                + "form i a 1;form j d 1;");
        due("of c, who is shy of d", Desk.fits(x, 2), 15);
        due("a half of these", x.ask(), 0);
        due("f and g", Desk.fits(x, 1, 2), 3);
        due("a none of these, though two others", x.ask(), 0);
        due("g alone", Desk.fits(Desk.with("person a;person b retired;form f b 1;form g a 1;"), 0), 2);
        x = Desk.with("person a;person b;person c retired;shy c a;form f a 1;form g b 1;form h b 1;");
        x.retire(0);
        due("g and h", Desk.fits(x, 2), 6);
        due("a as THIRD of both, b ABOUT of both, c: the first", x.ask(), 0);
        x.resent(0, 1);
        x.cancel(2);
        due("g and h, however they are", Desk.fits(x, 0, 2), 6);
        due("the first", x.ask(), 0);
        x = Desk.with("person a retired;person b;person c;shy a c;form f b 1;form g c 1;form h b 1;form i c 1;");
        due("f and h", Desk.fits(x, 0), 5);
        due("a both, b both, c none: the first", x.ask(), 0);
        x = Desk.with("person a retired;person b;person c;form f b 1;form g c 1;form h c 1;");
        due("all", Desk.fits(x, 0), 7);
        due("a three of three, b one of three", x.ask(), 1);
        x = Desk.with("person a;person b retired;form f a 1;");
        due("one FORM", Desk.fits(x, 1), 1);
        due("both can", x.ask(), 0);
    }

    /**
     * "COVER: the fewest PERSONS in the drawer (whoever is in it now) so that each FORM that is not CLEAR would have a
     * THIRD by the RULE 'drawer'; of like ones the least as bits."
     */
    private static void coverOfLikeOnes() {
        TriplicateForms x = new TriplicateForms();
        due("no FORMS: nobody", x.cover(), 0);
        due("nobody, as bits", x.covering(), 0);
        x = Desk.with("person a;form f a 1;");
        due("all CLEAR: nobody", x.cover(), 0);
        x = Desk.with("person a;person b;person c;person d retired;grudge b a 1;form f a 1;");
        due("one", x.cover(), 1);
        due("the least as bits, whoever is in it now", x.covering(), 4);
        x = Desk.with("person a;person b;grudge b a 1;form f a 1;");
        due("by none", x.cover(), NONE);
        x = Desk.with("person a;person b;person c;grudge b a 1;shy c a;rule any;form f a 1;");
        due("by none, all others are shy", x.cover(), NONE);
        x = Desk.with(EIGHT + "grudge a h 1;grudge h a 1;form p a 1;form q h 1;");
        due("one for two FORMS", x.cover(), 1);
        due("b", x.covering(), 2);
        x = Desk.with("person a;person b;person c;person d;grudge a b 1;grudge b a 1;grudge c d 1;grudge d c 1;"
                + "form f a 1;form g c 1;form h d 1;");
        due("two", x.cover(), 2);
        due("a and c, the least of four ways", x.covering(), 5);
        x = Desk.with("person a;person b;person c;grudge a b 1;shy c b;form f b 1;");
        due("by none, c is shy of b", x.cover(), NONE);
        due("served by none", x.served(1), 0);
        x = Desk.with("person a;person b;person c;person d;grudge b a 1;grudge a c 1;shy d a;shy d c;"
                + "form f a 1;form g c 1;");
        due("c for f, b for g", x.cover(), 2);
        due("b and c", x.covering(), 6);
    }

    /**
     * "EASED ..: by how much grudges of others against ABOUT must be less in all so that he would be HURT (as if that
     * part was not signed)."
     */
    private static void easedByLittle() {
        TriplicateForms x = Desk.with("person a;person b;person c;grudge a b 4;grudge c b 4;form f b 1;");
        due("the first of like ones is HURT already", x.eased(0, 0), 0);
        due("the second of like ones needs one less", x.eased(0, 2), 1);
        due("ABOUT", x.eased(0, 1), NONE);
        soften(x, 0, 1, 1);
        due("a needs one less of c", x.eased(0, 0), 1);
        due("c is HURT", x.eased(0, 2), 0);
        x.sign(2, 0);
        due("signed: as if it was not", x.eased(0, 0), 1);
        soften(x, 0, 1, 3);
        due("no grudge", x.eased(0, 0), NONE);
        resent(x, 0, 1, 1);
        due("a grudge of 1", x.eased(0, 0), 3);
        TriplicateForms y = Desk.with(EIGHT + "grudge a h 9;grudge b h 9;grudge c h 9;grudge d h 9;grudge e h 9;"
                + "grudge f h 9;grudge g h 1;form p h 1;");
        due("six less all of theirs", y.eased(0, 6), 54);
        due("f five less one each", y.eased(0, 5), 5);
        due("no such FORM", y.eased(1, 6), NONE);
        due("no such PERSON", y.eased(0, 8), NONE);
    }

    /** "STAMP of a FORM: its NAME, then ' is filed', ' is granted', ' is void'; if it is OPEN, ' is clear' .. else .." */
    private static void stampOfAll() {
        TriplicateForms x = Desk.with(OFFICE);
        Desk.dueText("nothing is signed", Desk.stamped(x, 0), "f wants about hurt third");
        Desk.dueText("CLEAR", Desk.stamped(x, 1), "g is clear");
        x.sign(1, 1);
        Desk.dueText("CLEAR, though signed", Desk.stamped(x, 1), "g is clear");
        resent(x, 4, 1, 1);
        Desk.dueText("not CLEAR by now", Desk.stamped(x, 1), "g wants hurt third");
        x.sign(0, 0);
        Desk.dueText("two are not signed", Desk.stamped(x, 0), "f wants hurt third");
        x.days(1);
        x.sign(1, 0);
        Desk.dueText("one is not signed", Desk.stamped(x, 0), "f wants third");
        soften(x, 1, 0, 3);
        Desk.dueText("who signed is HURT", Desk.stamped(x, 0), "f wants third");
        x.cancel(0);
        Desk.dueText("VOIDED", Desk.stamped(x, 0), "f is void");
        x.undo();
        x.sign(3, 0);
        Desk.dueText("FILED", Desk.stamped(x, 0), "f is filed");
        x.days(2);
        Desk.dueText("GRANTED", Desk.stamped(x, 0), "f is granted");
        soften(x, 4, 1, 1);
        x.cancel(1);
        Desk.dueText("VOIDED, though CLEAR", Desk.stamped(x, 1), "g is void");
    }

    /**
     * "DRAWN by a seed x: for each draw of n x becomes x * 1103515245 + 12345 (an int, wrapping), the draw is (x >>> 8) %
     * n: each DAY: PERSON by PERSON: a draw of all FORMS (none: no draw) .. (each, if he can); then the DAY."
     */
    private static void drawsWrap() {
        int[] seeds = {0, 1, -1, 42, 1 << 30, Integer.MAX_VALUE, Integer.MIN_VALUE, 987654321};
        String full = EIGHT + "grudge a b 9;grudge b a 9;grudge c d 1;rule any;form p a 1;form q b 9;form r c 2;";
        for (int seed : seeds) {
            drawnAsByHand(OFFICE, 9, seed);
            drawnAsByHand(full, 60, seed);
            drawnAsByHand(SMALL, 30, seed);
            drawnAsByHand("person a;", 9, seed);
            drawnAsByHand(EIGHT, 30, seed);
        }
    }

    private static void drawnAsByHand(String office, int days, int seed) {
        TriplicateForms x = Desk.with(office);
        TriplicateForms y = Desk.with(office);
        if (x.count(1) > 0) {
            x.sign(0, 0);
            y.sign(0, 0);
        }
        due("drawn(" + days + ", " + seed + ")", x.drawn(days, seed), Desk.drawByHand(y, days, seed));
        dueAsBefore("drawn(" + days + ", " + seed + ")", x, picture(y));
    }

    // ------------------------------------------------------------------ between the Terms and Promise 1

    /**
     * "A new OFFICE: DAY 0, all FORMS OPEN, nothing signed, no SENTENCE; nothing can be undone (what other calls told
     * last stays)."
     */
    private static void aNewOffice() {
        TriplicateForms x = Desk.with(OFFICE);
        x.match();
        x.cover();
        Desk.fits(x, 3, 0);
        x.stamp(1);
        Desk.book(x, "a signs g;", 0);
        file(x, 0, 0, 1, 3);
        x.cancel(1);
        x.days(3);
        resent(x, 4, 0, 2);
        x.retire(4);
        x.sign(2, 0);
        Desk.sentence(x, "open");
        Desk.book(x, "a signs g;", 0);
        x.odds(0, 1, 1);
        due("a new OFFICE", Desk.office(x, OFFICE), 9);
        due("DAY 0", x.now(0), 0);
        due("all FORMS OPEN", x.now(1), 3);
        due("nothing signed", x.form(0, 2) + x.form(0, 3) + x.form(0, 4), -3);
        for (int p = 0; p < 5; p++) {
            due("nobody signed on this DAY", x.person(p, 1), NONE);
            due("nobody signed so far", x.person(p, 2), 0);
        }
        due("all DAYS as told", x.form(0, 6) + x.form(1, 6), 3);
        due("grudges as told", x.grudge(1, 0), 3);
        due("no others", x.now(7), 3);
        due("the drawer as told", x.now(6), 12);
        due("no SENTENCE", x.said(NONE), NONE);
        due("nothing can be undone", x.undo(), NONE);
        due("matched stays", x.matched(3), 0);
        due("covering stays", x.covering(), 8);
        due("ask stays", x.ask(), 0);
        due("the STAMP stays", x.byteAt(0), 'g');
        due("told stays", x.told(0), 1);
        due("an OFFICE of nobody", Desk.office(x, ""), 0);
        for (int what = 0; what < 8; what++) {
            due("nobody: now(" + what + ")", x.now(what), 0);
        }
        due("ask stays for nobody", x.ask(), 0);
        due("covering stays for nobody", x.covering(), 8);
        due("told stays for nobody", x.told(1), 0);
        due("the STAMP stays for nobody", x.byteAt(9), 'r');
    }

    /** "A call that throws changes nothing." */
    private static void throwingChangesNothing() {
        TriplicateForms x = Desk.with(OFFICE);
        x.sign(0, 0);
        Desk.feed(x, "day 1;");
        String before = picture(x);
        for (int far : FAR) {
            Desk.dueNoSuch("form(" + far + ", 0)", () -> x.form(far, 0));
            Desk.dueNoSuch("form(0, " + far + ")", () -> x.form(0, far));
            Desk.dueNoSuch("person(" + far + ", 0)", () -> x.person(far, 0));
            Desk.dueNoSuch("person(0, " + far + ")", () -> x.person(0, far));
        }
        Desk.dueNoSuch("form(2, 0)", () -> x.form(2, 0));
        Desk.dueNoSuch("form(1, 7)", () -> x.form(1, 7));
        Desk.dueNoSuch("person(5, 0)", () -> x.person(5, 0));
        Desk.dueNoSuch("person(4, 5)", () -> x.person(4, 5));
        dueAsBefore("calls that throw", x, before);
        due("it can be undone still", x.undo(), 0);
    }

    /** "An object is used for at most 512 calls after it has been made" */
    private static void theLastCall() {
        TriplicateForms x = new TriplicateForms();
        x.feed(0x70657273, 0x6f6e2061, 0x3b000000, 0, 0);
        x.end(9);
        x.office();
        for (int call = 4; call < 512; call++) {
            due("call " + call, call % 2 == 0 ? x.retire(0) : x.back(0), 0);
        }
        due("call 512", x.now(6), 0);
    }

    // ------------------------------------------------------------------ Promises 1 to 9

    /** "TriplicateForms(): An empty OFFICE; an empty tape." and each "ahead of any" */
    private static void aNewObject() {
        TriplicateForms x = new TriplicateForms();
        due("tape", x.count(3), 0);
        due("fault() ahead of any", x.fault(), 0);
        due("matched ahead of any", x.matched(0), NONE);
        due("ask ahead of any", x.ask(), NONE);
        due("covering ahead of any", x.covering(), NONE);
        due("byteAt ahead of any", x.byteAt(0), NONE);
        for (int what = 0; what < 4; what++) {
            due("told(" + what + ") ahead of any", x.told(what), NONE);
            due("count(" + what + ")", x.count(what), 0);
        }
        due("no SENTENCE", x.said(NONE), NONE);
        due("no SENTENCE", x.said(0), NONE);
        due("nothing to undo", x.undo(), NONE);
        due("nothing is kept", x.restore(0) || x.restore(1), false);
        due("said of no FORMS", Desk.sentence(x, "not open") == 2 ? x.said(NONE) : -9, 0);
        due("said of no FORMS", x.said(0), NONE);
        due("an empty BOOK", Desk.book(x, "", 1), NONE);
        due("days go in an empty OFFICE", Desk.book(x, "day 60;", 1), NONE);
        due("they went", x.now(0), 60);
        Desk.dueNoSuch("form of an empty OFFICE", () -> x.form(0, 0));
        Desk.dueNoSuch("person of an empty OFFICE", () -> x.person(0, 0));
    }

    /** Promises 2 and 3: "NONE, and none come, if it would have more than 940."; "false, if it has not so many .." */
    private static void feedAndEnd() {
        TriplicateForms x = new TriplicateForms();
        for (int k = 1; k <= 47; k++) {
            due("feed " + k, x.feed(k, -k, Integer.MIN_VALUE, Integer.MAX_VALUE, -1), 20 * k);
        }
        due("feed a 48th", x.feed(1, 2, 3, 4, 5), NONE);
        due("none came", x.count(3), 940);
        due("end(941)", x.end(941), false);
        due("all stay", x.count(3), 940);
        due("end(940)", x.end(940), true);
        due("end(921)", x.end(921), true);
        due("it would have 941", x.feed(1, 2, 3, 4, 5), NONE);
        due("none came", x.count(3), 921);
        due("end(920)", x.end(920), true);
        due("it has 940", x.feed(1, 2, 3, 4, 5), 940);
        due("end(-1)", x.end(-1), false);
        due("all stay", x.count(3), 940);
        due("end(Integer.MIN_VALUE)", x.end(Integer.MIN_VALUE), false);
        due("end(Integer.MAX_VALUE)", x.end(Integer.MAX_VALUE), false);
        due("end(0)", x.end(0), true);
        due("end(1) of none", x.end(1), false);
        due("end(0) of none", x.end(0), true);
        bytesOfAFeed();
    }

    /** Promise 2: "Twenty bytes come behind the tape, of each number the highest first" */
    private static void bytesOfAFeed() {
        for (int place = 0; place < 20; place++) {
            TriplicateForms x = new TriplicateForms();
            int[] numbers = new int[5];
            for (int k = 0; k < 5; k++) {
                numbers[k] = 0x20202020;
            }
            numbers[place / 4] += ('<' - ' ') << 24 - place % 4 * 8;
            due("feed", x.feed(numbers[0], numbers[1], numbers[2], numbers[3], numbers[4]), 20);
            due("'<' is byte " + place, x.office(), -1 - place);
            numbers[place / 4] |= 0x80 << 24 - place % 4 * 8;
            due("feed", x.feed(numbers[0], numbers[1], numbers[2], numbers[3], numbers[4]), 20);
            due("a byte above 127 is byte " + place, x.office(), -1 - place);
        }
        TriplicateForms x = Desk.with(EIGHT);
        x.feed(0x07ffffff, -1, -1, -1, -1);
        x.end(1);
        due("the highest byte is the first", x.fits(), 0);
        x.feed(0xff000000, 0, 0, 0, 0);
        x.end(1);
        due("255 is no PERSON", x.fits(), NONE);
        x.feed(0x70657273, 0x6f6e2020, 0x20202020, 0x20202020, 0x20202020);
        x.feed(0x613b2020, 0x20202020, 0x20202020, 0x20202020, 0x20202020);
        due("the second twenty are behind the first", x.office(), 1);
    }

    /** Promise 4: "how many LINES; -1 less the place of a FAULT: it stays." "(empty then, with a FAULT, too ..)" */
    private static void officeStays() {
        TriplicateForms x = Desk.with(OFFICE);
        x.sign(0, 0);
        Desk.sentence(x, "clear");
        x.image(0);
        String before = picture(x);
        due("a FAULT in the last LINE", Desk.office(x, "person z retired;grudge z z 1;"), -27);
        dueAsBefore("an OFFICE with a FAULT", x, before);
        due("the SENTENCE stays", x.said(0), 1);
        due("undo stays", x.undo(), 0);
        due("images stay", x.restore(0), true);
        due("LINES of all sorts", Desk.office(x, OFFICE + "rule any;"), 10);
        due("no LINE", Desk.office(x, ""), 0);
        due("tape", x.count(3), 0);
        due("nobody is there", x.count(0), 0);
    }

    /** Promise 5: "The kind of the FAULT of the latest office(), book() or sentence() (a book() of -1000 leaves it) .." */
    private static void faultOfTheLatest() {
        TriplicateForms x = Desk.with(OFFICE);
        due("none", x.fault(), 0);
        Desk.sentence(x, "about zoe");
        due("3", x.fault(), 3);
        Desk.fits(x, 9);
        x.days(1);
        due("other calls leave it", x.fault(), 3);
        due("another lives", Desk.book(x, "day 1;", -1), -1000);
        due("-1000 leaves it", x.fault(), 3);
        x.end(0);
        Desk.book(x, "day 0;", 0);
        due("2", x.fault(), 2);
        Desk.book(x, "c retires;", 0);
        due("a WRONG LINE is no FAULT", x.fault(), 0);
        Desk.office(x, EIGHT + "person z;");
        due("4", x.fault(), 4);
        x.image(0);
        x.restore(0);
        due("restore leaves it", x.fault(), 4);
        Desk.sentence(x, "open");
        due("0 behind one without", x.fault(), 0);
    }

    /** Promises 6 and 7: "(NONE each)", "(as told, if it is not FILED; 0: GRANTED)", "NoSuchElementException: no such ones." */
    private static void formAndPerson() {
        TriplicateForms x = Desk.with(OFFICE);
        for (int what = 2; what < 5; what++) {
            due("form(0, " + what + ") is signed by none", x.form(0, what), NONE);
        }
        due("OPEN is 0", x.form(0, 5), 0);
        file(x, 0, 0, 1, 3);
        due("who signed as ABOUT", x.form(0, 2), 0);
        due("who signed as HURT", x.form(0, 3), 1);
        due("who signed as THIRD", x.form(0, 4), 3);
        due("FILED is 1", x.form(0, 5), 1);
        x.cancel(0);
        due("VOIDED is 3", x.form(0, 5), 3);
        due("as told, if it is not FILED", x.form(0, 6), 2);
        x.undo();
        x.days(2);
        due("GRANTED is 2", x.form(0, 5), 2);
        due("0: GRANTED", x.form(0, 6), 0);
        due("the FORM of number 0 is not NONE", x.sign(0, 1) == 3 ? x.sign(1, 1) : 9, 0);
        due("the FORM that he signed", x.person(1, 1), 1);
        due("he signed none", x.person(0, 1), NONE);
        due("how often", x.person(1, 2), 2);
        due("never", x.person(4, 2), 0);
        due("no grudges", x.person(4, 3), 0);
        resent(x, 4, 0, 9);
        resent(x, 4, 1, 9);
        resent(x, 4, 2, 9);
        resent(x, 4, 3, 9);
        due("all his grudges, four of 9", x.person(4, 3), 36);
        for (int f = -1; f <= 8; f++) {
            for (int what = -1; what <= 8; what++) {
                int g = f;
                int w = what;
                if (f < 0 || f > 1 || what < 0 || what > 6) {
                    Desk.dueNoSuch("form(" + f + ", " + what + ")", () -> x.form(g, w));
                }
                if (f < 0 || f > 4 || what < 0 || what > 4) {
                    Desk.dueNoSuch("person(" + f + ", " + what + ")", () -> x.person(g, w));
                }
            }
        }
    }

    /** Promises 8, 9 and 41: "NONE: no such ones."; "NONE for another what." */
    private static void grudgeAndNow() {
        TriplicateForms x = Desk.with(OFFICE);
        due("against another one", x.grudge(1, 0), 3);
        due("none is 0", x.grudge(0, 1), 0);
        due("himself is no other one", x.grudge(1, 1), NONE);
        due("past the last", x.grudge(0, 5), NONE);
        due("past the last", x.grudge(5, 0), NONE);
        due("ahead of the first", x.grudge(0, -1), NONE);
        due("now(8)", x.now(8), NONE);
        due("count(4)", x.count(4), NONE);
        due("told(4)", Desk.book(x, "", 0) == NONE ? x.told(4) : 9, NONE);
        due("now(7) of all", x.now(7), 3);
        for (int far : FAR) {
            due("now(" + far + ")", x.now(far), NONE);
            due("count(" + far + ")", x.count(far), NONE);
            due("told(" + far + ")", x.told(far), NONE);
            due("grudge(" + far + ", 0)", x.grudge(far, 0), NONE);
            due("grudge(0, " + far + ")", x.grudge(0, far), NONE);
        }
    }

    // ------------------------------------------------------------------ Promises 10 to 18

    /** Promises 10 to 16, 19 to 21, 28, 29, 31, 34: "NONE: no such ones." */
    private static void noSuchOnes() {
        TriplicateForms x = Desk.with(OFFICE);
        String before = picture(x);
        int[] persons = {-1, 5, 8};
        int[] forms = {-1, 2, 8};
        for (int p : persons) {
            noSuchPerson(x, p);
        }
        for (int f : forms) {
            noSuchForm(x, f);
        }
        for (int far : FAR) {
            noSuchPerson(x, far);
            noSuchForm(x, far);
        }
        dueAsBefore("calls of no such ones", x, before);
        due("none of them can be undone", x.undo(), NONE);
    }

    private static void noSuchPerson(TriplicateForms x, int p) {
        due("sign(" + p + ", 0)", x.sign(p, 0), NONE);
        due("soften(" + p + ", 0)", x.soften(p, 0), NONE);
        due("soften(0, " + p + ")", x.soften(0, p), NONE);
        due("soften(" + p + ", " + p + ")", x.soften(p, p), NONE);
        due("resent(" + p + ", 0)", x.resent(p, 0), NONE);
        due("resent(0, " + p + ")", x.resent(0, p), NONE);
        due("resent(" + p + ", " + p + ")", x.resent(p, p), NONE);
        due("retire(" + p + ")", x.retire(p), NONE);
        due("back(" + p + ")", x.back(p), NONE);
        due("part(" + p + ", 0)", x.part(p, 0), NONE);
        due("matched(" + p + ")", x.matched(p), NONE);
        due("eased(0, " + p + ")", x.eased(0, p), NONE);
    }

    private static void noSuchForm(TriplicateForms x, int f) {
        due("sign(0, " + f + ")", x.sign(0, f), NONE);
        due("cancel(" + f + ")", x.cancel(f), NONE);
        due("lodge(" + f + ")", x.lodge(f), NONE);
        due("part(0, " + f + ")", x.part(0, f), NONE);
        due("can(" + f + ")", x.can(f), NONE);
        due("when(" + f + ")", x.when(f), NONE);
        due("eased(" + f + ", 1)", x.eased(f, 1), NONE);
        due("stamp(" + f + ")", x.stamp(f), NONE);
        due("odds(" + f + ", 1, 1)", x.odds(f, 1, 1), NONE);
    }

    /** Promises 10 to 16: "0, or why not": a call that is refused leaves all, and can't be undone */
    private static void refusedActs() {
        TriplicateForms x = Desk.with(OFFICE);
        x.sign(0, 0);
        x.cancel(1);
        String before = picture(x);
        due("sign 1", x.sign(1, 1), 1);
        due("sign 2", x.sign(0, 0), 2);
        due("sign 3", x.sign(4, 0), 3);
        due("soften 1", x.soften(0, 1), 1);
        due("resent 1", x.resent(0, 0), 1);
        due("retire 1", x.retire(2), 1);
        due("back 1", x.back(0), 1);
        due("cancel 1", x.cancel(1), 1);
        due("lodge 1", x.lodge(0), 1);
        dueAsBefore("acts that are refused", x, before);
        due("two were done", x.undo(), 1);
    }

    /** Promise 17: "n (1 to 60) DAYS go by: how many did; NONE: not as told." */
    private static void daysGoBy() {
        TriplicateForms x = Desk.with(OFFICE);
        for (int far : FAR) {
            due("days(" + far + ")", x.days(far), far >= 1 && far <= 60 ? far : NONE);
        }
        x = Desk.with(OFFICE);
        due("days(0)", x.days(0), NONE);
        due("days(61)", x.days(61), NONE);
        due("DAY 0 still", x.now(0), 0);
        due("days(1)", x.days(1), 1);
        due("days(60)", x.days(60), 60);
        due("DAY 61", x.now(0), 61);
        x = onDay(341, OFFICE);
        due("59 of 60", x.days(60), 59);
        due("none of 60", x.days(60), 0);
        due("none of 1", x.days(1), 0);
        due("61 on DAY 400", x.days(61), NONE);
        due("the 59 are undone", x.undo() >= 0 ? x.now(0) : NONE, 341);
        x = onDay(340, OFFICE);
        due("all 60", x.days(60), 60);
        due("DAY 400", x.now(0), 400);
    }

    /** Promise 18: "how many more can be (8 at most are kept); NONE: none is." */
    private static void undoKeepsEight() {
        TriplicateForms x = Desk.with(OFFICE);
        for (int acts = 1; acts <= 20; acts++) {
            due("resent", x.resent(0, acts % 4 + 1), 0);
            int kept = Math.min(acts, 8);
            String after = picture(x);
            due(acts + " acts: more", x.undo(), kept - 1);
            due("the grudge is less", x.resent(0, acts % 4 + 1), 0);
            dueAsBefore("done again behind undo", x, after);
        }
        for (int more = 7; more >= 0; more--) {
            due("more", x.undo(), more);
        }
        due("none is", x.undo(), NONE);
        due("twelve are left", x.person(0, 3), 12);
        TriplicateForms y = Desk.with(OFFICE);
        due("a LINE was lived", Desk.book(y, "c retires;", 1) == 0 ? y.undo() : 9, NONE);
        due("a BOOK without LINES", Desk.book(y, "", 1) == NONE ? y.undo() : 9, NONE);
        due("a BOOK judged", Desk.book(y, "a retires;", 0) == NONE ? y.undo() : 9, NONE);
        due("a BOOK of one LINE", Desk.book(y, "a retires;", 1) == NONE ? y.undo() : 9, 0);
        due("it is undone", y.now(6), 12);
        due("a BOOK WRONG behind one LINE", Desk.book(y, "a retires;a retires;", 1) == 1 ? y.undo() : 9, 0);
        due("it is undone", y.now(6), 12);
        due("drawn", y.drawn(60, 3) == 60 ? y.undo() : 9, 0);
        due("it is undone", y.now(0), 0);
        due("drawn is refused", y.drawn(0, 3) == NONE ? y.undo() : 9, NONE);
        due("odds", y.odds(0, 30, 3) >= 0 ? y.undo() : 9, NONE);
        y = onDay(400, OFFICE);
        due("seven were done", y.undo(), 6);
        y.days(40);
        due("no DAY went", y.days(1) == 0 ? y.undo() : 9, 6);
        y.days(40);
        due("none was drawn", y.drawn(1, 1) == 0 ? y.undo() : 9, 6);
    }

    /** Promise 18: "The latest of sign(), .. drawn() above 0, a BOOK of which a LINE was lived is undone" */
    private static void undoOfEachAct() {
        TriplicateForms x = Desk.with(OFFICE);
        String book = "c returns;b softens a;day 1;a resents e;void f;";
        file(x, 0, 0, 1, 3);
        x.cancel(1);
        Desk.book(x, book, 0);
        for (int act = 0; act < 10; act++) {
            String before = picture(x);
            switch (act) {
                case 0 -> due("lodge", x.lodge(1), 0);
                case 1 -> due("soften", x.soften(1, 0), 0);
                case 2 -> due("resent", x.resent(1, 0), 0);
                case 3 -> due("retire", x.retire(4), 0);
                case 4 -> due("back", x.back(3), 0);
                case 5 -> due("cancel", x.cancel(0), 0);
                case 6 -> due("days", x.days(60), 60);
                case 7 -> due("drawn", x.drawn(60, 7), 60);
                case 8 -> due("a BOOK", Desk.book(x, book, 1), NONE);
                default -> due("sign", x.lodge(1) == 0 ? x.sign(2, 1) : 9, 0);
            }
            due("act " + act + " did something", picture(x).equals(before), false);
            due("act " + act + ": more", x.undo(), act < 9 ? 4 : 5);
            if (act == 9) {
                due("lodge, too", x.undo(), 4);
            }
            dueAsBefore("act " + act + " undone", x, before);
        }
        due("cancel", x.undo(), 3);
        for (int part = 2; part >= 0; part--) {
            due("FILED no more", x.undo(), part);
        }
        due("none of it is signed", x.form(0, 2) + x.form(0, 3) + x.form(0, 4), -3);
        due("nobody signed so far", x.person(0, 2) + x.person(1, 2) + x.person(3, 2), 0);
    }

    // ------------------------------------------------------------------ Promises 19 to 34

    /** Promise 19: "The part .. that a PERSON could sign, if nobody signed on this DAY ..; NONE: none, no such ones." */
    private static void partIfNobodySigned() {
        TriplicateForms x = Desk.with(OFFICE);
        due("ABOUT", x.part(0, 0), 0);
        due("HURT", x.part(1, 0), 1);
        due("THIRD", x.part(3, 0), 2);
        due("none", x.part(4, 0), NONE);
        x.sign(1, 1);
        due("he signed another one on this DAY", x.part(1, 0), 1);
        x.sign(0, 0);
        due("he signed a part of it", x.part(0, 0), NONE);
        x.days(1);
        due("he signed a part of it, a DAY ago", x.part(0, 0), NONE);
        x.cancel(0);
        due("VOIDED", x.part(1, 0), NONE);
        due("neither", x.part(-1, -1), NONE);
        due("neither", x.part(5, 2), NONE);
    }

    /** Promise 23: "The FORM that a PERSON signs by the latest match(); NONE: none, no such one, or ahead of any." */
    private static void matchedByTheLatest() {
        TriplicateForms x = Desk.with(OFFICE);
        due("ahead of any", x.matched(0), NONE);
        due("a, c, d and b", x.match(), 4);
        due("a", x.matched(0), 0);
        x.sign(0, 0);
        due("by the latest match()", x.matched(0), 0);
        due("c is THIRD of g", x.matched(2), 1);
        due("e has none", x.matched(4), NONE);
        due("past the last", x.matched(5), NONE);
        x.match();
        due("by a later one", x.matched(0), NONE);
        TriplicateForms y = Desk.with(EIGHT + "form p h 1;");
        due("one", y.match(), 1);
        due("the last PERSON", y.matched(7), 0);
        due("the eighth is past him", y.matched(8), NONE);
    }

    /** Promises 25 and 27: "by the latest fits() above 0 (as it was then)"; "by the latest cover() that was not NONE" */
    private static void askAndCoveringByTheLatest() {
        TriplicateForms x = Desk.with("person a;person b;person c retired;person d;form f b 1;form g b 1;form h d 1;"
                + "form i d 1;");
        due("0", Desk.fits(x, 0), 0);
        due("fits() of 0 is not above 0", x.ask(), NONE);
        Desk.fits(x, 2);
        due("b", x.ask(), 1);
        Desk.fits(x, 0);
        Desk.fits(x, 9);
        Desk.fits(x);
        due("0 and NONE leave it", x.ask(), 1);
        x.retire(0);
        due("as it was then", x.ask(), 1);
        due("none", x.cover(), 0);
        due("nobody", x.covering(), 0);
        resent(x, 0, 1, 1);
        due("one", x.cover(), 1);
        due("c", x.covering(), 4);
        x.back(0);
        x.resent(0, 3);
        due("as it was then", x.covering(), 4);
        TriplicateForms y = Desk.with("person a;person b;grudge b a 1;form f a 1;");
        due("by none", y.cover(), NONE);
        due("NONE ahead of any", y.covering(), NONE);
    }

    /** Promise 29: "How many FORMS that are not CLEAR have a THIRD by the RULE 'drawer' (0), 'any' (1); NONE: no such one." */
    private static void servedByRules() {
        TriplicateForms x = Desk.with(OFFICE);
        due("f by d", x.served(0), 1);
        x.back(3);
        due("c is shy", x.served(0), 0);
        due("d and e by 'any'", x.served(1), 1);
        resent(x, 0, 1, 1);
        due("g is not CLEAR by now, c serves it", x.served(0), 1);
        due("both", x.served(1), 2);
        x.retire(0);
        x.retire(1);
        due("ABOUT and HURT in the drawer do not serve", x.served(0), 1);
        for (int rule : new int[] {-1, 2, 3}) {
            due("served(" + rule + ")", x.served(rule), NONE);
        }
        for (int far : FAR) {
            due("served(" + far + ")", x.served(far), NONE);
        }
        due("none", new TriplicateForms().served(1), 0);
    }

    /** Promise 30: "The PERSON who is HURT by most FORMS (of like ones the first); NONE: by none anybody is." */
    private static void martyrOfLikeOnes() {
        TriplicateForms x = Desk.with(OFFICE);
        due("b by one", x.martyr(), 1);
        resent(x, 4, 1, 1);
        due("b and e by one each", x.martyr(), 1);
        resent(x, 4, 0, 4);
        due("e by both", x.martyr(), 4);
        soften(x, 4, 0, 4);
        soften(x, 4, 1, 1);
        resent(x, 0, 1, 1);
        due("a and b by one each", x.martyr(), 0);
        soften(x, 0, 1, 1);
        soften(x, 1, 0, 3);
        due("by none", x.martyr(), NONE);
        due("nobody", new TriplicateForms().martyr(), NONE);
    }

    /** Promises 31 and 32: "how many bytes; NONE: no such one."; "Byte i of the latest STAMP; NONE: none such." */
    private static void stampAndByteAt() {
        TriplicateForms x = Desk.with("person a;person b;person c;grudge b a 1;form abcdefg a 1;form h c 1;");
        due("ahead of any", x.byteAt(0), NONE);
        due("the longest", x.stamp(0), 30);
        due("its first", x.byteAt(0), 'a');
        due("its last", x.byteAt(29), 'd');
        due("behind it", x.byteAt(30), NONE);
        due("no such FORM", x.stamp(2), NONE);
        due("the latest STAMP stays", x.byteAt(29), 'd');
        due("the shortest", x.stamp(1), 10);
        due("its last", x.byteAt(9), 'r');
        due("behind it", x.byteAt(10), NONE);
        due("of the one ahead", x.byteAt(29), NONE);
        x.cancel(1);
        due("as it was then", x.byteAt(5), 'c');
        due("a shorter one", x.stamp(1), 9);
        due("behind it", x.byteAt(9), NONE);
        for (int far : FAR) {
            due("byteAt(" + far + ")", x.byteAt(far), NONE);
        }
    }

    /** Promise 33: "n (1 to 60) DAYS DRAWN by a seed: how many went by; NONE: not as told, no PERSONS." */
    private static void drawnDays() {
        due("no PERSONS", new TriplicateForms().drawn(1, 1), NONE);
        TriplicateForms x = Desk.with(OFFICE);
        for (int far : FAR) {
            due("drawn(" + far + ", 1)", x.drawn(far, 1), far >= 1 && far <= 60 ? far : NONE);
        }
        x = Desk.with(OFFICE);
        due("0", x.drawn(0, 1), NONE);
        due("61", x.drawn(61, 1), NONE);
        due("1", x.drawn(1, 1), 1);
        due("60", x.drawn(60, 1), 60);
        due("DAY 61", x.now(0), 61);
        x = onDay(341, OFFICE);
        due("59 of 60", x.drawn(60, 1), 59);
        due("none of 60", x.drawn(60, 1), 0);
        due("61 on DAY 400", x.drawn(61, 1), NONE);
        TriplicateForms y = onDay(400, "");
        due("no PERSONS on DAY 400", y.drawn(1, 1), NONE);
    }

    /**
     * Promise 34: "Of n (1 to 30) seeds x, x and 1, .. by how many a FORM is GRANTED behind 20 DAYS DRAWN from now on;
     * NONE: no such ones."
     */
    private static void oddsOfSeeds() {
        TriplicateForms x = Desk.with(OFFICE);
        due("0 seeds", x.odds(0, 0, 1), NONE);
        due("31 seeds", x.odds(0, 31, 1), NONE);
        for (int far : FAR) {
            due("odds(0, " + far + ", 1)", x.odds(0, far, 1), NONE);
        }
        int[] seeds = {1, -15, Integer.MAX_VALUE, Integer.MAX_VALUE - 29, Integer.MIN_VALUE};
        for (int seed : seeds) {
            for (int n : new int[] {1, 2, 30}) {
                due("odds(0, " + n + ", " + seed + ")", x.odds(0, n, seed), oddsByHand(OFFICE, 0, n, seed));
            }
        }
        oddsOfManyForms();
        file(x, 0, 0, 1, 3);
        due("FILED by all", x.odds(0, 30, 5), 30);
        x.days(2);
        due("GRANTED by all", x.odds(0, 30, 5), 30);
        due("CLEAR ones", x.odds(1, 1, 5) >= 0, true);
        x.cancel(1);
        due("VOIDED by none", x.odds(1, 30, 5), 0);
        TriplicateForms y = onDay(380, "person a;person b;person c retired;grudge b a 1;form f a 9;");
        file(y, 0, 0, 1, 2);
        y.days(11);
        due("FILED, 9 from 391", y.form(0, 5), 2);
        y = onDay(392, "person a;person b;person c retired;grudge b a 1;form f a 9;");
        file(y, 0, 0, 1, 2);
        due("FILED, 9 from 392: DAYS are over", y.odds(0, 30, 5), 0);
        String before = picture(y);
        y.odds(0, 30, 99);
        dueAsBefore("odds", y, before);
    }

    /** FORMS that take so long that some seeds' DAYS are too few. */
    private static void oddsOfManyForms() {
        String office = "person a;person b;person c;grudge b a 9;grudge b c 9;rule any;"
                + "form f a 9;form g a 8;form h c 7;form i c 9;";
        TriplicateForms x = Desk.with(office);
        int some = 0;
        for (int seed = -300; seed <= 300; seed += 30) {
            for (int f = 0; f < 4; f++) {
                int granted = oddsByHand(office, f, 30, seed);
                due("odds(" + f + ", 30, " + seed + ")", x.odds(f, 30, seed), granted);
                some += granted > 0 && granted < 30 ? 1 : 0;
            }
        }
        due("most of these are neither none nor all", some > 60, true);
    }

    private static int oddsByHand(String office, int f, int n, int seed) {
        int granted = 0;
        for (int i = 0; i < n; i++) {
            TriplicateForms y = Desk.with(office);
            Desk.drawByHand(y, 20, seed + i);
            granted += y.form(f, 5) == 2 ? 1 : 0;
        }
        return granted;
    }

    // ------------------------------------------------------------------ Promises 35 to 40

    /**
     * Promise 35: "judged, all staying as it is (lives 0), or lived as far as it is not WRONG (1): the LINE that is WRONG
     * (from 0); NONE: none; -2 less the place of a FAULT; -1000: another lives (the tape stays)."
     */
    private static void bookLives() {
        TriplicateForms x = Desk.with(OFFICE);
        x.sign(0, 0);
        due("judged", Desk.book(x, "a retires;e retires;a retires;", 0), 2);
        String before = picture(x);
        due("judged again", Desk.book(x, "a retires;e retires;a retires;", 0), 2);
        dueAsBefore("a BOOK that is judged", x, before);
        due("all stays", x.now(6), 12);
        due("a BOOK that is judged is not undone", x.undo(), 0);
        due("lived as far", Desk.book(x, "a retires;e retires;a retires;e returns;", 1), 2);
        due("two LINES were", x.now(6), 29);
        due("WRONG in the first", Desk.book(x, "a retires;day 1;", 1), 0);
        due("no DAY went", x.now(0), 0);
        due("none", Desk.book(x, "a returns;e returns;", 1), NONE);
        due("a FAULT at 0", Desk.book(x, ";", 1), -2);
        due("a FAULT behind LINES: none is lived", Desk.book(x, "a retires;;", 1), -12);
        due("none was lived", x.now(6), 12);
        Desk.feed(x, "a retires;");
        for (int lives : new int[] {-1, 2, 3, Integer.MIN_VALUE, Integer.MAX_VALUE}) {
            due("book(" + lives + ")", x.book(lives), -1000);
            due("the tape stays", x.count(3), 10);
        }
        due("the BOOK that stayed", x.book(1), NONE);
        due("lived", x.now(6), 13);
        due("the tape is empty", x.count(3), 0);
        due("60 DAYS and 60", Desk.book(x, "day 60;".repeat(6) + "day 40;day 1;", 0), 7);
        due("41 of 40", Desk.book(x, "day 60;".repeat(6) + "day 41;", 1), 6);
        due("none of the 41 went", x.now(0), 360);
        due("40 of 40", Desk.book(x, "day 40;", 1), NONE);
        due("DAY 400", x.now(0), 400);
    }

    private static void why(String text, int line, int why) {
        for (int lives = 0; lives < 2; lives++) {
            TriplicateForms x = Desk.with(OFFICE);
            due("book '" + text + "'", Desk.book(x, text, lives), line);
            due("why '" + text + "'", x.told(0), why);
            due("LINES ahead of it '" + text + "'", x.told(1), line);
            due("all stays or not '" + text + "'", x.now(0), lives == 0 ? 0 : x.told(2));
        }
    }

    /** Promise 36: "Of the latest book() that had no FAULT (and was not -1000): 0 why it was WRONG .. 71 .., NONE: .." */
    private static void toldOfTheLatest() {
        why("void f;a signs f;", 1, 1);
        why("a signs f;a signs f;", 1, 2);
        why("e signs f;", 0, 3);
        why("b softens a;b softens a;b softens a;b softens a;", 3, 11);
        why("a softens a;", 0, 11);
        why("a resents a;", 0, 21);
        why("b resents a;".repeat(7), 6, 22);
        why("c retires;", 0, 31);
        why("a returns;", 0, 41);
        why("day 1;void f;void f;", 2, 51);
        why("day 2;lodge f;", 1, 61);
        why("day 60;".repeat(7), 6, 71);
        TriplicateForms x = Desk.with(OFFICE);
        Desk.book(x, "day 1", 0);
        due("a FAULT is none", x.told(0), NONE);
        Desk.book(x, "day 1;", 2);
        due("-1000 is none", x.told(0), NONE);
        due("it is one", x.book(0), NONE);
        due("0: it was not", x.told(0), 0);
        due("all LINES", x.told(1), 1);
        due("the DAY then", x.told(2), 1);
        due("none is GRANTED", x.told(3), 0);
        Desk.book(x, "a signs f;b signs f;d signs f;day 1;day 1;c retires;", 0);
        due("why", x.told(0), 31);
        due("five are ahead", x.told(1), 5);
        due("DAY 2 then", x.told(2), 2);
        due("f is GRANTED then", x.told(3), 1);
        due("not now", x.now(3), 0);
        due("none is WRONG", Desk.book(x, "day 1;", 0), NONE);
        due("0 behind a WRONG one", x.told(0), 0);
        x.end(0);
        Desk.book(x, "a signs f;b signs f;d signs f;day 1;day 1;c retires;", 0);
        Desk.book(x, "zoe retires;", 0);
        Desk.book(x, "day 5;", 7);
        due("FAULT and -1000 leave it", x.told(0) + x.told(1) + x.told(2) + x.told(3), 39);
    }

    /** Promise 37: "how many ONES ..; -1 less the place of a FAULT: it stays." */
    private static void sentenceStays() {
        TriplicateForms x = Desk.with(OFFICE);
        due("no SENTENCE stays none", Desk.sentence(x, ""), -1);
        due("none", x.said(NONE), NONE);
        due("one", Desk.sentence(x, "number=1"), 1);
        due("a FAULT at the last TOKEN", Desk.sentence(x, "number=0 and open or"), -21);
        due("it stays", x.said(0), 1);
        due("it stays", x.said(1), NONE);
        due("tape", x.count(3), 0);
        due("another", Desk.sentence(x, "not(number=1)"), 3);
        due("is the SENTENCE now", x.said(0), 0);
    }

    /** Promise 38: "how many (k NONE), or the k-th. NONE: there is no SENTENCE, none such." */
    private static void saidOfForms() {
        TriplicateForms x = Desk.with(EIGHT + "form p a 1;form q b 1;form r a 1;form s h 1;form t a 1;form u b 1;"
                + "form v b 1;form w h 1;");
        due("no SENTENCE", x.said(NONE), NONE);
        due("no SENTENCE", x.said(0), NONE);
        due("all", saidOf(x, "open"), 255);
        due("how many", x.said(NONE), 8);
        due("the first", x.said(0), 0);
        due("the last", x.said(7), 7);
        due("behind the last", x.said(8), NONE);
        due("of h", saidOf(x, "about h"), 136);
        due("how many", x.said(NONE), 2);
        due("the first", x.said(0), 3);
        due("the last", x.said(1), 7);
        due("behind the last", x.said(2), NONE);
        due("of none", saidOf(x, "filed"), 0);
        due("how many", x.said(NONE), 0);
        due("none such", x.said(0), NONE);
        Desk.sentence(x, "open");
        for (int far : FAR) {
            due("said(" + far + ")", x.said(far), far == NONE ? 8 : NONE);
        }
    }

    /**
     * Promises 39 and 40: "are kept in place k (0, 1): true; false: no such one."; "They are as kept in place k (the
     * tape, and what other calls told last, stays; nothing can be undone): true; false: no such one, or nothing is kept
     * there."
     */
    private static void imagesAndRestore() {
        TriplicateForms x = Desk.with(OFFICE + "rule any;");
        for (int far : FAR) {
            due("image(" + far + ")", x.image(far), false);
            due("restore(" + far + ")", x.restore(far), false);
        }
        due("image(2)", x.image(2), false);
        due("nothing is kept", x.restore(0), false);
        x.sign(0, 0);
        x.days(2);
        Desk.sentence(x, "clear");
        String before = picture(x);
        due("kept in 1", x.image(1), true);
        due("nothing is kept in 0", x.restore(0), false);
        due("restore that is refused leaves undo", x.undo(), 1);
        Desk.office(x, "person z;");
        due("kept in 0", x.image(0), true);
        due("restore 1", x.restore(1), true);
        dueAsBefore("restore", x, before);
        due("nothing can be undone", x.undo(), NONE);
        Desk.feed(x, "abcdefg");
        x.book(5);
        x.stamp(1);
        x.match();
        resent(x, 4, 1, 1);
        x.cover();
        x.end(0);
        Desk.fits(x, 4);
        Desk.book(x, "e signs g;e signs g;", 0);
        Desk.feed(x, "abcdefg");
        due("restore 0", x.restore(0), true);
        due("z alone", x.count(0), 1);
        due("ask stays", x.ask(), 2);
        due("covering stays", x.covering(), 8);
        due("told stays", x.told(0), 2);
        due("no SENTENCE", x.said(NONE), NONE);
        due("the RULE", x.count(2), 0);
        due("the tape stays", x.count(3), 7);
        due("the STAMP stays", x.byteAt(0), 'g');
        due("matched stays", x.matched(0), 1);
        x.end(0);
        due("restore 1 once more", x.restore(1), true);
        x.days(7);
        due("and again", x.restore(1), true);
        due("nothing can be undone, though something was done", x.undo(), NONE);
        due("the DAY that was kept", x.now(0), 2);
        due("image over an image", x.image(0), true);
        x.days(1);
        due("restore 0", x.restore(0), true);
        due("the later one", x.count(0), 5);
    }
}
