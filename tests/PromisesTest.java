/** Each promise of the document by itself: ordinary calls, the edges that it names, wrong arguments. */
public final class PromisesTest {
    private static final int NONE = TriplicateForms.NONE;

    // ann 0, bob 1, cid 2 and dot 3 in the drawer, eve 4; dog about ann, cat about bob, bath about eve (clear).
    private static final String OFFICE = "person ann;person bob;person cid retired;person dot retired;person eve;"
            + "grudge bob ann 3;grudge eve ann 5;grudge ann bob 2;grudge cid bob 2;shy cid ann;"
            + "form dog ann 2;form cat bob 1;form bath eve 3;";
    private static final String SMALL = "person a;person b;person c retired;grudge b a 1;form f a 1;";

    private PromisesTest() {
    }

    public static void main(String[] args) {
        newObject();
        tape();
        officeText();
        officeFaults();
        officeLimits();
        newOffice();
        faultKinds();
        formAnswers();
        personAnswers();
        grudgeAnswers();
        nowAnswers();
        signing();
        hurtAndThird();
        softening();
        resenting();
        drawer();
        cancelAndLodge();
        daysGo();
        undoing();
        parts();
        whoCan();
        whenGranted();
        matching();
        fitting();
        asking();
        covering();
        easing();
        serving();
        martyrs();
        stamps();
        drawing();
        odds();
        bookRuns();
        bookWrongs();
        bookFaults();
        sentences();
        sentenceFaults();
        images();
        counts();
        Desk.finish("PromisesTest");
    }

    private static void due(String call, long got, long want) {
        Desk.due(call, got, want);
    }

    private static void due(String call, boolean got, boolean want) {
        Desk.due(call, got, want);
    }

    private static void newObject() {
        due("NONE", NONE, -1);
        TriplicateForms x = new TriplicateForms();
        for (int what = 0; what < 4; what++) {
            due("1 count(" + what + ")", x.count(what), 0);
        }
        for (int what = 0; what < 8; what++) {
            due("1 now(" + what + ")", x.now(what), 0);
        }
        due("1 fault()", x.fault(), 0);
        due("1 undo()", x.undo(), NONE);
        due("1 matched(0)", x.matched(0), NONE);
        due("1 ask()", x.ask(), NONE);
        due("1 covering()", x.covering(), NONE);
        due("1 byteAt(0)", x.byteAt(0), NONE);
        due("1 told(1)", x.told(1), NONE);
        due("1 said(-1)", x.said(-1), NONE);
        due("1 restore(0)", x.restore(0), false);
    }

    private static void tape() {
        TriplicateForms x = new TriplicateForms();
        due("3 end(0)", x.end(0), true);
        due("3 end(1)", x.end(1), false);
        due("3 end(-1)", x.end(-1), false);
        due("2 feed", x.feed(0x70657273, 0x6f6e2061, 0x3b202020, 0x20202020, 0x200a2020), 20);
        due("4 office of what was fed", x.office(), 1);
        due("4 one person", x.count(0), 1);
        for (int k = 1; k <= 47; k++) {
            due("2 feed " + k, x.feed(-1, k, 0, 1 << 31, 0), 20 * k);
        }
        due("2 feed a 48th", x.feed(0, 0, 0, 0, 0), NONE);
        due("2 tape as it was", x.count(3), 940);
        due("3 end(941)", x.end(941), false);
        due("3 end(940)", x.end(940), true);
        due("3 end(921)", x.end(921), true);
        due("2 feed that would be 941", x.feed(0, 0, 0, 0, 0), NONE);
        due("3 end(920)", x.end(920), true);
        due("2 feed that is 940", x.feed(0, 0, 0, 0, 0), 940);
        due("3 end(3)", x.end(3), true);
        due("2 feed behind three", x.feed(0, 0, 0, 0, 0), 23);
        x.end(0);
        due("2 the highest byte first", Desk.feed(x, new byte[0]).feed(0x00010203, 0, 0, 0, 0), 20);
    }

    private static void officeText() {
        TriplicateForms x = new TriplicateForms();
        due("4 empty", x.office(), 0);
        due("4 blanks", Desk.office(x, " \n "), 0);
        due("4 OFFICE", Desk.office(x, OFFICE), 13);
        due("4 tape empty then", x.count(3), 0);
        due("4 without blanks", Desk.office(x, "person a;person b;grudge a b 9;grudge b a 1;shy a b;shy b a;"
                + "rule any;form f b 009;"), 8);
        due("4 rule any", x.count(2), 1);
        due("4 grudge told as 9", x.grudge(0, 1), 9);
        due("4 days told as 009", x.form(0, 6), 9);
        due("4 shy", x.person(1, 4), 1);
        due("4 lines on lines", Desk.office(x, "\nperson\nabcdefg\nretired\n;\nrule drawer ; "), 2);
        due("4 rule drawer", x.count(2), 0);
        due("4 retired", x.now(6), 1);
    }

    private static void officeFault(String text, int place, int kind) {
        TriplicateForms x = Desk.with(SMALL);
        due("4 office '" + text + "'", Desk.office(x, text), -1 - place);
        due("5 fault of '" + text + "'", x.fault(), kind);
        due("4 it stays behind '" + text + "'", x.count(0), 3);
        due("4 tape is empty behind '" + text + "'", x.count(3), 0);
    }

    private static void officeFaults() {
        officeFault("person", 6, 1);
        officeFault("person a", 8, 1);
        officeFault("person a  ", 10, 1);
        officeFault("person a.", 8, 1);
        officeFault("person A;", 7, 1);
        officeFault("person abcdefgh;", 7, 1);
        officeFault("person a1;", 7, 1);
        officeFault("person 1;", 7, 1);
        officeFault("person number;", 7, 1);
        officeFault("person signs;", 7, 1);
        officeFault("person a retires;", 9, 1);
        officeFault("person a;;", 9, 1);
        officeFault("a;", 0, 1);
        officeFault("day 1;", 0, 1);
        officeFault("person a;\tperson b;", 9, 1);
        officeFault("person a;person a;", 16, 3);
        officeFault("person a;form a a 1;", 14, 3);
        officeFault("person a;form f a 1;person f;", 27, 3);
        officeFault("person a;form f f 1;", 16, 3);
        officeFault("person a;form f b 1;", 16, 3);
        officeFault("person a;form f a 0;", 18, 2);
        officeFault("person a;form f a 10;", 18, 2);
        officeFault("person a;form f a 1000;", 18, 1);
        officeFault("person a;form f a b;", 18, 1);
        officeFault("person a;form f 1;", 16, 1);
        officeFault("person a;grudge a a 1;", 18, 3);
        officeFault("person a;person b;grudge a b 0;", 29, 2);
        officeFault("person a;person b;grudge a b 10;", 29, 2);
        officeFault("person a;person b;grudge a b 1;grudge a b 1;", 40, 3);
        officeFault("person a;person b;form f a 1;grudge a f 1;", 38, 3);
        officeFault("person a;person b;grudge a c 1;", 27, 3);
        officeFault("person a;person b;grudge a shy 1;", 27, 1);
        officeFault("person a;shy a a;", 15, 3);
        officeFault("person a;person b;shy a b;shy b a;shy a b;", 40, 3);
        officeFault("grudge a b 1;person a;person b;", 7, 3);
        officeFault("rule some;", 5, 1);
        officeFault("rule any", 8, 1);
        officeFault("rule any;rule any;", 9, 3);
        officeFault("rule drawer;rule", 12, 3);
    }

    private static void officeLimits() {
        String eight = "person a;person b;person c;person d;person e;person f;person g;person h;";
        officeFault(eight + "person i;", 72, 4);
        officeFault(eight + "person a;", 72, 4);
        String forms = "form p a 1;form q a 1;form r a 1;form s a 1;form t a 1;form u a 1;form v a 1;form w a 1;";
        officeFault("person a;" + forms + "form x a 1;", 97, 4);
        TriplicateForms x = new TriplicateForms();
        due("4 eight of each", Desk.office(x, eight + forms), 16);
        due("4 eight persons", x.count(0), 8);
        due("4 eight forms", x.count(1), 8);
        due("4 900 bytes", Desk.office(x, "person a;" + " ".repeat(891)), 1);
        officeFault("person a;" + " ".repeat(892), 900, 1);
        officeFault(" ".repeat(890) + "person a;;", 899, 1);
        officeFault(" ".repeat(893) + "person a;", 900, 1);
        officeFault(" ".repeat(892) + "person a;", 900, 1);
        officeFault(" ".repeat(897) + "personal;", 897, 1);
        officeFault("person a;" + " ".repeat(880) + "person a" + " ".repeat(9), 896, 3);
        officeFault(" ".repeat(898) + "personx;", 898, 1);
        officeFault("person a;" + " ".repeat(884) + "person a;", 900, 1);
        officeFault("person a;" + " ".repeat(883) + "person a;", 899, 3);
        due("4 the last byte is the 900th", Desk.office(x, " ".repeat(891) + "person a;"), 1);
    }

    private static void newOffice() {
        TriplicateForms x = Desk.with(OFFICE);
        x.sign(0, 0);
        x.days(3);
        x.match();
        x.cover();
        x.stamp(0);
        Desk.fits(x, 0);
        Desk.book(x, "day 1;", 0);
        Desk.sentence(x, "open");
        x.image(0);
        int matched = x.matched(2);
        int covering = x.covering();
        due("4 a new OFFICE", Desk.office(x, OFFICE), 13);
        due("4 DAY 0", x.now(0), 0);
        due("4 all OPEN", x.now(1), 7);
        due("4 nothing signed", x.form(0, 2), NONE);
        due("4 how often", x.person(0, 2), 0);
        due("4 no SENTENCE", x.said(-1), NONE);
        due("4 nothing can be undone", x.undo(), NONE);
        due("4 matched stays", x.matched(2), matched);
        due("4 covering stays", x.covering(), covering);
        due("4 ask stays", x.ask(), 1);
        due("4 stamp stays", x.byteAt(0), 'd');
        due("4 told stays", x.told(2), 4);
        x.days(1);
        Desk.sentence(x, "clear");
        due("4 a FAULT", Desk.office(x, "x"), -1);
        due("4 SENTENCE stays with a FAULT", x.said(-1), 1);
        due("4 it can be undone with a FAULT", x.undo(), 0);
    }

    private static void faultKinds() {
        TriplicateForms x = Desk.with(SMALL);
        due("5 none", x.fault(), 0);
        Desk.book(x, "day 61;", 0);
        due("5 of a book", x.fault(), 2);
        x.book(5);
        due("5 book of -1000 leaves it", x.fault(), 2);
        Desk.sentence(x, "about f");
        due("5 of a sentence", x.fault(), 3);
        Desk.sentence(x, "open");
        due("5 none behind one", x.fault(), 0);
        Desk.office(x, "7");
        due("5 of an office", x.fault(), 1);
        Desk.book(x, "", 0);
        due("5 none of a book", x.fault(), 0);
    }

    private static void formAnswers() {
        TriplicateForms x = Desk.with(OFFICE);
        due("6 about", x.form(1, 0), 1);
        due("6 hurt of like ones the first", x.form(1, 1), 0);
        due("6 hurt is the greatest", x.form(0, 1), 4);
        due("6 clear", x.form(2, 1), NONE);
        due("6 as told", x.form(0, 6), 2);
        x.sign(0, 0);
        x.sign(4, 0);
        x.sign(3, 0);
        due("6 who signed as about", x.form(0, 2), 0);
        due("6 who signed as hurt", x.form(0, 3), 4);
        due("6 who signed as third", x.form(0, 4), 3);
        due("6 filed", x.form(0, 5), 1);
        due("6 days left", x.form(0, 6), 2);
        x.days(1);
        due("6 one day left", x.form(0, 6), 1);
        x.cancel(0);
        due("6 voided", x.form(0, 5), 3);
        due("6 voided: as told", x.form(0, 6), 2);
        due("6 voided: who signed stays", x.form(0, 3), 4);
        x.undo();
        x.days(1);
        due("6 granted", x.form(0, 5), 2);
        due("6 granted: no day left", x.form(0, 6), 0);
        Desk.dueNoSuch("6 form(3, 0)", () -> x.form(3, 0));
        Desk.dueNoSuch("6 form(-1, 0)", () -> x.form(-1, 0));
        Desk.dueNoSuch("6 form(0, 7)", () -> x.form(0, 7));
        Desk.dueNoSuch("6 form(0, -1)", () -> x.form(0, -1));
    }

    private static void personAnswers() {
        TriplicateForms x = Desk.with(OFFICE);
        due("7 retired", x.person(3, 0), 1);
        due("7 not retired", x.person(4, 0), 0);
        due("7 signed none", x.person(1, 1), NONE);
        x.sign(1, 1);
        due("7 signed one", x.person(1, 1), 1);
        due("7 how often", x.person(1, 2), 1);
        x.cancel(1);
        due("7 signed one that is void now", x.person(1, 1), 1);
        x.days(1);
        due("7 signed none on the next day", x.person(1, 1), NONE);
        x.lodge(1);
        x.sign(1, 1);
        due("7 how often, voided ones too", x.person(1, 2), 2);
        x.resent(1, 2);
        due("7 all his grudges", x.person(1, 3), 4);
        due("7 shy of", x.person(2, 4), 1);
        Desk.dueNoSuch("7 person(5, 0)", () -> x.person(5, 0));
        Desk.dueNoSuch("7 person(-1, 0)", () -> x.person(-1, 0));
        Desk.dueNoSuch("7 person(0, 5)", () -> x.person(0, 5));
        Desk.dueNoSuch("7 person(0, -1)", () -> x.person(0, -1));
    }

    private static void grudgeAnswers() {
        TriplicateForms x = Desk.with(OFFICE);
        due("8 grudge", x.grudge(4, 0), 5);
        due("8 the other way", x.grudge(0, 4), 0);
        due("8 alike", x.grudge(1, 1), NONE);
        due("8 no such one", x.grudge(0, 5), NONE);
        due("8 no such one", x.grudge(-1, 0), NONE);
    }

    private static void nowAnswers() {
        TriplicateForms x = Desk.with(OFFICE);
        x.cancel(2);
        x.sign(1, 1);
        x.sign(0, 1);
        x.sign(3, 1);
        due("9 open", x.now(1), 1);
        due("9 filed", x.now(2), 2);
        due("9 void", x.now(4), 4);
        due("9 clear, void too", x.now(5), 4);
        due("9 all grudges", x.now(7), 12);
        x.days(2);
        due("9 day", x.now(0), 2);
        due("9 granted", x.now(3), 2);
        due("9 a grudge grew", x.now(7), 13);
        x.back(2);
        due("9 drawer", x.now(6), 8);
        due("9 another what", x.now(8), NONE);
        due("9 another what", x.now(-1), NONE);
    }

    private static void signing() {
        TriplicateForms x = Desk.with(OFFICE);
        due("10 no such person", x.sign(5, 0), NONE);
        due("10 no such form", x.sign(0, 3), NONE);
        due("10 no such form", x.sign(0, -1), NONE);
        due("10 no part", x.sign(1, 0), 3);
        due("10 shy", x.sign(2, 0), 3);
        due("10 about", x.sign(0, 0), 0);
        due("10 signed on this day", x.sign(0, 1), 2);
        x.days(1);
        due("10 signed one part of it", x.sign(0, 0), 3);
        due("10 third", x.sign(3, 0), 0);
        due("10 hurt", x.sign(4, 0), 0);
        due("10 filed ahead of signed on this day", x.sign(3, 0), 1);
        due("10 filed", x.now(2), 1);
        x.cancel(1);
        due("10 void", x.sign(1, 1), 1);
        x.days(2);
        due("10 granted", x.sign(1, 0), 1);
    }

    private static void hurtAndThird() {
        TriplicateForms x = Desk.with("person a;person b;person c;person d;grudge b a 2;rule any;form f a 1;");
        x.sign(2, 0);
        due("10 any: no drawer is needed", x.form(0, 4), 2);
        x.resent(2, 0);
        x.resent(2, 0);
        x.resent(2, 0);
        due("6 who signed as third is hurt now", x.form(0, 1), 2);
        due("10 who was hurt can't", x.sign(1, 0), 3);
        due("10 who is hurt has signed", x.sign(2, 0), 2);
        x.days(1);
        due("10 who is hurt has signed", x.sign(2, 0), 3);
        due("21 nobody for hurt", x.when(0), NONE);
        x.soften(2, 0);
        due("6 of like ones the first", x.form(0, 1), 1);
        x.sign(1, 0);
        x.soften(1, 0);
        x.soften(1, 0);
        x.soften(2, 0);
        x.soften(2, 0);
        due("6 hurt is who signed", x.form(0, 1), 1);
        due("9 not clear, signed", x.now(5), 0);
        x.resent(3, 0);
        due("6 hurt is who signed, whoever has a grudge", x.form(0, 1), 1);
        x.sign(0, 0);
        x.days(1);
        due("17 his grudge grew from none", x.grudge(1, 0), 1);
    }

    private static void softening() {
        TriplicateForms x = Desk.with(OFFICE);
        due("11 soften", x.soften(0, 1), 0);
        due("11 1 less", x.grudge(0, 1), 1);
        due("11 soften", x.soften(0, 1), 0);
        due("11 no grudge", x.soften(0, 1), 1);
        due("11 alike", x.soften(0, 0), 1);
        due("11 no such one", x.soften(0, 5), NONE);
        due("11 no such one", x.soften(-1, 0), NONE);
    }

    private static void resenting() {
        TriplicateForms x = Desk.with(OFFICE);
        due("12 resent", x.resent(2, 4), 0);
        due("12 1 more", x.grudge(2, 4), 1);
        due("12 bath is not clear", x.form(2, 1), 2);
        due("12 alike", x.resent(2, 2), 1);
        for (int i = 0; i < 8; i++) {
            due("12 resent", x.resent(2, 4), 0);
        }
        due("12 it is 9", x.resent(2, 4), 2);
        due("12 it is 9 still", x.grudge(2, 4), 9);
        due("12 no such one", x.resent(5, 0), NONE);
        due("12 no such one", x.resent(0, -1), NONE);
    }

    private static void drawer() {
        TriplicateForms x = Desk.with(OFFICE);
        due("13 retire", x.retire(0), 0);
        due("13 he is", x.retire(0), 1);
        due("13 drawer", x.now(6), 13);
        due("13 no such one", x.retire(5), NONE);
        due("13 no such one", x.retire(-1), NONE);
        due("14 back", x.back(3), 0);
        due("14 he is not", x.back(3), 1);
        due("14 drawer", x.now(6), 5);
        due("14 no third", x.sign(3, 0), 3);
        due("14 no such one", x.back(5), NONE);
    }

    private static void cancelAndLodge() {
        TriplicateForms x = Desk.with(OFFICE);
        due("16 not void", x.lodge(0), 1);
        x.sign(0, 0);
        due("15 cancel", x.cancel(0), 0);
        due("15 void", x.cancel(0), 1);
        due("16 lodge", x.lodge(0), 0);
        due("16 open", x.form(0, 5), 0);
        due("16 nothing of it is signed", x.form(0, 2), NONE);
        due("16 signed on this day all the same", x.sign(0, 0), 2);
        x.sign(4, 0);
        x.sign(3, 0);
        x.days(1);
        x.sign(0, 0);
        x.days(1);
        due("15 filed can be void", x.cancel(0), 0);
        x.days(5);
        due("15 void is not granted", x.form(0, 5), 3);
        x.lodge(0);
        x.sign(0, 0);
        x.sign(4, 0);
        x.sign(3, 0);
        due("16 all days anew", x.form(0, 6), 2);
        x.days(2);
        due("15 granted", x.cancel(0), 1);
        due("16 granted", x.lodge(0), 1);
        due("15 no such one", x.cancel(3), NONE);
        due("16 no such one", x.lodge(-1), NONE);
    }

    private static void daysGo() {
        TriplicateForms x = Desk.with(SMALL);
        due("17 0", x.days(0), NONE);
        due("17 61", x.days(61), NONE);
        due("17 -1", x.days(-1), NONE);
        for (int k = 0; k < 6; k++) {
            due("17 60", x.days(60), 60);
        }
        due("17 39", x.days(39), 39);
        x.sign(0, 0);
        x.sign(1, 0);
        x.sign(2, 0);
        due("21 by DAY 400", x.when(0), 400);
        due("17 the last one", x.days(60), 1);
        due("17 all are over", x.now(0), 400);
        due("17 granted by then", x.now(3), 1);
        due("17 none goes", x.days(1), 0);
        TriplicateForms y = Desk.with("person a;person b;person c retired;grudge b a 9;form f a 1;");
        y.sign(0, 0);
        y.sign(1, 0);
        y.sign(2, 0);
        y.days(1);
        due("17 9 at most", y.grudge(1, 0), 9);
        due("17 granted", y.form(0, 5), 2);
    }

    private static void undoing() {
        TriplicateForms x = Desk.with(OFFICE);
        x.sign(0, 0);
        x.sign(0, 0);
        due("18 only what was done", x.undo(), 0);
        due("18 as it was", x.form(0, 2), NONE);
        due("18 signed on this day", x.person(0, 1), NONE);
        due("18 how often", x.person(0, 2), 0);
        due("18 none", x.undo(), NONE);
        for (int k = 0; k < 9; k++) {
            x.resent(0, 4);
        }
        due("18 8 are kept", x.undo(), 7);
        for (int k = 6; k >= 0; k--) {
            due("18 " + k + " more", x.undo(), k);
        }
        due("18 the oldest is lost", x.undo(), NONE);
        due("18 one grudge is left", x.grudge(0, 4), 1);
        x.soften(0, 4);
        x.retire(0);
        x.back(0);
        x.cancel(0);
        x.lodge(0);
        x.days(2);
        x.drawn(2, 5);
        Desk.book(x, "void dog;lodge dog;day 3;", 1);
        due("18 a book is one", x.undo(), 7);
        due("18 day", x.now(0), 4);
        due("18 drawn", x.undo(), 6);
        due("18 days", x.undo(), 5);
        due("18 day", x.now(0), 0);
        due("18 lodge", x.undo(), 4);
        due("18 void again", x.now(4), 1);
        due("18 cancel", x.undo(), 3);
        due("18 back", x.undo(), 2);
        due("18 retired again", x.now(6), 13);
        due("18 retire", x.undo(), 1);
        due("18 soften", x.undo(), 0);
        due("18 grudge again", x.grudge(0, 4), 1);
        Desk.book(x, "lodge dog;", 1);
        due("18 no LINE was lived", x.undo(), NONE);
        Desk.book(x, "day 1;lodge dog;", 1);
        Desk.book(x, "day 1;", 0);
        due("18 a LINE was lived", x.undo(), 0);
        for (int k = 0; k < 6; k++) {
            x.days(60);
        }
        x.days(40);
        x.sign(0, 0);
        x.days(1);
        x.drawn(1, 1);
        x.undo();
        due("18 no day, nothing drawn", x.person(0, 1), NONE);
    }

    private static void parts() {
        TriplicateForms x = Desk.with(OFFICE);
        due("19 about", x.part(0, 0), 0);
        due("19 hurt", x.part(4, 0), 1);
        due("19 third", x.part(3, 0), 2);
        due("19 shy", x.part(2, 0), NONE);
        due("19 not retired", x.part(1, 0), NONE);
        due("19 no such one", x.part(5, 0), NONE);
        due("19 no such one", x.part(0, 3), NONE);
        due("19 no such one", x.part(-1, -1), NONE);
        x.sign(0, 1);
        due("19 he signed on this day", x.part(0, 0), 0);
        due("19 he signed it", x.part(0, 1), NONE);
        x.sign(3, 1);
        due("19 third is signed", x.part(2, 1), NONE);
        x.cancel(0);
        due("19 not open", x.part(0, 0), NONE);
    }

    private static void whoCan() {
        TriplicateForms x = Desk.with(OFFICE);
        due("20 can", x.can(0), 25);
        due("20 can", x.can(1), 15);
        due("20 clear", x.can(2), 28);
        x.sign(0, 1);
        due("20 whether he signed on this day", x.can(0), 25);
        due("20 signed", x.can(1), 14);
        x.cancel(0);
        due("20 not open", x.can(0), 0);
        due("20 no such one", x.can(3), NONE);
        due("20 no such one", x.can(-1), NONE);
    }

    private static void whenGranted() {
        TriplicateForms x = Desk.with(OFFICE);
        due("21 today", x.when(0), 2);
        due("21 clear", x.when(2), NONE);
        x.sign(0, 1);
        due("21 on the next day", x.when(0), 3);
        due("21 he signed this one", x.when(1), 1);
        x.sign(3, 1);
        due("21 of two thirds", x.when(1), 1);
        x.sign(1, 1);
        x.days(1);
        due("21 granted", x.when(1), NONE);
        x.sign(0, 0);
        x.sign(4, 0);
        x.sign(3, 0);
        due("21 filed", x.when(0), 3);
        x.days(1);
        due("21 filed", x.when(0), 3);
        x.cancel(0);
        due("21 void", x.when(0), NONE);
        x.lodge(0);
        x.back(3);
        due("21 no third", x.when(0), NONE);
        due("21 no such one", x.when(3), NONE);
        TriplicateForms y = Desk.with(SMALL);
        for (int k = 0; k < 6; k++) {
            y.days(60);
        }
        y.days(39);
        due("21 by DAY 400", y.when(0), 400);
        y.sign(2, 0);
        due("21 the third signed", y.when(0), 400);
        y.undo();
        y.cancel(0);
        y.lodge(0);
        y.sign(0, 0);
        y.cancel(0);
        y.lodge(0);
        due("21 not by DAY 400", y.when(0), NONE);
    }

    private static void matching() {
        TriplicateForms x = Desk.with(OFFICE);
        due("22 match", x.match(), 5);
        int[] want = {0, 1, 1, 0, 0, NONE};
        for (int p = 0; p < want.length; p++) {
            due("23 matched(" + p + ")", x.matched(p), want[p]);
        }
        due("23 no such one", x.matched(-1), NONE);
        due("23 no such one", x.matched(8), NONE);
        x.sign(0, 0);
        due("23 by the latest match()", x.matched(0), 0);
        due("22 who signed is not asked", x.match(), 4);
        due("23 none", x.matched(0), NONE);
        // c could take either FORM's THIRD, d only g's: c must leave g to him.
        TriplicateForms y = Desk.with("person a;person b;person c retired;person d retired;grudge b a 1;grudge a b 1;"
                + "shy d b;form f b 1;form g a 1;");
        due("22 all of four", y.match(), 4);
        due("23 a", y.matched(0), 0);
        due("23 b", y.matched(1), 0);
        due("23 c leaves g to d", y.matched(2), 0);
        due("23 d", y.matched(3), 1);
        // Nobody but one of c and d can be THIRD: the first one is.
        TriplicateForms z = Desk.with("person a;person b;person c retired;person d retired;grudge b a 1;form f a 1;");
        due("22 each part once", z.match(), 3);
        due("23 c", z.matched(2), 0);
        due("23 none behind all", z.matched(3), NONE);
        z.cancel(0);
        due("22 none is open", z.match(), 0);
    }

    private static void fitting() {
        TriplicateForms x = Desk.with(OFFICE);
        due("24 empty", x.fits(), NONE);
        due("24 third of all", Desk.fits(x, 3), 7);
        due("24 tape is empty then", x.count(3), 0);
        due("24 about and hurt", Desk.fits(x, 4, 0), 1);
        due("24 three", Desk.fits(x, 3, 4, 0), 1);
        due("24 two thirds", Desk.fits(x, 2, 3), 0);
        due("24 alike", Desk.fits(x, 0, 0), NONE);
        due("24 four", Desk.fits(x, 0, 1, 2, 3), NONE);
        due("24 tape is empty then", x.count(3), 0);
        due("24 no PERSON", Desk.fits(x, 5), NONE);
        due("24 no PERSON", Desk.fits(x, 255), NONE);
        x.sign(0, 0);
        x.cancel(1);
        due("24 however they are", Desk.fits(x, 3, 0), 3);
        TriplicateForms y = Desk.with("person a;person b;person c;grudge b a 1;rule any;form f a 1;");
        y.sign(1, 0);
        y.resent(2, 0);
        y.resent(2, 0);
        due("24 if nothing was signed c is hurt", Desk.fits(y, 1, 2), 1);
    }

    private static void asking() {
        TriplicateForms x = Desk.with("person a;person b;person c;person d retired;grudge b a 1;grudge b c 1;shy d c;"
                + "form f a 1;form g c 1;form h a 1;form i c 1;");
        due("25 ahead of any", x.ask(), NONE);
        due("24 b is hurt by all", Desk.fits(x, 1), 15);
        due("25 a signs half", x.ask(), 0);
        due("24 of one", Desk.fits(x, 0, 1), 5);
        due("25 of like ones the first", x.ask(), 0);
        due("24 none", Desk.fits(x, 0, 2), 0);
        due("25 stays with none", x.ask(), 0);
        TriplicateForms y = Desk.with("person a;person b;person c;grudge b a 1;grudge b c 1;"
                + "rule any;form f a 1;form g a 1;form h c 1;");
        due("24 b", Desk.fits(y, 1), 7);
        due("25 all can sign all", y.ask(), 0);
        TriplicateForms z = Desk.with("person a;person b;person c;person d;grudge a c 1;grudge b d 1;"
                + "person e retired;form f c 1;form g d 1;");
        due("24 e", Desk.fits(z, 4), 3);
        due("25 a", z.ask(), 0);
        z.resent(0, 3);
        z.resent(0, 3);
        due("25 as it was then", z.ask(), 0);
        due("24 e", Desk.fits(z, 4), 3);
        due("25 a signs both now, b none, c one", z.ask(), 2);
    }

    private static void covering() {
        TriplicateForms x = Desk.with(OFFICE);
        due("26 cover", x.cover(), 1);
        due("27 covering", x.covering(), 8);
        x.resent(0, 4);
        due("26 three forms", x.cover(), 1);
        due("27 covering", x.covering(), 8);
        TriplicateForms y = Desk.with("person a;person b;grudge a b 1;form f b 1;");
        due("26 by none", y.cover(), NONE);
        due("27 ahead of any", y.covering(), NONE);
        y.soften(0, 1);
        due("26 all are clear", y.cover(), 0);
        due("27 nobody", y.covering(), 0);
        y.resent(0, 1);
        due("26 by none", y.cover(), NONE);
        due("27 the latest that was not NONE", y.covering(), 0);
        TriplicateForms z = Desk.with("person a;person b;person c;person d;grudge a b 1;grudge b a 1;grudge c d 1;"
                + "grudge d c 1;form f b 1;form g d 1;");
        due("26 two", z.cover(), 2);
        due("27 the least as bits", z.covering(), 5);
        z.cancel(0);
        due("26 void ones too", z.cover(), 2);
    }

    private static void easing() {
        TriplicateForms x = Desk.with("person a;person b;person c;person d;person e;"
                + "grudge a e 4;grudge b e 2;grudge c e 2;grudge d e 3;form f e 1;");
        due("28 he is hurt", x.eased(0, 0), 0);
        due("28 b: a 3, d 1", x.eased(0, 1), 4);
        due("28 c: a 3, b 1, d 1", x.eased(0, 2), 5);
        due("28 d: a 2", x.eased(0, 3), 2);
        due("28 about", x.eased(0, 4), NONE);
        x.sign(0, 0);
        due("28 as if it was not signed", x.eased(0, 3), 2);
        x.soften(1, 4);
        x.soften(1, 4);
        due("28 no grudge", x.eased(0, 1), NONE);
        due("28 no such form", x.eased(1, 0), NONE);
        due("28 no such person", x.eased(0, 5), NONE);
        due("28 no such person", x.eased(-1, -1), NONE);
    }

    private static void serving() {
        TriplicateForms x = Desk.with(OFFICE);
        due("29 drawer", x.served(0), 2);
        x.back(3);
        due("29 drawer", x.served(0), 1);
        due("29 any", x.served(1), 2);
        x.resent(0, 4);
        due("29 any", x.served(1), 3);
        x.cancel(0);
        due("29 void ones too", x.served(1), 3);
        due("29 no such one", x.served(2), NONE);
        due("29 no such one", x.served(-1), NONE);
    }

    private static void martyrs() {
        TriplicateForms x = Desk.with(OFFICE);
        due("30 the first", x.martyr(), 0);
        x.resent(4, 1);
        x.resent(4, 1);
        x.resent(4, 1);
        due("30 by most", x.martyr(), 4);
        due("30 none", Desk.with("person a;form f a 1;").martyr(), NONE);
    }

    private static void stamps() {
        TriplicateForms x = Desk.with(OFFICE);
        Desk.dueText("31", Desk.stamped(x, 0), "dog wants about hurt third");
        Desk.dueText("31", Desk.stamped(x, 2), "bath is clear");
        x.sign(0, 0);
        Desk.dueText("31", Desk.stamped(x, 0), "dog wants hurt third");
        x.sign(3, 0);
        Desk.dueText("31", Desk.stamped(x, 0), "dog wants hurt");
        x.sign(4, 0);
        Desk.dueText("31", Desk.stamped(x, 0), "dog is filed");
        x.days(2);
        Desk.dueText("31", Desk.stamped(x, 0), "dog is granted");
        x.cancel(2);
        Desk.dueText("31", Desk.stamped(x, 2), "bath is void");
        due("31 no such one", x.stamp(3), NONE);
        due("31 no such one", x.stamp(-1), NONE);
        due("32 of the latest stamp", x.byteAt(0), 'b');
        due("32 the last", x.byteAt(11), 'd');
        due("32 none such", x.byteAt(12), NONE);
        due("32 none such", x.byteAt(-1), NONE);
        TriplicateForms y = Desk.with("person a;person b;grudge b a 1;form zyxwvut a 1;");
        Desk.dueText("31", Desk.stamped(y, 0), "zyxwvut wants about hurt third");
        y.sign(1, 0);
        Desk.dueText("31", Desk.stamped(y, 0), "zyxwvut wants about third");
        y.soften(1, 0);
        Desk.dueText("31", Desk.stamped(y, 0), "zyxwvut wants about third");
        y.sign(0, 0);
        Desk.dueText("31", Desk.stamped(y, 0), "zyxwvut wants third");
    }

    private static void dueLike(String call, TriplicateForms x, TriplicateForms y) {
        for (int what = 0; what < 8; what++) {
            due(call + ": now(" + what + ")", x.now(what), y.now(what));
        }
        for (int p = 0; p < x.count(0); p++) {
            for (int what = 0; what < 5; what++) {
                due(call + ": person(" + p + ", " + what + ")", x.person(p, what), y.person(p, what));
            }
        }
        for (int f = 0; f < x.count(1); f++) {
            for (int what = 0; what < 7; what++) {
                due(call + ": form(" + f + ", " + what + ")", x.form(f, what), y.form(f, what));
            }
        }
    }

    private static void drawing() {
        TriplicateForms x = new TriplicateForms();
        due("33 no PERSONS", x.drawn(1, 1), NONE);
        for (int seed : new int[] {0, 1, -7, 123456789, Integer.MIN_VALUE}) {
            TriplicateForms y = Desk.with(OFFICE);
            TriplicateForms z = Desk.with(OFFICE);
            due("33 drawn", y.drawn(4, seed), Desk.drawByHand(z, 4, seed));
            dueLike("33 drawn by " + seed, y, z);
        }
        TriplicateForms formless = Desk.with("person a;person b;");
        TriplicateForms like = Desk.with("person a;person b;");
        due("33 no FORMS", formless.drawn(20, 3), Desk.drawByHand(like, 20, 3));
        dueLike("33 no FORMS", formless, like);
        TriplicateForms y = Desk.with(OFFICE);
        due("33 0", y.drawn(0, 1), NONE);
        due("33 61", y.drawn(61, 1), NONE);
        for (int k = 0; k < 6; k++) {
            due("33 60", y.drawn(60, k), 60);
        }
        due("33 the last 40", y.drawn(60, 9), 40);
        due("33 none is left", y.drawn(1, 9), 0);
    }

    private static void odds() {
        TriplicateForms x = Desk.with(OFFICE);
        x.sign(0, 0);
        int[] granted = new int[3];
        for (int k = 0; k < 5; k++) {
            TriplicateForms y = Desk.with(OFFICE);
            y.sign(0, 0);
            y.drawn(20, Integer.MAX_VALUE - 1 + k);
            for (int f = 0; f < 3; f++) {
                granted[f] += y.form(f, 5) == 2 ? 1 : 0;
            }
        }
        for (int f = 0; f < 3; f++) {
            due("34 odds of " + f, x.odds(f, 5, Integer.MAX_VALUE - 1), granted[f]);
        }
        TriplicateForms like = Desk.with(OFFICE);
        like.sign(0, 0);
        dueLike("34 all stays", x, like);
        due("34 undo as ahead", x.undo(), 0);
        due("34 no form", x.odds(3, 1, 1), NONE);
        due("34 no seeds", x.odds(0, 0, 1), NONE);
        due("34 31 seeds", x.odds(0, 31, 1), NONE);
        TriplicateForms y = Desk.with(SMALL);
        y.sign(0, 0);
        y.sign(1, 0);
        y.sign(2, 0);
        due("34 filed is granted by all", y.odds(0, 30, 77), 30);
        y.cancel(0);
        due("34 void by none", y.odds(0, 30, 77), 0);
    }

    private static void bookRuns() {
        TriplicateForms x = Desk.with(OFFICE);
        String text = "ann signs dog;eve signs dog;dot signs dog;day 2;bob softens ann;cid resents dot;"
                + "eve retires;cid returns;void bath;lodge bath;";
        due("35 judged", Desk.book(x, text, 0), NONE);
        due("35 tape is empty then", x.count(3), 0);
        due("35 all stays", x.now(0), 0);
        due("35 nothing to undo", x.undo(), NONE);
        due("36 not wrong", x.told(0), 0);
        due("36 all lines", x.told(1), 10);
        due("36 day", x.told(2), 2);
        due("36 granted", x.told(3), 1);
        due("36 another what", x.told(4), NONE);
        due("36 another what", x.told(-1), NONE);
        due("35 lived", Desk.book(x, text, 1), NONE);
        due("35 day", x.now(0), 2);
        due("35 granted", x.now(3), 1);
        due("35 softened", x.grudge(1, 0), 2);
        due("35 resented", x.grudge(2, 3), 1);
        due("35 drawer", x.now(6), 24);
        due("35 another lives", Desk.book(x, "day 5;", 2), -1000);
        due("35 the tape stays", x.count(3), 6);
        due("36 and what was told", x.told(1), 10);
        due("35 it is a BOOK still", x.book(0), NONE);
        due("36 day", x.told(2), 7);
        due("35 an empty one", x.book(1), NONE);
        due("36 no line", x.told(1), 0);
        x.undo();
        due("36 told stays", x.told(2), 2);
    }

    private static void bookWrong(String text, int lives, int wrong, int why) {
        TriplicateForms x = Desk.with(OFFICE);
        due("35 book '" + text + "'", Desk.book(x, text, lives), wrong);
        due("36 why '" + text + "'", x.told(0), why);
        due("36 lines ahead '" + text + "'", x.told(1), wrong);
        due("35 lived as far '" + text + "'", x.undo(), lives == 1 && wrong > 0 ? 0 : NONE);
    }

    private static void bookWrongs() {
        for (int lives = 0; lives < 2; lives++) {
            bookWrong("void dog;ann signs dog;", lives, 1, 1);
            bookWrong("ann signs dog;ann signs cat;", lives, 1, 2);
            bookWrong("bob signs dog;", lives, 0, 3);
            bookWrong("day 1;dot softens ann;", lives, 1, 11);
            bookWrong("ann softens ann;", lives, 0, 11);
            bookWrong("ann resents ann;", lives, 0, 21);
            bookWrong("eve resents ann;eve resents ann;eve resents ann;eve resents ann;eve resents ann;", lives, 4, 22);
            bookWrong("dot retires;", lives, 0, 31);
            bookWrong("ann returns;", lives, 0, 41);
            bookWrong("void cat;void cat;", lives, 1, 51);
            bookWrong("lodge cat;", lives, 0, 61);
            bookWrong("day 60;day 60;day 60;day 60;day 60;day 60;day 40;day 1;", lives, 7, 71);
            bookWrong("day 60;day 60;day 60;day 60;day 60;day 60;day 41;", lives, 6, 71);
        }
    }

    private static void bookFault(String text, int place, int kind) {
        TriplicateForms x = Desk.with(OFFICE);
        Desk.book(x, "day 3;ann returns;", 0);
        due("35 book '" + text + "'", Desk.book(x, text, 1), -2 - place);
        due("5 fault of '" + text + "'", x.fault(), kind);
        due("35 tape is empty behind '" + text + "'", x.count(3), 0);
        due("35 all stays behind '" + text + "'", x.now(0), 0);
        due("36 told stays behind '" + text + "'", x.told(0), 41);
    }

    private static void bookFaults() {
        bookFault("day 1;ann", 9, 1);
        bookFault("day 0;", 4, 2);
        bookFault("day 61;", 4, 2);
        bookFault("day ann;", 4, 1);
        bookFault("ann signs ann;", 10, 3);
        bookFault("ann signs 1;", 10, 1);
        bookFault("dog signs ann;", 0, 3);
        bookFault("fay signs dog;", 0, 3);
        bookFault("ann softens dog;", 12, 3);
        bookFault("ann resents form;", 12, 1);
        bookFault("ann retires dog;", 12, 1);
        bookFault("ann dog;", 4, 1);
        bookFault("void ann;", 5, 3);
        bookFault("lodge fay;", 6, 3);
        bookFault("signs dog;", 0, 1);
        bookFault("day 1;;", 6, 1);
        String forty = "day 1;".repeat(40);
        bookFault(forty + "day 1;", 240, 4);
        bookFault(forty + "ann signs dog;", 240, 4);
        bookFault(forty + "fay signs dog;", 240, 3);
        bookFault(forty + ";", 240, 1);
        bookFault("day 1;" + " ".repeat(395), 400, 1);
        bookFault(" ".repeat(395) + "day 1;", 400, 1);
        bookFault(" ".repeat(396) + "dayday 1", 396, 3);
        TriplicateForms x = Desk.with(OFFICE);
        due("35 40 lines", Desk.book(x, forty, 1), NONE);
        due("35 400 bytes", Desk.book(x, "day 1;" + " ".repeat(394), 1), NONE);
    }

    private static void said(String text, int ones, int forms) {
        TriplicateForms x = Desk.with(OFFICE + "form hat ann 4;form ink bob 5;");
        // dog filed with a day gone, cat granted, bath clear and open, hat void, ink signed by bob alone
        Desk.book(x, "ann signs cat;bob signs cat;cid signs cat;day 1;ann signs dog;eve signs dog;dot signs dog;"
                + "day 1;void hat;bob signs ink;", 1);
        due("37 sentence '" + text + "'", Desk.sentence(x, text), ones);
        due("37 tape is empty behind '" + text + "'", x.count(3), 0);
        int found = 0;
        int many = x.said(NONE);
        for (int k = 0; k < many; k++) {
            found |= 1 << x.said(k);
        }
        due("38 said of '" + text + "'", found, forms);
        due("38 how many '" + text + "'", many, Integer.bitCount(forms));
        due("38 none such '" + text + "'", x.said(many), NONE);
        due("38 none such '" + text + "'", x.said(-2), NONE);
    }

    private static void sentences() {
        said("open", 1, 20);
        said("filed", 1, 1);
        said("granted", 1, 2);
        said("voided", 1, 8);
        said("clear", 1, 4);
        said("about ann", 1, 9);
        said("hurts ann", 1, 18);
        said("signed bob", 1, 18);
        said("signed dot", 1, 1);
        said("parts=3", 1, 3);
        said("parts > 0", 1, 19);
        said("parts<1", 1, 12);
        said("days = 1", 1, 1);
        said("days=0", 1, 2);
        said("days > 3", 1, 24);
        said("number < 2", 1, 3);
        said("number=999", 1, 0);
        said("not open", 2, 11);
        said("not not open", 3, 20);
        said("open and clear or filed", 3, 5);
        said("filed or open and clear", 3, 5);
        said("(filed or open) and clear", 4, 4);
        said("not (filed or open) and not clear", 6, 10);
        said("not filed and open or voided or granted and about bob", 6, 30);
        said("filed or voided or granted and open", 4, 9);
        TriplicateForms x = Desk.with(OFFICE);
        Desk.sentence(x, "signed ann");
        due("38 none yet", x.said(-1), 0);
        x.sign(0, 1);
        due("38 as it is now", x.said(0), 1);
    }

    private static void sentenceFault(String text, int place, int kind) {
        TriplicateForms x = Desk.with(OFFICE);
        Desk.sentence(x, "clear");
        due("37 sentence '" + text + "'", Desk.sentence(x, text), -1 - place);
        due("5 fault of '" + text + "'", x.fault(), kind);
        due("37 tape is empty behind '" + text + "'", x.count(3), 0);
        due("37 it stays behind '" + text + "'", x.said(0), 2);
    }

    private static void sentenceFaults() {
        sentenceFault("", 0, 1);
        sentenceFault("open open", 5, 1);
        sentenceFault("open and", 8, 1);
        sentenceFault("(open", 5, 1);
        sentenceFault("open)", 4, 1);
        sentenceFault("ann", 0, 1);
        sentenceFault("drawer", 0, 1);
        sentenceFault("about dog", 6, 3);
        sentenceFault("hurts fay", 6, 3);
        sentenceFault("signed open", 7, 1);
        sentenceFault("parts 1", 6, 1);
        sentenceFault("parts (", 6, 1);
        sentenceFault("parts = 1000", 8, 1);
        sentenceFault("parts = ann", 8, 1);
        sentenceFault("open;", 4, 1);
        String twenty = "open" + " or open".repeat(19);
        sentenceFault(twenty + " or open", 160, 4);
        sentenceFault(twenty + " or ;", 160, 1);
        sentenceFault(twenty + " or (", 160, 4);
        sentenceFault("((((((((open", 8, 4);
        sentenceFault("not not not not not not not not open", 32, 4);
        sentenceFault("((((((((dog", 8, 1);
        sentenceFault("open" + " ".repeat(197), 200, 1);
        sentenceFault(" ".repeat(197) + "open", 200, 1);
    }

    private static void images() {
        TriplicateForms x = new TriplicateForms();
        due("39 the empty one", x.image(1), true);
        due("39 no such one", x.image(2), false);
        due("39 no such one", x.image(-1), false);
        Desk.office(x, OFFICE);
        x.sign(0, 0);
        x.days(3);
        Desk.sentence(x, "clear");
        due("39 image", x.image(0), true);
        TriplicateForms like = Desk.with(OFFICE);
        like.sign(0, 0);
        like.days(3);
        Desk.sentence(x, "open");
        x.sign(4, 0);
        due("40 no such one", x.restore(2), false);
        due("40 no such one", x.restore(-1), false);
        Desk.feed(x, "abc");
        due("40 restore", x.restore(0), true);
        dueLike("40 restore", x, like);
        due("40 the tape stays", x.count(3), 3);
        x.end(0);
        due("40 SENTENCE", x.said(-1), 1);
        due("40 SENTENCE", x.said(0), 2);
        due("40 nothing can be undone", x.undo(), NONE);
        x.days(1);
        due("40 the empty one", x.restore(1), true);
        due("40 no persons", x.count(0), 0);
        due("40 no SENTENCE", x.said(-1), NONE);
        due("40 nothing can be undone", x.undo(), NONE);
        due("40 again", x.restore(0), true);
        due("40 the image is as it was", x.now(0), 3);
        Desk.office(x, SMALL);
        due("40 of another OFFICE", x.restore(0), true);
        dueLike("40 of another OFFICE", x, like);
        Desk.dueText("40 its NAMES", Desk.stamped(x, 2), "bath is clear");
        Desk.sentence(x, "voided or ".repeat(19) + "number=1");
        due("40 a long SENTENCE", x.fault(), 0);
        x.image(1);
        Desk.sentence(x, "filed or ".repeat(19) + "clear");
        x.restore(1);
        due("40 a long SENTENCE", x.said(-1), 1);
        due("40 a long SENTENCE", x.said(0), 1);
        TriplicateForms y = new TriplicateForms();
        y.days(1);
        due("40 nothing is kept", y.restore(0), false);
        due("40 all stays", y.undo(), 0);
    }

    private static void counts() {
        TriplicateForms x = Desk.with(OFFICE + "rule any;");
        due("41 persons", x.count(0), 5);
        due("41 forms", x.count(1), 3);
        due("41 rule", x.count(2), 1);
        Desk.feed(x, "abc");
        due("41 bytes", x.count(3), 3);
        due("41 another what", x.count(4), NONE);
        due("41 another what", x.count(-1), NONE);
    }
}
