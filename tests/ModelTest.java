import java.nio.charset.StandardCharsets;
import java.util.ArrayList;
import java.util.List;
import java.util.NoSuchElementException;
import java.util.Random;

/** Long runs of calls, each answer compared with what the Model answers. */
public final class ModelTest {
    private static final int RUNS = 1500;
    private static final int CALLS = 500;
    private static final String[] WORDS = ("person retired grudge shy form rule drawer any signs softens resents retires"
            + " returns void lodge day or and not open filed granted voided clear about hurts signed parts days number"
            + " ; < = > ( ) . 0 1 9 10 60 61 999 1000 a z abcdefg abcdefgh a1 A").split(" ");

    private final Random random;
    private final TriplicateForms x = new TriplicateForms();
    private final Model model = new Model();
    private final int run;
    private List<String> persons = new ArrayList<>();
    private List<String> forms = new ArrayList<>();

    private ModelTest(int run) {
        this.run = run;
        random = new Random(run);
    }

    public static void main(String[] args) {
        for (int run = 0; run < RUNS; run++) {
            ModelTest test = new ModelTest(run);
            int calls = 0;
            while (calls < CALLS) {
                calls += test.step();
            }
        }
        Desk.finish("ModelTest");
    }

    private void same(String call, long got, long want) {
        Desk.due("run " + run + ": " + call, got, want);
    }

    private int below(int n) {
        return random.nextInt(n);
    }

    private String blank() {
        return switch (below(8)) {
            case 0 -> "\n";
            case 1 -> "  ";
            default -> " ";
        };
    }

    private String any(List<String> names) {
        return names.isEmpty() || below(40) == 0 ? "nobody" : names.get(below(names.size()));
    }

    private String freshName(int i) {
        String[] stems = {"a", "bo", "cid", "dora", "elsie", "fabian", "gustavo", "hal", "form", "day"};
        return stems[i % 8] + (char) ('a' + below(26));
    }

    /** Telling more names than there may be is rare, so that most OFFICES stand. */
    private String officeText() {
        List<String> lines = new ArrayList<>();
        persons = new ArrayList<>();
        forms = new ArrayList<>();
        int most = below(6) == 0 ? 8 : below(7);
        for (int i = 0; i < most + (below(60) == 0 ? 1 : 0); i++) {
            String name = freshName(i).substring(0, Math.min(7, freshName(i).length()));
            persons.add(name);
            lines.add("person " + name + (below(2) == 0 ? " retired" : ""));
        }
        for (int p = 0; p < persons.size(); p++) {
            for (int q = 0; q < persons.size(); q++) {
                if (p != q && below(3) == 0 && lines.size() < 40) {
                    lines.add("grudge " + persons.get(p) + " " + persons.get(q) + " " + (1 + below(9)));
                }
                if (p != q && below(6) == 0 && lines.size() < 40) {
                    lines.add("shy " + persons.get(p) + " " + persons.get(q));
                }
            }
        }
        int mostForms = persons.isEmpty() ? 0 : below(6) == 0 ? 8 : below(6);
        for (int i = 0; i < mostForms + (below(60) == 0 ? 1 : 0); i++) {
            String name = "f" + (char) ('a' + i) + (below(3) == 0 ? "o" : "");
            forms.add(name);
            lines.add("form " + name + " " + any(persons) + " " + (1 + below(9)));
        }
        if (below(3) > 0) {
            lines.add(below(lines.size() + 1), below(3) == 0 ? "rule drawer" : "rule any");
        }
        return String.join(";" + (below(2) == 0 ? blank() : ""), lines) + (lines.isEmpty() ? "" : ";");
    }

    private String bookText() {
        StringBuilder text = new StringBuilder();
        int lines = below(12) == 0 ? 38 + below(5) : below(14);
        boolean brief = lines > 30;
        for (int i = 0; i < lines; i++) {
            switch (brief ? 11 : below(12)) {
                case 0, 1, 2, 3, 4 -> text.append(any(persons)).append(" signs ").append(any(forms));
                case 5 -> text.append(any(persons)).append(" softens ").append(any(persons));
                case 6 -> text.append(any(persons)).append(" resents ").append(any(persons));
                case 7 -> text.append(any(persons)).append(" retires");
                case 8 -> text.append(any(persons)).append(" returns");
                case 9 -> text.append("void ").append(any(forms));
                case 10 -> text.append("lodge ").append(any(forms));
                default -> text.append("day ").append(1 + below(brief ? 2 : below(6) == 0 ? 60 : 4));
            }
            text.append(";").append(below(3) == 0 ? blank() : "");
        }
        return text.toString();
    }

    private String cond(int depth) {
        StringBuilder text = new StringBuilder(one(depth));
        for (int more = below(3); more > 0; more--) {
            text.append(below(2) == 0 ? " and " : " or ").append(one(depth));
        }
        return text.toString();
    }

    private String one(int depth) {
        String[] plain = {"open", "filed", "granted", "voided", "clear"};
        String[] ofPerson = {"about ", "hurts ", "signed "};
        String[] ofNumber = {"parts", "days ", "number"};
        String[] signs = {"<", "= ", ">"};
        return switch (below(depth > 0 ? 6 : 4)) {
            case 0, 1 -> plain[below(5)];
            case 2 -> ofPerson[below(3)] + any(persons);
            case 3 -> ofNumber[below(3)] + signs[below(3)] + (below(20) == 0 ? "010" : "" + below(5));
            case 4 -> "not " + one(depth - 1);
            default -> "(" + cond(depth - 1) + ")";
        };
    }

    private String sentenceText() {
        return switch (below(12)) {
            case 0 -> "not ".repeat(6 + below(3)) + "open";
            case 1 -> "(".repeat(6 + below(3)) + "open" + ")".repeat(6 + below(3));
            case 2 -> "open" + " or open".repeat(17 + below(4));
            default -> cond(3);
        };
    }

    private String spoil(String text, int most) {
        switch (below(9)) {
            case 0: {
                int at = below(text.length() + 1);
                return text.substring(0, at) + " " + WORDS[below(WORDS.length)] + " " + text.substring(at);
            }
            case 1: {
                int at = below(text.length() + 1);
                return text.substring(0, at) + (char) below(256) + text.substring(at);
            }
            case 2: {
                int at = below(text.length() + 1);
                return text.substring(0, at) + text.substring(Math.min(text.length(), at + 1 + below(4)));
            }
            case 3: {
                String[] words = text.split("(?<=[ ;])");
                words[below(words.length)] = " " + WORDS[below(WORDS.length)] + " ";
                return String.join("", words);
            }
            case 4: {
                String pad = " ".repeat(Math.max(0, most - text.length() + below(5) - 2));
                int at = below(text.length() + 1);
                return below(2) == 0 ? text + pad : text.substring(0, at) + pad + text.substring(at);
            }
            default:
                return text;
        }
    }

    private int feed(String text) {
        byte[] bytes = text.getBytes(StandardCharsets.ISO_8859_1);
        int length = Math.min(940, bytes.length);
        int calls = 1;
        for (int at = 0; at < length; at += 20) {
            int[] n = new int[5];
            for (int i = at; i < at + 20; i++) {
                n[(i - at) / 4] = n[(i - at) / 4] << 8 | (i < length ? bytes[i] & 255 : 0);
            }
            same("feed", x.feed(n[0], n[1], n[2], n[3], n[4]), model.feed(n[0], n[1], n[2], n[3], n[4]));
            calls++;
        }
        same("end(" + length + ")", x.end(length) ? 1 : 0, model.end(length) ? 1 : 0);
        return calls;
    }

    private int text(int kind) {
        x.end(0);
        model.end(0);
        String text = switch (kind) {
            case 0 -> officeText();
            case 1 -> bookText();
            default -> sentenceText();
        };
        text = spoil(text, kind == 0 ? 900 : kind == 1 ? 400 : 200);
        int calls = feed(text);
        int lives = below(15) - 7 > 1 ? 1 : below(3) - below(2);
        switch (kind) {
            case 0 -> same("office() of '" + text + "'", x.office(), model.office());
            case 1 -> same("book(" + lives + ") of '" + text + "'", x.book(lives), model.book(lives));
            default -> same("sentence() of '" + text + "'", x.sentence(), model.sentence());
        }
        same("fault()", x.fault(), model.fault());
        return calls + 3;
    }

    private int fits() {
        StringBuilder text = new StringBuilder();
        for (int n = below(10) == 0 ? below(5) : 1 + below(3); n > 0; n--) {
            text.append((char) (below(30) == 0 ? 250 : below(Math.max(1, x.count(0)))));
        }
        x.end(0);
        model.end(0);
        feed(text.toString());
        same("fits()", x.fits(), model.fits());
        same("ask()", x.ask(), model.ask());
        return 5;
    }

    private int step() {
        if (x.count(0) == 0 && below(3) > 0 || below(150) == 0) {
            return text(0);
        }
        int kind = below(100);
        if (kind < 5) {
            return text(1);
        }
        if (kind < 9) {
            return text(2);
        }
        if (kind < 12) {
            return fits();
        }
        if (kind < 55) {
            act();
            return 1;
        }
        if (kind < 58) {
            lookAtAll();
            return 1;
        }
        look();
        return 1;
    }

    private int person() {
        return below(30) == 0 ? below(12) - 2 : below(Math.max(1, x.count(0)));
    }

    private int aForm() {
        return below(30) == 0 ? below(12) - 2 : below(Math.max(1, x.count(1)));
    }

    private void act() {
        int p = person();
        int q = person();
        int f = aForm();
        int n = below(10) == 0 ? below(70) - 4 : 1 + below(4);
        int seed = random.nextInt();
        switch (below(24)) {
            case 0, 1, 2, 3, 4, 5, 6, 7, 8, 9, 10 -> same("sign(" + p + ", " + f + ")", x.sign(p, f), model.sign(p, f));
            case 11, 12 -> same("soften(" + p + ", " + q + ")", x.soften(p, q), model.soften(p, q));
            case 13 -> same("resent(" + p + ", " + q + ")", x.resent(p, q), model.resent(p, q));
            case 14 -> same("retire(" + p + ")", x.retire(p), model.retire(p));
            case 15 -> same("back(" + p + ")", x.back(p), model.back(p));
            case 16 -> same("cancel(" + f + ")", x.cancel(f), model.cancel(f));
            case 17 -> same("lodge(" + f + ")", x.lodge(f), model.lodge(f));
            case 18, 19 -> same("days(" + n + ")", x.days(n), model.days(n));
            case 20 -> same("drawn(" + n + ", " + seed + ")", x.drawn(n, seed), model.drawn(n, seed));
            case 21 -> same("undo()", x.undo(), model.undo());
            case 22 -> same("image(" + (p - 1) + ")", x.image(p - 1) ? 1 : 0, model.image(p - 1) ? 1 : 0);
            default -> {
                if (below(4) == 0) {
                    same("restore(" + (p - 1) + ")", x.restore(p - 1) ? 1 : 0, model.restore(p - 1) ? 1 : 0);
                }
            }
        }
    }

    private void look() {
        int p = person();
        int f = aForm();
        int k = below(12) - 2;
        int seed = random.nextInt();
        switch (below(18)) {
            case 0 -> same("part(" + p + ", " + f + ")", x.part(p, f), model.part(p, f));
            case 1 -> same("can(" + f + ")", x.can(f), model.can(f));
            case 2, 3 -> same("when(" + f + ")", x.when(f), model.when(f));
            case 4, 5 -> same("match()", x.match(), model.match());
            case 6 -> same("matched(" + k + ")", x.matched(k), model.matched(k));
            case 7 -> same("ask()", x.ask(), model.ask());
            case 8 -> same("cover()", x.cover(), model.cover());
            case 9 -> same("covering()", x.covering(), model.covering());
            case 10 -> same("eased(" + f + ", " + p + ")", x.eased(f, p), model.eased(f, p));
            case 11 -> same("served(" + k + ")", x.served(k), model.served(k));
            case 12 -> same("martyr()", x.martyr(), model.martyr());
            case 13 -> same("stamp(" + f + ")", x.stamp(f), model.stamp(f));
            case 14 -> same("told(" + k + ")", x.told(k), model.told(k));
            case 15 -> same("said(" + k + ")", x.said(k), model.said(k));
            case 16 -> same("grudge(" + p + ", " + k + ")", x.grudge(p, k), model.grudge(p, k));
            default -> {
                if (below(4) == 0) {
                    same("odds(" + f + ", " + k + ", " + seed + ")", x.odds(f, k, seed), model.odds(f, k, seed));
                }
            }
        }
    }

    private long answer(int kind, int i, int what, boolean ofModel) {
        try {
            if (kind == 0) {
                return ofModel ? model.form(i, what) : x.form(i, what);
            }
            return ofModel ? model.person(i, what) : x.person(i, what);
        } catch (NoSuchElementException e) {
            return -1000;
        }
    }

    private void lookAtAll() {
        for (int what = -1; what < 9; what++) {
            same("now(" + what + ")", x.now(what), model.now(what));
            same("count(" + what + ")", x.count(what), model.count(what));
        }
        for (int i = -1; i < 9; i++) {
            for (int what = -1; what < 8; what++) {
                same("form(" + i + ", " + what + ")", answer(0, i, what, false), answer(0, i, what, true));
                same("person(" + i + ", " + what + ")", answer(1, i, what, false), answer(1, i, what, true));
                same("grudge(" + i + ", " + what + ")", x.grudge(i, what), model.grudge(i, what));
                same("part(" + i + ", " + what + ")", x.part(i, what), model.part(i, what));
            }
            same("matched(" + i + ")", x.matched(i), model.matched(i));
            same("can(" + i + ")", x.can(i), model.can(i));
            same("when(" + i + ")", x.when(i), model.when(i));
            same("said(" + i + ")", x.said(i), model.said(i));
        }
        for (int i = -1; i < 32; i++) {
            same("byteAt(" + i + ")", x.byteAt(i), model.byteAt(i));
        }
        same("covering()", x.covering(), model.covering());
    }
}
