import java.util.ArrayDeque;
import java.util.ArrayList;
import java.util.Arrays;
import java.util.Comparator;
import java.util.HashMap;
import java.util.List;
import java.util.Map;
import java.util.NoSuchElementException;
import java.util.Set;
import java.util.regex.Matcher;
import java.util.regex.Pattern;

/** The document once more, as plainly as can be and with the whole Java library: ModelTest compares by it. */
final class Model {
    private static final int NONE = -1;
    private static final Set<String> TOLD = Set.of(("person retired grudge shy form rule drawer any signs softens resents"
            + " retires returns void lodge day or and not open filed granted voided clear about hurts signed parts days"
            + " number").split(" "));

    /** A FAULT that ends the reading of a text. */
    private static final class Fault extends RuntimeException {
        private static final long serialVersionUID = 1;
        final int place;
        final int kind;

        Fault(int place, int kind) {
            this.place = place;
            this.kind = kind;
        }
    }

    private record Token(int place, char kind, String text) {
    }

    private static final class Form {
        String name;
        int about;
        int span;
        int how;
        int left;
        int[] signer = {NONE, NONE, NONE};
    }

    /** All that an image or an undone act brings back. */
    private static final class State {
        List<String> persons = new ArrayList<>();
        List<Form> forms = new ArrayList<>();
        int[][] grudge = new int[8][8];
        boolean[][] shy = new boolean[8][8];
        boolean[] retired = new boolean[8];
        int[] today = new int[8];
        int[] times = new int[8];
        boolean any;
        boolean ruleTold;
        int day;

        State() {
            Arrays.fill(today, NONE);
        }

        State copy() {
            State s = new State();
            s.persons = new ArrayList<>(persons);
            for (Form form : forms) {
                Form f = new Form();
                f.name = form.name;
                f.about = form.about;
                f.span = form.span;
                f.how = form.how;
                f.left = form.left;
                f.signer = form.signer.clone();
                s.forms.add(f);
            }
            for (int p = 0; p < 8; p++) {
                s.grudge[p] = grudge[p].clone();
                s.shy[p] = shy[p].clone();
            }
            s.retired = retired.clone();
            s.today = today.clone();
            s.times = times.clone();
            s.any = any;
            s.ruleTold = ruleTold;
            s.day = day;
            return s;
        }

        int unsignedHurt(Form f) {
            int most = 0;
            for (int p = 0; p < persons.size(); p++) {
                most = p == f.about ? most : Math.max(most, grudge[p][f.about]);
            }
            for (int p = 0; p < persons.size() && most > 0; p++) {
                if (p != f.about && grudge[p][f.about] == most) {
                    return p;
                }
            }
            return NONE;
        }

        int hurt(Form f) {
            return f.signer[1] == NONE ? unsignedHurt(f) : f.signer[1];
        }

        boolean third(int p, Form f, boolean byDrawer) {
            return p != f.about && p != hurt(f) && !shy[p][f.about] && (!byDrawer || retired[p]);
        }

        boolean couldSign(int p, Form f, int part) {
            if (f.how != 0 || f.signer[part] != NONE || Arrays.stream(f.signer).anyMatch(s -> s == p)) {
                return false;
            }
            return switch (part) {
                case 0 -> p == f.about;
                case 1 -> p == hurt(f);
                default -> third(p, f, !any);
            };
        }

        int part(int p, Form f) {
            for (int part = 0; part < 3; part++) {
                if (couldSign(p, f, part)) {
                    return part;
                }
            }
            return NONE;
        }

        int sign(int p, int f) {
            Form form = forms.get(f);
            if (form.how != 0) {
                return 1;
            }
            if (today[p] != NONE) {
                return 2;
            }
            int part = part(p, form);
            if (part == NONE) {
                return 3;
            }
            form.signer[part] = p;
            today[p] = f;
            times[p]++;
            if (Arrays.stream(form.signer).noneMatch(s -> s == NONE)) {
                form.how = 1;
                form.left = form.span;
            }
            return 0;
        }

        int soften(int p, int q) {
            if (grudge[p][q] == 0) {
                return 1;
            }
            grudge[p][q]--;
            return 0;
        }

        int resent(int p, int q) {
            if (p == q) {
                return 1;
            }
            if (grudge[p][q] == 9) {
                return 2;
            }
            grudge[p][q]++;
            return 0;
        }

        int retire(int p, boolean into) {
            if (retired[p] == into) {
                return 1;
            }
            retired[p] = into;
            return 0;
        }

        int cancel(int f) {
            if (forms.get(f).how > 1) {
                return 1;
            }
            forms.get(f).how = 3;
            return 0;
        }

        int lodge(int f) {
            if (forms.get(f).how != 3) {
                return 1;
            }
            forms.get(f).how = 0;
            Arrays.fill(forms.get(f).signer, NONE);
            return 0;
        }

        int days(int n) {
            int gone = 0;
            for (; gone < n && day < 400; gone++) {
                for (Form f : forms) {
                    if (f.how == 1 && --f.left == 0) {
                        f.how = 2;
                        grudge[f.signer[1]][f.about] = Math.min(9, grudge[f.signer[1]][f.about] + 1);
                    }
                }
                day++;
                Arrays.fill(today, NONE);
            }
            return gone;
        }

        int drawn(int n, int seed) {
            int x = seed;
            int gone = 0;
            for (; gone < n && day < 400; gone++) {
                for (int p = 0; p < persons.size(); p++) {
                    if (!forms.isEmpty()) {
                        x = x * 1103515245 + 12345;
                        sign(p, (x >>> 8) % forms.size());
                    }
                    x = x * 1103515245 + 12345;
                    int whim = (x >>> 8) % 6;
                    if (whim < 2) {
                        x = x * 1103515245 + 12345;
                        int q = (x >>> 8) % persons.size();
                        int done = whim == 0 ? resent(p, q) : soften(p, q);
                        if (done > 2) {
                            throw new IllegalStateException();
                        }
                    }
                }
                days(1);
            }
            return gone;
        }

        int daysLeft(Form f) {
            return f.how == 1 ? f.left : f.how == 2 ? 0 : f.span;
        }
    }

    /** What may be said of a FORM. */
    private interface Cond {
        boolean of(State s, int f);
    }

    private State now = new State();
    private Cond sentence;
    private final ArrayDeque<State> undos = new ArrayDeque<>();
    private final State[] images = new State[2];
    private final Cond[] imageSentences = new Cond[2];
    private final List<Integer> tape = new ArrayList<>();
    private int fault;
    private int[] matched = new int[8];
    private int ask = NONE;
    private int covering = NONE;
    private String stamp = "";
    private int[] told;

    private List<Token> tokens;
    private int next;
    private int ones;

    Model() {
        Arrays.fill(matched, NONE);
    }

    // ---- texts

    private void tokenize(int most) {
        StringBuilder all = new StringBuilder();
        for (int b : tape) {
            all.append((char) b);
        }
        tape.clear();
        tokens = new ArrayList<>();
        Matcher m = Pattern.compile("[a-z0-9]+|[^ \\n]", Pattern.DOTALL).matcher(all);
        while (m.find() && m.start() < most) {
            String text = m.group();
            char kind = text.matches("[a-z]{1,7}") ? 'w' : text.matches("[0-9]{1,3}") ? 'n'
                    : text.matches("[;<=>()]") ? 'm' : '?';
            tokens.add(new Token(m.start(), kind, text));
        }
        tokens.add(all.length() > most ? new Token(most, '?', "") : new Token(all.length(), '$', ""));
        next = 0;
    }

    private Token token() {
        return tokens.get(next);
    }

    private boolean at(String text) {
        return token().text.equals(text) && token().kind != '$' && token().kind != '?';
    }

    private boolean took(String text) {
        if (at(text)) {
            next++;
            return true;
        }
        return false;
    }

    private Fault faultHere(int kind) {
        return new Fault(token().place, kind);
    }

    private void must(String text) {
        if (!took(text)) {
            throw faultHere(1);
        }
    }

    private String name() {
        if (token().kind != 'w' || TOLD.contains(token().text)) {
            throw faultHere(1);
        }
        return token().text;
    }

    private int person(State s) {
        int p = s.persons.indexOf(name());
        if (p < 0) {
            throw faultHere(3);
        }
        next++;
        return p;
    }

    private static int formNamed(State s, String name) {
        for (int f = 0; f < s.forms.size(); f++) {
            if (s.forms.get(f).name.equals(name)) {
                return f;
            }
        }
        return NONE;
    }

    private int formIn(State s) {
        int f = formNamed(s, name());
        if (f < 0) {
            throw faultHere(3);
        }
        next++;
        return f;
    }

    private int numberIn(int least, int most) {
        if (token().kind != 'n') {
            throw faultHere(1);
        }
        int n = Integer.parseInt(token().text);
        if (n < least || n > most) {
            throw faultHere(2);
        }
        next++;
        return n;
    }

    private String newName(State s) {
        String name = name();
        if (s.persons.contains(name) || formNamed(s, name) != NONE) {
            throw faultHere(3);
        }
        next++;
        return name;
    }

    private void officeLine(State s) {
        if (at("person")) {
            if (s.persons.size() == 8) {
                throw faultHere(4);
            }
            next++;
            s.persons.add(newName(s));
            s.retired[s.persons.size() - 1] = took("retired");
        } else if (at("form")) {
            if (s.forms.size() == 8) {
                throw faultHere(4);
            }
            next++;
            Form f = new Form();
            f.name = newName(s);
            f.about = person(s);
            f.span = numberIn(1, 9);
            s.forms.add(f);
        } else if (at("grudge") || at("shy")) {
            boolean shy = token().text.equals("shy");
            next++;
            int p = person(s);
            int q = person(s);
            if (p == q || (shy ? s.shy[p][q] : s.grudge[p][q] > 0)) {
                next--;
                throw faultHere(3);
            }
            if (shy) {
                s.shy[p][q] = true;
            } else {
                s.grudge[p][q] = numberIn(1, 9);
            }
        } else if (at("rule")) {
            if (s.ruleTold) {
                throw faultHere(3);
            }
            next++;
            s.ruleTold = true;
            s.any = at("any");
            if (!took("any")) {
                must("drawer");
            }
        } else {
            throw faultHere(1);
        }
        must(";");
    }

    int office() {
        tokenize(900);
        State s = new State();
        int lines = 0;
        try {
            while (token().kind != '$') {
                officeLine(s);
                lines++;
            }
        } catch (Fault f) {
            fault = f.kind;
            return -1 - f.place;
        }
        fault = 0;
        now = s;
        sentence = null;
        undos.clear();
        return lines;
    }

    private int[] bookLine(State s, int lines) {
        List<String> plain = List.of("void", "lodge", "day");
        Token first = token();
        boolean byPerson = first.kind != 'w' || !plain.contains(first.text);
        int p = byPerson ? person(s) : NONE;
        next = byPerson ? next : next + 1;
        if (lines == 40) {
            throw new Fault(first.place, 4);
        }
        Token verb = byPerson ? tokens.get(next++) : first;
        boolean fits = verb.kind == 'w' && (!byPerson || !plain.contains(verb.text));
        int[] line = switch (fits ? verb.text : "") {
            case "void" -> new int[] {5, formIn(s), 0};
            case "lodge" -> new int[] {6, formIn(s), 0};
            case "day" -> new int[] {7, numberIn(1, 60), 0};
            case "signs" -> new int[] {0, p, formIn(s)};
            case "softens" -> new int[] {1, p, person(s)};
            case "resents" -> new int[] {2, p, person(s)};
            case "retires" -> new int[] {3, p, 0};
            case "returns" -> new int[] {4, p, 0};
            default -> throw new Fault(verb.place, 1);
        };
        must(";");
        return line;
    }

    int book(int lives) {
        if (lives < 0 || lives > 1) {
            return -1000;
        }
        tokenize(400);
        List<int[]> lines = new ArrayList<>();
        try {
            while (token().kind != '$') {
                lines.add(bookLine(now, lines.size()));
            }
        } catch (Fault f) {
            fault = f.kind;
            return -2 - f.place;
        }
        fault = 0;
        State s = now.copy();
        int wrong = NONE;
        told = new int[] {0, lines.size(), 0, 0};
        for (int i = 0; i < lines.size() && wrong == NONE; i++) {
            int why = live(s, lines.get(i));
            if (why != 0) {
                wrong = i;
                told[0] = 10 * lines.get(i)[0] + why;
                told[1] = i;
            }
        }
        told[2] = s.day;
        told[3] = bits(s, 2);
        if (lives == 1 && told[1] > 0) {
            keep();
            now = s;
        }
        return wrong;
    }

    private static int live(State s, int[] line) {
        return switch (line[0]) {
            case 0 -> s.sign(line[1], line[2]);
            case 1 -> s.soften(line[1], line[2]);
            case 2 -> s.resent(line[1], line[2]);
            case 3 -> s.retire(line[1], true);
            case 4 -> s.retire(line[1], false);
            case 5 -> s.cancel(line[1]);
            case 6 -> s.lodge(line[1]);
            default -> s.day + line[1] > 400 ? 1 : s.days(line[1]) * 0;
        };
    }

    private Cond cond(int within) {
        Cond first = all(within);
        while (took("or")) {
            Cond left = first;
            Cond right = all(within);
            first = (s, f) -> left.of(s, f) || right.of(s, f);
        }
        return first;
    }

    private Cond all(int within) {
        Cond first = one(within);
        while (took("and")) {
            Cond left = first;
            Cond right = one(within);
            first = (s, f) -> left.of(s, f) && right.of(s, f);
        }
        return first;
    }

    private Cond one(int within) {
        List<String> starts = List.of("open", "filed", "granted", "voided", "clear", "about", "hurts", "signed", "parts",
                "days", "number", "not", "(");
        Token t = token();
        int kind = t.kind == 'w' || t.kind == 'm' ? starts.indexOf(t.text) : NONE;
        if (kind < 0) {
            throw faultHere(1);
        }
        if (ones == 20 || within == 9) {
            throw faultHere(4);
        }
        ones++;
        next++;
        if (kind < 4) {
            return (s, f) -> s.forms.get(f).how == kind;
        }
        if (kind == 4) {
            return (s, f) -> s.hurt(s.forms.get(f)) == NONE;
        }
        if (kind < 8) {
            int p = person(now);
            return (s, f) -> kind == 5 ? s.forms.get(f).about == p : kind == 6 ? s.hurt(s.forms.get(f)) == p
                    : Arrays.stream(s.forms.get(f).signer).anyMatch(x -> x == p);
        }
        if (kind < 11) {
            if (!at("<") && !at("=") && !at(">")) {
                throw faultHere(1);
            }
            String sign = token().text;
            next++;
            int n = numberIn(0, 999);
            return (s, f) -> {
                Form form = s.forms.get(f);
                int v = kind == 8 ? (int) Arrays.stream(form.signer).filter(x -> x != NONE).count()
                        : kind == 9 ? s.daysLeft(form) : f;
                return sign.equals("<") ? v < n : sign.equals("=") ? v == n : v > n;
            };
        }
        if (kind == 11) {
            Cond inner = one(within + 1);
            return (s, f) -> !inner.of(s, f);
        }
        Cond inner = cond(within + 1);
        must(")");
        return inner;
    }

    int sentence() {
        tokenize(200);
        ones = 0;
        try {
            Cond read = cond(1);
            if (token().kind != '$') {
                throw faultHere(1);
            }
            sentence = read;
        } catch (Fault f) {
            fault = f.kind;
            return -1 - f.place;
        }
        fault = 0;
        return ones;
    }

    // ---- what is so

    private boolean p(int p) {
        return p >= 0 && p < now.persons.size();
    }

    private boolean f(int f) {
        return f >= 0 && f < now.forms.size();
    }

    private void keep() {
        undos.push(now.copy());
        while (undos.size() > 8) {
            undos.removeLast();
        }
    }

    /** Does an act on a copy, so that one that is refused leaves no trace. */
    private int act(int... line) {
        State s = now.copy();
        int why = live(s, line);
        if (why == 0) {
            keep();
            now = s;
        }
        return why;
    }

    private static int bits(State s, int how) {
        int bits = 0;
        for (int f = 0; f < s.forms.size(); f++) {
            bits |= s.forms.get(f).how == how ? 1 << f : 0;
        }
        return bits;
    }

    int feed(int a, int b, int c, int d, int e) {
        if (tape.size() > 920) {
            return NONE;
        }
        for (int number : new int[] {a, b, c, d, e}) {
            for (int shift = 24; shift >= 0; shift -= 8) {
                tape.add(number >> shift & 255);
            }
        }
        return tape.size();
    }

    boolean end(int n) {
        if (n < 0 || n > tape.size()) {
            return false;
        }
        while (tape.size() > n) {
            tape.remove(tape.size() - 1);
        }
        return true;
    }

    int fault() {
        return fault;
    }

    int form(int f, int what) {
        if (!f(f) || what < 0 || what > 6) {
            throw new NoSuchElementException();
        }
        Form form = now.forms.get(f);
        return switch (what) {
            case 0 -> form.about;
            case 1 -> now.hurt(form);
            case 2, 3, 4 -> form.signer[what - 2];
            case 5 -> form.how;
            default -> now.daysLeft(form);
        };
    }

    int person(int p, int what) {
        if (!p(p) || what < 0 || what > 4) {
            throw new NoSuchElementException();
        }
        int shy = 0;
        for (int q = 0; q < 8; q++) {
            shy |= now.shy[p][q] ? 1 << q : 0;
        }
        return switch (what) {
            case 0 -> now.retired[p] ? 1 : 0;
            case 1 -> now.today[p];
            case 2 -> now.times[p];
            case 3 -> Arrays.stream(now.grudge[p]).sum();
            default -> shy;
        };
    }

    int grudge(int p, int q) {
        return p(p) && p(q) && p != q ? now.grudge[p][q] : NONE;
    }

    int now(int what) {
        int clear = 0;
        for (int f = 0; f < now.forms.size(); f++) {
            clear |= now.hurt(now.forms.get(f)) == NONE ? 1 << f : 0;
        }
        int drawer = 0;
        for (int p = 0; p < 8; p++) {
            drawer |= now.retired[p] ? 1 << p : 0;
        }
        return switch (what) {
            case 0 -> now.day;
            case 1, 2, 3, 4 -> bits(now, what - 1);
            case 5 -> clear;
            case 6 -> drawer;
            case 7 -> Arrays.stream(now.grudge).mapToInt(row -> Arrays.stream(row).sum()).sum();
            default -> NONE;
        };
    }

    int sign(int p, int f) {
        return p(p) && f(f) ? act(0, p, f) : NONE;
    }

    int soften(int p, int q) {
        return p(p) && p(q) ? act(1, p, q) : NONE;
    }

    int resent(int p, int q) {
        return p(p) && p(q) ? act(2, p, q) : NONE;
    }

    int retire(int p) {
        return p(p) ? act(3, p) : NONE;
    }

    int back(int p) {
        return p(p) ? act(4, p) : NONE;
    }

    int cancel(int f) {
        return f(f) ? act(5, f) : NONE;
    }

    int lodge(int f) {
        return f(f) ? act(6, f) : NONE;
    }

    int days(int n) {
        if (n < 1 || n > 60) {
            return NONE;
        }
        State before = now.copy();
        int gone = now.days(n);
        undoTo(before, gone);
        return gone;
    }

    private void undoTo(State before, int gone) {
        if (gone > 0) {
            State after = now;
            now = before;
            keep();
            now = after;
        }
    }

    int undo() {
        if (undos.isEmpty()) {
            return NONE;
        }
        now = undos.pop();
        return undos.size();
    }

    int part(int p, int f) {
        return p(p) && f(f) ? now.part(p, now.forms.get(f)) : NONE;
    }

    int can(int f) {
        if (!f(f)) {
            return NONE;
        }
        int can = 0;
        for (int p = 0; p < now.persons.size(); p++) {
            can |= part(p, f) != NONE ? 1 << p : 0;
        }
        return can;
    }

    /** Lets them sign in a copy, today or tomorrow, and waits there. */
    int when(int f) {
        if (!f(f) || now.forms.get(f).how > 1) {
            return NONE;
        }
        for (int wait = 0; wait < 2; wait++) {
            State s = now.copy();
            if (wait == 1) {
                Arrays.fill(s.today, NONE);
            }
            for (int p = 0; p < s.persons.size(); p++) {
                s.sign(p, f);
            }
            if (s.forms.get(f).how == 1) {
                int granted = s.day + wait + s.forms.get(f).left;
                return granted <= 400 ? granted : NONE;
            }
        }
        return NONE;
    }

    private record Best(int count, int[] forms) {
    }

    private Best best(int p, int taken, Map<Long, Best> known) {
        if (p == now.persons.size()) {
            return new Best(0, new int[0]);
        }
        Best before = known.get((long) p << 32 | taken);
        if (before != null) {
            return before;
        }
        Best best = null;
        for (int f = 0; f <= now.forms.size(); f++) {
            boolean none = f == now.forms.size();
            int part = none || now.today[p] != NONE ? NONE : now.part(p, now.forms.get(f));
            if (!none && (part == NONE || (taken & 1 << f * 3 + part) != 0)) {
                continue;
            }
            Best rest = best(p + 1, none ? taken : taken | 1 << f * 3 + part, known);
            int count = rest.count + (none ? 0 : 1);
            if (best == null || count > best.count) {
                int[] forms = new int[rest.forms.length + 1];
                forms[0] = none ? NONE : f;
                System.arraycopy(rest.forms, 0, forms, 1, rest.forms.length);
                best = new Best(count, forms);
            }
        }
        known.put((long) p << 32 | taken, best);
        return best;
    }

    int match() {
        Best best = best(0, 0, new HashMap<>());
        Arrays.fill(matched, NONE);
        System.arraycopy(best.forms, 0, matched, 0, best.forms.length);
        return best.count;
    }

    int matched(int p) {
        return p >= 0 && p < 8 ? matched[p] : NONE;
    }

    private int freshPart(int p, int f) {
        State s = now.copy();
        Form form = s.forms.get(f);
        form.how = 0;
        Arrays.fill(form.signer, NONE);
        return s.part(p, form);
    }

    int fits() {
        List<Integer> told = new ArrayList<>(tape);
        tape.clear();
        if (told.isEmpty() || told.size() > 3 || told.stream().distinct().count() < told.size()
                || told.stream().anyMatch(p -> !p(p))) {
            return NONE;
        }
        int fits = 0;
        for (int f = 0; f < now.forms.size(); f++) {
            int form = f;
            List<Integer> parts = told.stream().map(p -> freshPart(p, form)).toList();
            boolean all = !parts.contains(NONE) && parts.stream().distinct().count() == told.size();
            fits |= all ? 1 << f : 0;
        }
        if (fits > 0) {
            int mask = fits;
            int[] off = new int[now.persons.size()];
            for (int p = 0; p < off.length; p++) {
                for (int f = 0; f < now.forms.size(); f++) {
                    off[p] += (mask & 1 << f) == 0 ? 0 : freshPart(p, f) == NONE ? -1 : 1;
                }
                off[p] = Math.abs(off[p]);
            }
            int least = Arrays.stream(off).min().getAsInt();
            ask = 0;
            while (off[ask] != least) {
                ask++;
            }
        }
        return fits;
    }

    int ask() {
        return ask;
    }

    int cover() {
        List<Integer> drawers = new ArrayList<>();
        for (int drawer = 0; drawer < 1 << now.persons.size(); drawer++) {
            drawers.add(drawer);
        }
        drawers.sort(Comparator.comparingInt(Integer::bitCount));
        for (int drawer : drawers) {
            State s = now.copy();
            for (int p = 0; p < 8; p++) {
                s.retired[p] = (drawer & 1 << p) != 0;
            }
            if (s.forms.stream().allMatch(f -> s.hurt(f) == NONE || hasThird(s, f, true))) {
                covering = drawer;
                return Integer.bitCount(drawer);
            }
        }
        return NONE;
    }

    private static boolean hasThird(State s, Form f, boolean byDrawer) {
        for (int p = 0; p < s.persons.size(); p++) {
            if (s.third(p, f, byDrawer)) {
                return true;
            }
        }
        return false;
    }

    int covering() {
        return covering;
    }

    int eased(int f, int p) {
        if (!f(f) || !p(p) || now.grudge[p][now.forms.get(f).about] == 0) {
            return NONE;
        }
        State s = now.copy();
        Form form = s.forms.get(f);
        int less = 0;
        while (s.unsignedHurt(form) != p) {
            s.grudge[s.unsignedHurt(form)][form.about]--;
            less++;
        }
        return less;
    }

    int served(int rule) {
        if (rule < 0 || rule > 1) {
            return NONE;
        }
        return (int) now.forms.stream().filter(f -> now.hurt(f) != NONE && hasThird(now, f, rule == 0)).count();
    }

    int martyr() {
        int[] hurt = new int[8];
        for (Form f : now.forms) {
            if (now.hurt(f) != NONE) {
                hurt[now.hurt(f)]++;
            }
        }
        int most = Arrays.stream(hurt).max().getAsInt();
        for (int p = 0; p < 8 && most > 0; p++) {
            if (hurt[p] == most) {
                return p;
            }
        }
        return NONE;
    }

    int stamp(int f) {
        if (!f(f)) {
            return NONE;
        }
        Form form = now.forms.get(f);
        String[] parts = {" about", " hurt", " third"};
        stamp = form.name + switch (form.how) {
            case 1 -> " is filed";
            case 2 -> " is granted";
            case 3 -> " is void";
            default -> now.hurt(form) == NONE ? " is clear" : " wants";
        };
        for (int part = 0; part < 3; part++) {
            stamp += form.how == 0 && now.hurt(form) != NONE && form.signer[part] == NONE ? parts[part] : "";
        }
        return stamp.length();
    }

    int byteAt(int i) {
        return i >= 0 && i < stamp.length() ? stamp.charAt(i) : NONE;
    }

    int drawn(int n, int seed) {
        if (n < 1 || n > 60 || now.persons.isEmpty()) {
            return NONE;
        }
        State before = now.copy();
        int gone = now.drawn(n, seed);
        undoTo(before, gone);
        return gone;
    }

    int odds(int f, int n, int seed) {
        if (!f(f) || n < 1 || n > 30) {
            return NONE;
        }
        int granted = 0;
        for (int i = 0; i < n; i++) {
            State s = now.copy();
            s.drawn(20, seed + i);
            granted += s.forms.get(f).how == 2 ? 1 : 0;
        }
        return granted;
    }

    int told(int what) {
        return told == null || what < 0 || what > 3 ? NONE : told[what];
    }

    int said(int k) {
        if (sentence == null) {
            return NONE;
        }
        List<Integer> forms = new ArrayList<>();
        for (int f = 0; f < now.forms.size(); f++) {
            if (sentence.of(now, f)) {
                forms.add(f);
            }
        }
        if (k == NONE) {
            return forms.size();
        }
        return k >= 0 && k < forms.size() ? forms.get(k) : NONE;
    }

    boolean image(int k) {
        if (k < 0 || k > 1) {
            return false;
        }
        images[k] = now.copy();
        imageSentences[k] = sentence;
        return true;
    }

    boolean restore(int k) {
        if (k < 0 || k > 1 || images[k] == null) {
            return false;
        }
        now = images[k].copy();
        sentence = imageSentences[k];
        undos.clear();
        return true;
    }

    int count(int what) {
        return switch (what) {
            case 0 -> now.persons.size();
            case 1 -> now.forms.size();
            case 2 -> now.any ? 1 : 0;
            case 3 -> tape.size();
            default -> NONE;
        };
    }
}
