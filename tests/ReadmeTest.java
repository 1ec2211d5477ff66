/** The calls that README.md shows, with the answers that it tells beside them. */
public final class ReadmeTest {
    private ReadmeTest() {
    }

    public static void main(String[] args) {
        TriplicateForms x = new TriplicateForms();
        String office = "person ann; person bob; person cid retired; grudge bob ann 3; form dog ann 2;";
        Desk.due("office()", tell(x, office).office(), 5);
        Desk.due("fault()", x.fault(), 0);
        Desk.due("can(0)", x.can(0), 7);
        Desk.due("when(0)", x.when(0), 2);
        Desk.due("sign(0, 0)", x.sign(0, 0), 0);
        Desk.due("sign(0, 0) again", x.sign(0, 0), 2);
        Desk.due("stamp(0)", x.stamp(0), 20);
        Desk.dueText("the stamp", Desk.stamped(x, 0), "dog wants hurt third");
        Desk.due("byteAt(20)", x.byteAt(20), TriplicateForms.NONE);
        Desk.due("book(1)", tell(x, "bob signs dog; cid signs dog; day 2;").book(1), TriplicateForms.NONE);
        Desk.due("form(0, 5)", x.form(0, 5), 2);
        Desk.due("grudge(1, 0)", x.grudge(1, 0), 4);
        Desk.due("sentence()", tell(x, "granted and hurts bob").sentence(), 2);
        Desk.due("said(-1)", x.said(-1), 1);
        Desk.due("undo()", x.undo(), 1);
        Desk.due("fits()", tell(x, "\1\2").fits(), 1);
        Desk.due("ask()", x.ask(), 0);
        Desk.due("office() with a FAULT", tell(x, "form").office(), -5);
        Desk.due("the FAULT", x.fault(), 1);
        Desk.due("the office stays", x.count(0), 3);
        Desk.finish("ReadmeTest");
    }

    private static TriplicateForms tell(TriplicateForms x, String text) {
        int before = x.count(3);
        for (int at = 0; at < text.length(); at += 20) {
            int[] n = new int[5];
            for (int i = 0; i < 20; i++) {
                n[i / 4] = n[i / 4] << 8 | (at + i < text.length() ? text.charAt(at + i) : 0);
            }
            x.feed(n[0], n[1], n[2], n[3], n[4]);
        }
        x.end(before + text.length());
        return x;
    }
}
