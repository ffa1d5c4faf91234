/** Promises 6 and 7: put, note. */
public final class NoteTest {
    public static void main(String[] args) {
        CatalanWeb web = Checks.web(5, 17);
        for (int i = 0; i < 20; i++) {
            web.put(i, 100 + i);
        }
        for (int i = 0; i < 20; i++) {
            Checks.due("note(" + i + ")", web.note(i), 100 + i);
        }
        for (int v : new int[] {Integer.MIN_VALUE, -1, 0, 1, Integer.MAX_VALUE}) {
            web.put(0, v);
            web.put(19, v);
            Checks.due("note(0)", web.note(0), v);
            Checks.due("note(19)", web.note(19), v);
            Checks.due("note(1)", web.note(1), 101);
            Checks.due("note(18)", web.note(18), 118);
        }
        for (int i : new int[] {-1, 20, Integer.MIN_VALUE, Integer.MAX_VALUE}) {
            Checks.outOfBounds("put(" + i + ", 5)", () -> web.put(i, 5));
            Checks.outOfBounds("note(" + i + ")", () -> web.note(i));
        }
        for (int i = 1; i < 19; i++) {
            Checks.due("note(" + i + ") after wrong calls", web.note(i), 100 + i);
        }
        Checks.due("rank() after put", web.rank(), 17);
        CatalanWeb other = new CatalanWeb();
        Checks.due("note(5) of another object", other.note(5), 0);
        Checks.end();
    }
}
