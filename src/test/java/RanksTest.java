/** Promises 1 to 5: a new object, size, rank, unrank, rows. */
public final class RanksTest {
    private static final int[] NO_SIZES = {0, -1, 10, 11, Integer.MIN_VALUE, Integer.MAX_VALUE};

    public static void main(String[] args) {
        newObject();
        for (int n = 1; n <= 9; n++) {
            sizes(n);
            ranks(Standing.oracle(n));
            noRanks(n);
        }
        noSizes();
        rows();
        noRows();
        Checks.end();
    }

    private static void newObject() {
        CatalanWeb web = new CatalanWeb();
        Checks.due("new: rank()", web.rank(), 0);
        for (int i = 0; i < 20; i++) {
            Checks.due("new: note(" + i + ")", web.note(i), 0);
        }
        Checks.illegalArgument("new: unrank(1)", () -> web.unrank(1));
        Checks.due("new: show(0)", web.show(0), 2);
        Checks.due("new: the word", Checks.noteOf(web, 3).toString(), "[1, 0, 0]");
    }

    private static void sizes(int n) {
        CatalanWeb web = Checks.web(9, 4861);
        web.put(0, 7);
        Checks.due("size(" + n + ")", web.size(n), Oracle.WORDS[n]);
        Checks.due("rank() after size(" + n + ")", web.rank(), 0);
        Checks.due("note(0) after size(" + n + ")", web.note(0), 7);
        web.unrank(Oracle.WORDS[n] - 1);
        Checks.due("size(" + n + ") again", web.size(n), Oracle.WORDS[n]);
        Checks.due("rank() after size(" + n + ") again", web.rank(), 0);
    }

    private static void noSizes() {
        CatalanWeb web = Checks.web(5, 17);
        for (int n : NO_SIZES) {
            Checks.illegalArgument("size(" + n + ")", () -> web.size(n));
            Checks.due("rank() after size(" + n + ")", web.rank(), 17);
            Checks.due("show(0) after size(" + n + ")", web.show(0), 10);
        }
    }

    private static void ranks(Oracle oracle) {
        for (int rank = 0; rank < oracle.words.size(); rank++) {
            CatalanWeb web = new CatalanWeb();
            web.size(oracle.n);
            web.unrank(rank);
            String what = "size " + oracle.n + ", unrank(" + rank + "): ";
            Checks.due(what + "rank()", web.rank(), rank);
            web.show(0);
            Checks.due(what + "the word", Checks.noteOf(web, 2 * oracle.n), oracle.thing(0, rank));
        }
    }

    private static void noRanks(int n) {
        CatalanWeb web = Checks.web(n, Oracle.WORDS[n] / 2);
        for (int rank : new int[] {-1, Oracle.WORDS[n], Integer.MIN_VALUE, Integer.MAX_VALUE}) {
            Checks.illegalArgument("size " + n + ", unrank(" + rank + ")", () -> web.unrank(rank));
            Checks.due("size " + n + ", rank() after unrank(" + rank + ")", web.rank(), Oracle.WORDS[n] / 2);
        }
    }

    private static void rows() {
        for (int up = 0; up <= 15; up++) {
            for (int down = 0; down <= 15; down++) {
                Checks.due("rows(" + up + ", " + down + ")", (long) new CatalanWeb().rows(up, down), Oracle.rows(up, down));
                if (up + down <= 16) {
                    Checks.due("the oracle's rows(" + up + ", " + down + ")", Oracle.rows(up, down), counted(up, down, 0));
                }
            }
        }
        CatalanWeb web = Checks.web(4, 9);
        Checks.due("rows(0, 0)", web.rows(0, 0), 1);
        Checks.due("rows(15, 0)", web.rows(15, 0), 1);
        Checks.due("rows(0, 15)", web.rows(0, 15), 0);
        Checks.due("rows(15, 15)", web.rows(15, 15), 9694845);
        Checks.due("rank() after rows", web.rank(), 9);
    }

    private static long counted(int up, int down, int height) {
        if (height < 0) {
            return 0;
        }
        return up + down == 0 ? 1
            : (up > 0 ? counted(up - 1, down, height + 1) : 0) + (down > 0 ? counted(up, down - 1, height - 1) : 0);
    }

    private static void noRows() {
        CatalanWeb web = new CatalanWeb();
        for (int wrong : new int[] {-1, 16, Integer.MIN_VALUE, Integer.MAX_VALUE}) {
            for (int right : new int[] {0, 7, 15, wrong}) {
                Checks.illegalArgument("rows(" + wrong + ", " + right + ")", () -> web.rows(wrong, right));
                Checks.illegalArgument("rows(" + right + ", " + wrong + ")", () -> web.rows(right, wrong));
            }
        }
    }
}
