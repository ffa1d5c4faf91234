import java.util.Arrays;

/**
 * Goes about among six families of things that are as many as one another for each size: words of
 * brackets, binary trees, plane trees, triangulations, partitions and permutations.
 */
public final class CatalanWeb {
    private static final int LARGEST_SIZE = 9;
    private static final int LARGEST_SIZE_FOR_FLIPS = 6;
    private static final int MOST_OF_A_KIND = 15;
    private static final int NOTE_LENGTH = 20;
    private static final int NONE = -1;

    private final Ranks ranks = new Ranks();
    private final Partitions partitions = new Partitions();
    private final Triangulations triangulations = new Triangulations();
    private final Family[] families = {
        new Brackets(), new BinaryTrees(), new PlaneTrees(), triangulations, partitions, new Permutations()
    };
    private final FlipGraph[] graphs = new FlipGraph[LARGEST_SIZE_FOR_FLIPS + 1];
    private final int[] paper = new int[NOTE_LENGTH];
    private final int[] trial = new int[NOTE_LENGTH];
    private Word current = new Word();
    private Word draft = new Word();

    public CatalanWeb() {
        ranks.seek(current, 1, 0);
    }

    public int size(int n) throws IllegalArgumentException {
        if (n < 1 || n > LARGEST_SIZE) {
            throw new IllegalArgumentException("the size is not 1 to 9");
        }
        ranks.seek(current, n, 0);
        return ranks.words(n);
    }

    public int rank() {
        return ranks.of(current);
    }

    public void unrank(int rank) throws IllegalArgumentException {
        if (!isRank(rank)) {
            throw new IllegalArgumentException("there is no word of that rank");
        }
        ranks.seek(current, current.pairs(), rank);
    }

    public int rows(int up, int down) throws IllegalArgumentException {
        if (up < 0 || up > MOST_OF_A_KIND || down < 0 || down > MOST_OF_A_KIND) {
            throw new IllegalArgumentException("up or down is not 0 to 15");
        }
        return ranks.count(up, down);
    }

    public void put(int i, int v) throws IndexOutOfBoundsException {
        if (i < 0 || i >= NOTE_LENGTH) {
            throw new IndexOutOfBoundsException("the note has the numbers 0 to 19");
        }
        paper[i] = v;
    }

    public int note(int i) throws IndexOutOfBoundsException {
        if (i < 0 || i >= NOTE_LENGTH) {
            throw new IndexOutOfBoundsException("the note has the numbers 0 to 19");
        }
        return paper[i];
    }

    public int show(int family) throws IllegalArgumentException {
        if (!isFamily(family)) {
            throw new IllegalArgumentException("the family is not 0 to 5");
        }
        families[family].write(current, paper);
        return families[family].length(current.pairs());
    }

    public int take(int family) throws IllegalArgumentException, IllegalStateException {
        if (!isFamily(family)) {
            throw new IllegalArgumentException("the family is not 0 to 5");
        }
        if (!draftFromPaper(families[family])) {
            throw new IllegalStateException("no such counterpart stands on the note");
        }
        return adoptDraft();
    }

    public int mirror() {
        draft.begin(current.pairs());
        int ones = 0;
        for (int place = current.length() - 1; place >= 0; place--) {
            if (current.isOne(place)) {
                draft.closeAfter(ones);
            } else {
                ones++;
            }
        }
        return adoptFinished();
    }

    public int turn() {
        draft.begin(current.pairs());
        triangulations.draw(current);
        triangulations.moveCorners();
        triangulations.tell(draft);
        return adoptFinished();
    }

    public int complement() {
        draft.begin(current.pairs());
        partitions.tellComplement(current, draft);
        return adoptFinished();
    }

    public int flip(int d) throws IndexOutOfBoundsException {
        if (d < 0 || d >= current.pairs() - 1) {
            throw new IndexOutOfBoundsException("there is no such diagonal");
        }
        draft.begin(current.pairs());
        triangulations.draw(current);
        triangulations.exchange(d);
        triangulations.tell(draft);
        return adoptFinished();
    }

    public int flips(int rank) throws IllegalArgumentException {
        if (current.pairs() > LARGEST_SIZE_FOR_FLIPS || !isRank(rank)) {
            throw new IllegalArgumentException("there is no such rank, or the size is above 6");
        }
        return graphOf(current.pairs()).distance(ranks.of(current), rank);
    }

    private boolean isRank(int rank) {
        return rank >= 0 && rank < ranks.words(current.pairs());
    }

    private boolean isFamily(int family) {
        return family >= 0 && family < families.length;
    }

    /**
     * Reading a family may trust what stands on the note, because only what the word that was read
     * would write itself is accepted.
     */
    private boolean draftFromPaper(Family family) {
        draft.begin(current.pairs());
        family.read(paper, draft);
        if (!draft.finish()) {
            return false;
        }
        family.write(draft, trial);
        for (int i = 0; i < family.length(draft.pairs()); i++) {
            if (paper[i] != trial[i]) {
                return false;
            }
        }
        return true;
    }

    /** For drafts of which all 0s have been told. */
    private int adoptFinished() {
        draft.finish();
        return adoptDraft();
    }

    /** The two change places, so that no call makes a new word. */
    private int adoptDraft() {
        Word former = current;
        current = draft;
        draft = former;
        return ranks.of(current);
    }

    /** Kept once made, because the links of a graph are dear to find and never change. */
    private FlipGraph graphOf(int n) {
        FlipGraph graph = graphs[n];
        if (graph == null) {
            graph = new FlipGraph(n, ranks, triangulations);
            graphs[n] = graph;
        }
        return graph;
    }

    /**
     * A word, made by telling for each of its 0s, in any order, behind how many 1s it stands: every
     * family can tell that of its things without building the word from the front.
     */
    private static final class Word {
        private final int[] bits = new int[2 * LARGEST_SIZE];
        private final int[] closings = new int[LARGEST_SIZE + 1];
        private int pairs = 0;

        void begin(int n) {
            pairs = n;
            Arrays.fill(closings, 0);
        }

        /** A 0 that could stand in no word is left out, so that finish finds one too few. */
        void closeAfter(int ones) {
            if (ones >= 1 && ones <= pairs) {
                closings[ones]++;
            }
        }

        boolean finish() {
            int place = 0;
            int closed = 0;
            for (int one = 1; one <= pairs; one++) {
                closed += closings[one];
                if (closed > one) {
                    return false;
                }
                bits[place++] = 1;
                for (int k = 0; k < closings[one]; k++) {
                    bits[place++] = 0;
                }
            }
            return closed == pairs;
        }

        int pairs() {
            return pairs;
        }

        int length() {
            return 2 * pairs;
        }

        boolean isOne(int place) {
            return place >= 0 && place < length() && bits[place] == 1;
        }

        /** How many 0 stand between the one-th 1 and the next 1. */
        int closingsAfter(int one) {
            return one >= 1 && one <= pairs ? closings[one] : 0;
        }

        int zerosBefore(int place) {
            return place - onesBefore(place);
        }

        int onesBefore(int place) {
            int ones = 0;
            for (int at = 0; at < place && at < length(); at++) {
                ones += bits[at];
            }
            return ones;
        }

        /**
         * The first place up to which more 0 than 1 stand from a place on, or the length. For the
         * place behind a 1 that is the 0 of its pair; for the place of a 1 it is where the binary
         * tree that begins there has ended.
         */
        int fall(int from) {
            int height = 0;
            for (int place = from; place < length(); place++) {
                height += bits[place] == 1 ? 1 : -1;
                if (height < 0) {
                    return place;
                }
            }
            return length();
        }
    }

    /** The numbers of rows, and the ranks that follow from them. */
    private static final class Ranks {
        private final int[][] counts = new int[MOST_OF_A_KIND + 1][MOST_OF_A_KIND + 1];

        Ranks() {
            for (int up = 0; up <= MOST_OF_A_KIND; up++) {
                counts[up][0] = 1;
                for (int down = 1; down <= up; down++) {
                    counts[up][down] = counts[up][down - 1] + counts[up - 1][down];
                }
            }
        }

        int count(int up, int down) {
            return counts[up][down];
        }

        int words(int n) {
            return counts[n][n];
        }

        int of(Word word) {
            int onesLeft = word.pairs();
            int zerosLeft = word.pairs();
            int rank = 0;
            for (int place = 0; place < word.length(); place++) {
                if (word.isOne(place)) {
                    onesLeft--;
                } else {
                    rank += endingsWithOneFirst(onesLeft, zerosLeft);
                    zerosLeft--;
                }
            }
            return rank;
        }

        void seek(Word word, int n, int rank) {
            int onesLeft = n;
            int zerosLeft = n;
            int ahead = rank;
            word.begin(n);
            for (int place = 0; place < 2 * n; place++) {
                int passed = endingsWithOneFirst(onesLeft, zerosLeft);
                if (ahead < passed) {
                    onesLeft--;
                } else {
                    ahead -= passed;
                    zerosLeft--;
                    word.closeAfter(n - onesLeft);
                }
            }
            word.finish();
        }

        /** An ending read from behind, 1 for 0 and 0 for 1, is just such a row as count counts. */
        private int endingsWithOneFirst(int onesLeft, int zerosLeft) {
            return onesLeft == 0 ? 0 : counts[zerosLeft][onesLeft - 1];
        }
    }

    /** How the things of a family stand on the note. */
    private abstract static class Family {
        /** How many numbers a thing of size n has. */
        abstract int length(int n);

        /** Writes the word's counterpart. */
        abstract void write(Word word, int[] paper);

        /**
         * Tells a word that has begun where its 0s stand. What it tells is right if a thing of the
         * family stands there, and anything if not.
         */
        abstract void read(int[] paper, Word word);
    }

    private static final class Brackets extends Family {
        int length(int n) {
            return 2 * n;
        }

        void write(Word word, int[] paper) {
            for (int place = 0; place < word.length(); place++) {
                paper[place] = word.isOne(place) ? 1 : 0;
            }
        }

        void read(int[] paper, Word word) {
            int ones = 0;
            for (int place = 0; place < word.length(); place++) {
                if (paper[place] == 1) {
                    ones++;
                } else {
                    word.closeAfter(ones);
                }
            }
        }
    }

    private static final class BinaryTrees extends Family {
        private final int[] ends = new int[LARGEST_SIZE];

        int length(int n) {
            return 2 * n;
        }

        void write(Word word, int[] paper) {
            int node = 0;
            for (int place = 0; place < word.length(); place++) {
                if (word.isOne(place)) {
                    paper[2 * node] = nodeAt(word, place + 1);
                    paper[2 * node + 1] = nodeAt(word, word.fall(place + 1) + 1);
                    node++;
                }
            }
        }

        private static int nodeAt(Word word, int place) {
            return word.isOne(place) ? word.onesBefore(place) : NONE;
        }

        /**
         * The nodes of a part have numbers without a gap, so that a node's 0 stands behind as many
         * 1s as the number is at which its left part has ended: that of its right part, or, if it
         * has none, that at which its own part ends.
         */
        void read(int[] paper, Word word) {
            int n = word.pairs();
            Arrays.fill(ends, n);
            for (int node = 0; node < n; node++) {
                int right = paper[2 * node + 1];
                int leftEnd = ends[node];
                if (right > node && right < n) {
                    ends[right] = ends[node];
                    leftEnd = right;
                }
                if (node + 1 < leftEnd) {
                    ends[node + 1] = leftEnd;
                }
                word.closeAfter(leftEnd);
            }
        }
    }

    private static final class PlaneTrees extends Family {
        private final int[] lasts = new int[LARGEST_SIZE + 1];

        int length(int n) {
            return n + 1;
        }

        void write(Word word, int[] paper) {
            int node = 0;
            int made = 0;
            paper[0] = NONE;
            for (int place = 0; place < word.length(); place++) {
                if (word.isOne(place)) {
                    made++;
                    paper[made] = node;
                    node = made;
                } else {
                    node = paper[node];
                }
            }
        }

        /** A node's 0 stands behind the 1 of the last node below it, or behind its own. */
        void read(int[] paper, Word word) {
            int n = word.pairs();
            for (int node = 0; node <= n; node++) {
                lasts[node] = node;
            }
            for (int node = n; node >= 1; node--) {
                int parent = paper[node];
                if (parent >= 0 && parent < node) {
                    lasts[parent] = Math.max(lasts[parent], lasts[node]);
                }
                word.closeAfter(lasts[node]);
            }
        }
    }

    private static final class Triangulations extends Family {
        private final int[] lows = new int[LARGEST_SIZE];
        private final int[] highs = new int[LARGEST_SIZE];
        private int diagonals = 0;

        int length(int n) {
            return 2 * n - 2;
        }

        void write(Word word, int[] paper) {
            draw(word);
            for (int d = 0; d < diagonals; d++) {
                paper[2 * d] = lows[d];
                paper[2 * d + 1] = highs[d];
            }
        }

        void read(int[] paper, Word word) {
            diagonals = word.pairs() - 1;
            for (int d = 0; d < diagonals; d++) {
                lows[d] = paper[2 * d];
                highs[d] = paper[2 * d + 1];
            }
            tell(word);
        }

        /**
         * Each diagonal is the side on which the binary tree of a 1 stands, the first 1 left out,
         * which stands for the whole tree. The middle corner of its triangle is the 0 of its pair,
         * so that corners are counted by the 0s in front of them.
         */
        void draw(Word word) {
            diagonals = 0;
            int corner = 0;
            for (int place = 0; place < word.length(); place++) {
                if (!word.isOne(place)) {
                    corner++;
                } else if (place > 0) {
                    insert(corner, word.zerosBefore(word.fall(place)) + 1);
                }
            }
        }

        private void insert(int low, int high) {
            int at = diagonals;
            while (at > 0 && comesAfter(at - 1, low, high)) {
                lows[at] = lows[at - 1];
                highs[at] = highs[at - 1];
                at--;
            }
            lows[at] = low;
            highs[at] = high;
            diagonals++;
        }

        private boolean comesAfter(int d, int low, int high) {
            return lows[d] > low || (lows[d] == low && highs[d] > high);
        }

        /**
         * Behind the 0 of a corner come the 1s of the triangles of which it is the least corner:
         * one for each diagonal that begins there, and, at corner 0, one for the whole tree.
         */
        void tell(Word word) {
            for (int corner = 1; corner <= word.pairs(); corner++) {
                int ones = 1;
                for (int d = 0; d < diagonals; d++) {
                    if (lows[d] < corner) {
                        ones++;
                    }
                }
                word.closeAfter(ones);
            }
        }

        /** Every corner becomes one more, the last one 0; the diagonals' order is not kept. */
        void moveCorners() {
            for (int d = 0; d < diagonals; d++) {
                if (highs[d] == lastCorner()) {
                    highs[d] = lows[d] + 1;
                    lows[d] = 0;
                } else {
                    lows[d]++;
                    highs[d]++;
                }
            }
        }

        /**
         * A diagonal becomes the other one of its four corners; the diagonals' order is not kept.
         * Three corners joined with one another are always a triangle, as none lies inside.
         */
        void exchange(int d) {
            int low = NONE;
            int high = NONE;
            for (int corner = 0; corner <= lastCorner(); corner++) {
                if (joined(corner, lows[d]) && joined(corner, highs[d])) {
                    low = low == NONE ? corner : low;
                    high = corner;
                }
            }
            lows[d] = low;
            highs[d] = high;
        }

        private int lastCorner() {
            return diagonals + 2;
        }

        private boolean joined(int a, int b) {
            int low = Math.min(a, b);
            int high = Math.max(a, b);
            if (high - low == 1 || (low == 0 && high == lastCorner())) {
                return true;
            }
            for (int d = 0; d < diagonals; d++) {
                if (lows[d] == low && highs[d] == high) {
                    return true;
                }
            }
            return false;
        }
    }

    private static final class Partitions extends Family {
        private final int[] pile = new int[LARGEST_SIZE];
        private final int[] leasts = new int[LARGEST_SIZE];
        private final int[] greatests = new int[LARGEST_SIZE + 1];
        private final int[] former = new int[LARGEST_SIZE + 1];

        int length(int n) {
            return n;
        }

        void write(Word word, int[] paper) {
            int height = 0;
            for (int number = 1; number <= word.pairs(); number++) {
                pile[height] = number;
                height++;
                int bottom = height - word.closingsAfter(number);
                for (int at = bottom; at < height; at++) {
                    paper[pile[at] - 1] = pile[bottom];
                }
                height = bottom;
            }
        }

        /** A block is taken off behind its greatest number. */
        void read(int[] paper, Word word) {
            int n = word.pairs();
            for (int number = 1; number <= n; number++) {
                int least = paper[number - 1];
                if (least >= 1 && least <= n) {
                    greatests[least] = number;
                }
            }
            for (int number = 1; number <= n; number++) {
                int least = paper[number - 1];
                if (least >= 1 && least <= n) {
                    word.closeAfter(greatests[least]);
                }
            }
        }

        void tellComplement(Word word, Word result) {
            int n = word.pairs();
            write(word, leasts);
            for (int number = 1; number <= n; number++) {
                former[next(number, n)] = number;
            }
            for (int number = 1; number <= n; number++) {
                result.closeAfter(greatestReached(number, n));
            }
        }

        private int next(int number, int n) {
            for (int other = number + 1; other <= n; other++) {
                if (leasts[other - 1] == leasts[number - 1]) {
                    return other;
                }
            }
            return leasts[number - 1];
        }

        /** n steps are enough to go all the way round, as no way round is longer. */
        private int greatestReached(int number, int n) {
            int at = number;
            int greatest = number;
            for (int step = 0; step < n; step++) {
                at = former[at == n ? 1 : at + 1];
                greatest = Math.max(greatest, at);
            }
            return greatest;
        }
    }

    private static final class Permutations extends Family {
        private final int[] openers = new int[LARGEST_SIZE + 1];

        int length(int n) {
            return n;
        }

        void write(Word word, int[] paper) {
            int written = 0;
            for (int place = 0; place < word.length(); place++) {
                if (word.isOne(place)) {
                    paper[written] = word.zerosBefore(word.fall(place + 1)) + 1;
                    written++;
                }
            }
        }

        /** In front of a 0 stand the 1s of its own pair and of all pairs closed before, no later ones. */
        void read(int[] paper, Word word) {
            int n = word.pairs();
            Arrays.fill(openers, 0);
            for (int one = 1; one <= n; one++) {
                int zero = paper[one - 1];
                if (zero >= 1 && zero <= n) {
                    openers[zero] = one;
                }
            }
            int ones = 0;
            for (int zero = 1; zero <= n; zero++) {
                ones = Math.max(ones, openers[zero]);
                word.closeAfter(ones);
            }
        }
    }

    /** Which words of a size are one flip from one another, by their ranks. */
    private static final class FlipGraph {
        private final int words;
        private final int diagonals;
        private final int[] links;
        private final int[] steps;
        private final int[] queue;

        FlipGraph(int n, Ranks ranks, Triangulations triangulations) {
            words = ranks.words(n);
            diagonals = n - 1;
            links = new int[words * diagonals];
            steps = new int[words];
            queue = new int[words];
            Word from = new Word();
            Word to = new Word();
            for (int rank = 0; rank < words; rank++) {
                ranks.seek(from, n, rank);
                for (int d = 0; d < diagonals; d++) {
                    triangulations.draw(from);
                    triangulations.exchange(d);
                    to.begin(n);
                    triangulations.tell(to);
                    to.finish();
                    links[rank * diagonals + d] = ranks.of(to);
                }
            }
        }

        int distance(int from, int to) {
            Arrays.fill(steps, NONE);
            steps[from] = 0;
            queue[0] = from;
            int found = 1;
            for (int next = 0; next < words && next < found && steps[to] == NONE; next++) {
                found = findNeighbours(queue[next], found);
            }
            return steps[to];
        }

        private int findNeighbours(int rank, int found) {
            int known = found;
            for (int d = 0; d < diagonals; d++) {
                int neighbour = links[rank * diagonals + d];
                if (steps[neighbour] == NONE) {
                    steps[neighbour] = steps[rank] + 1;
                    queue[known] = neighbour;
                    known++;
                }
            }
            return known;
        }
    }
}
