import java.util.ArrayList;
import java.util.Arrays;
import java.util.HashMap;
import java.util.List;
import java.util.Map;
import java.util.TreeSet;

/**
 * All words of a size with their counterparts, made straight from the words of the document and
 * sharing nothing with the program: recursion over 1 a 0 b, and lookup among all words.
 */
final class Oracle {
    static final int BRACKETS = 0;
    static final int BINARY_TREE = 1;
    static final int PLANE_TREE = 2;
    static final int TRIANGULATION = 3;
    static final int PARTITION = 4;
    static final int PERMUTATION = 5;
    static final int FAMILIES = 6;
    static final int[] WORDS = {1, 1, 2, 5, 14, 42, 132, 429, 1430, 4862};

    final int n;
    final List<String> words = new ArrayList<>();
    private final List<List<List<Integer>>> things = new ArrayList<>();
    private final List<Map<List<Integer>, Integer>> ranks = new ArrayList<>();
    private final Map<List<Integer>, List<Integer>> sharing = new HashMap<>();
    private int[][] leastFlips = null;

    Oracle(int n) {
        this.n = n;
        addWords("", 0, 0);
        for (int family = 0; family < FAMILIES; family++) {
            things.add(new ArrayList<>());
            ranks.add(new HashMap<>());
            for (int rank = 0; rank < words.size(); rank++) {
                List<Integer> thing = counterpart(family, words.get(rank));
                things.get(family).add(thing);
                ranks.get(family).put(thing, rank);
            }
        }
        for (int rank = 0; rank < words.size(); rank++) {
            for (int d = 0; d < n - 1; d++) {
                sharing.computeIfAbsent(without(thing(TRIANGULATION, rank), d), k -> new ArrayList<>()).add(rank);
            }
        }
    }

    /** How many rows of so many 1 and 0 there are in which no beginning has more 0 than 1. */
    static long rows(int up, int down) {
        return down > up ? 0 : choose(up + down, down) - choose(up + down, down - 1);
    }

    private static long choose(int n, int k) {
        long ways = k < 0 ? 0 : 1;
        for (int i = 1; i <= k; i++) {
            ways = ways * (n - k + i) / i;
        }
        return ways;
    }

    private void addWords(String begun, int ones, int zeros) {
        if (ones == n && zeros == n) {
            words.add(begun);
        }
        if (ones < n) {
            addWords(begun + "1", ones + 1, zeros);
        }
        if (zeros < ones) {
            addWords(begun + "0", ones, zeros + 1);
        }
    }

    List<Integer> thing(int family, int rank) {
        return things.get(family).get(rank);
    }

    /** The rank of the word with that counterpart, or null. */
    Integer rankOf(int family, List<Integer> thing) {
        return ranks.get(family).get(thing);
    }

    private List<Integer> counterpart(int family, String w) {
        switch (family) {
            case BRACKETS: return digits(w);
            case BINARY_TREE: return binaryTree(w);
            case PLANE_TREE: return planeTree(w);
            case TRIANGULATION: return triangulation(w);
            case PARTITION: return partition(w);
            default: return permutation(w);
        }
    }

    private static List<Integer> digits(String w) {
        List<Integer> digits = new ArrayList<>();
        for (char c : w.toCharArray()) {
            digits.add(c - '0');
        }
        return digits;
    }

    /** The place of the 0 that closes the 1 at a place. */
    private static int closer(String w, int place) {
        int ones = 0;
        int zeros = 0;
        for (int at = place; at < w.length(); at++) {
            if (w.charAt(at) == '1') {
                ones++;
            } else {
                zeros++;
            }
            if (ones == zeros) {
                return at;
            }
        }
        throw new IllegalStateException("no word: " + w);
    }

    private static String inner(String w) {
        return w.substring(1, closer(w, 0));
    }

    private static String rest(String w) {
        return w.substring(closer(w, 0) + 1);
    }

    private static List<Integer> binaryTree(String w) {
        List<Integer> numbers = new ArrayList<>();
        addNode(w, numbers);
        return numbers;
    }

    private static int addNode(String w, List<Integer> numbers) {
        if (w.isEmpty()) {
            return -1;
        }
        int node = numbers.size() / 2;
        numbers.add(null);
        numbers.add(null);
        numbers.set(2 * node, addNode(inner(w), numbers));
        numbers.set(2 * node + 1, addNode(rest(w), numbers));
        return node;
    }

    private static List<Integer> planeTree(String w) {
        List<Integer> parents = new ArrayList<>();
        addPlaneNode(w, -1, parents);
        return parents;
    }

    private static void addPlaneNode(String w, int parent, List<Integer> parents) {
        int node = parents.size();
        parents.add(parent);
        for (String left = w; !left.isEmpty(); left = rest(left)) {
            addPlaneNode(inner(left), node, parents);
        }
    }

    private List<Integer> triangulation(String w) {
        TreeSet<Integer> sides = new TreeSet<>();
        addTriangles(w, 0, n + 1, sides);
        List<Integer> numbers = new ArrayList<>();
        for (int side : sides) {
            int i = side / 100;
            int j = side % 100;
            if (j - i > 1 && !(i == 0 && j == n + 1)) {
                numbers.add(i);
                numbers.add(j);
            }
        }
        return numbers;
    }

    private static void addTriangles(String w, int i, int j, TreeSet<Integer> sides) {
        if (w.isEmpty()) {
            return;
        }
        int k = i + 1 + inner(w).length() / 2;
        sides.add(100 * i + j);
        sides.add(100 * i + k);
        sides.add(100 * k + j);
        addTriangles(inner(w), i, k, sides);
        addTriangles(rest(w), k, j, sides);
    }

    private List<Integer> partition(String w) {
        Integer[] least = new Integer[n];
        List<Integer> pile = new ArrayList<>();
        int number = 0;
        for (int place = 0; place < w.length(); ) {
            if (w.charAt(place) == '1') {
                pile.add(++number);
                place++;
                continue;
            }
            TreeSet<Integer> block = new TreeSet<>();
            while (place < w.length() && w.charAt(place) == '0') {
                block.add(pile.remove(pile.size() - 1));
                place++;
            }
            for (int x : block) {
                least[x - 1] = block.first();
            }
        }
        return Arrays.asList(least);
    }

    private static List<Integer> permutation(String w) {
        List<Integer> numbers = new ArrayList<>();
        for (int place = 0; place < w.length(); place++) {
            if (w.charAt(place) == '1') {
                String upToCloser = w.substring(0, closer(w, place) + 1);
                numbers.add((int) upToCloser.chars().filter(c -> c == '0').count());
            }
        }
        return numbers;
    }

    int mirror(int rank) {
        StringBuilder mirrored = new StringBuilder();
        for (char c : new StringBuilder(words.get(rank)).reverse().toString().toCharArray()) {
            mirrored.append(c == '1' ? '0' : '1');
        }
        return words.indexOf(mirrored.toString());
    }

    int turn(int rank) {
        TreeSet<Integer> turned = new TreeSet<>();
        List<Integer> now = thing(TRIANGULATION, rank);
        for (int at = 0; at < now.size(); at += 2) {
            int i = (now.get(at) + 1) % (n + 2);
            int j = (now.get(at + 1) + 1) % (n + 2);
            turned.add(100 * Math.min(i, j) + Math.max(i, j));
        }
        List<Integer> numbers = new ArrayList<>();
        for (int side : turned) {
            numbers.add(side / 100);
            numbers.add(side % 100);
        }
        return rankOf(TRIANGULATION, numbers);
    }

    int complement(int rank) {
        List<Integer> least = thing(PARTITION, rank);
        int[] s = new int[n + 1];
        for (int x = 1; x <= n; x++) {
            s[x] = least.get(x - 1);
            for (int y = n; y > x; y--) {
                if (least.get(y - 1).equals(least.get(x - 1))) {
                    s[x] = y;
                }
            }
        }
        List<Integer> numbers = new ArrayList<>();
        for (int x = 1; x <= n; x++) {
            TreeSet<Integer> reached = new TreeSet<>();
            int z = x;
            do {
                int wanted = z == n ? 1 : z + 1;
                for (int y = 1; y <= n; y++) {
                    if (s[y] == wanted) {
                        z = y;
                        break;
                    }
                }
            } while (reached.add(z));
            numbers.add(reached.first());
        }
        return rankOf(PARTITION, numbers);
    }

    /** The only other triangulation that has all diagonals but the d-th. */
    int flip(int rank, int d) {
        for (int other : sharing.get(without(thing(TRIANGULATION, rank), d))) {
            if (other != rank) {
                return other;
            }
        }
        throw new IllegalStateException("no flip");
    }

    private static List<Integer> without(List<Integer> diagonals, int d) {
        List<Integer> left = new ArrayList<>(diagonals);
        left.remove(2 * d + 1);
        left.remove(2 * d);
        return left;
    }

    /** The least numbers of flips between all words; kept, because they are dear to find. */
    int[][] flips() {
        if (leastFlips == null) {
            leastFlips = shortestWays();
        }
        return leastFlips;
    }

    /** By shortening ways over every word in between. */
    private int[][] shortestWays() {
        int count = words.size();
        int[][] ways = new int[count][count];
        for (int from = 0; from < count; from++) {
            Arrays.fill(ways[from], 1000);
            ways[from][from] = 0;
            for (int d = 0; d < n - 1; d++) {
                ways[from][flip(from, d)] = 1;
            }
        }
        for (int over = 0; over < count; over++) {
            for (int from = 0; from < count; from++) {
                for (int to = 0; to < count; to++) {
                    ways[from][to] = Math.min(ways[from][to], ways[from][over] + ways[over][to]);
                }
            }
        }
        return ways;
    }
}
