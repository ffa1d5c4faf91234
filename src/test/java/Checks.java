import java.util.ArrayList;
import java.util.List;

/** Compares answers with those that are due, and ends a test with exit code 1 if one differs. */
final class Checks {
    private static final int MOST_PRINTED = 20;
    private static int made = 0;
    private static int wrong = 0;

    private Checks() {
    }

    interface Call {
        void run();
    }

    static void due(String what, Object got, Object want) {
        made++;
        if (!want.equals(got)) {
            wrong++;
            if (wrong <= MOST_PRINTED) {
                System.out.println(what + " answered " + got + ", due is " + want);
            }
        }
    }

    /** The class must be just the one named, not one below it. */
    static void dueThrow(String what, Class<? extends RuntimeException> want, Call call) {
        String got = "nothing thrown";
        try {
            call.run();
        } catch (RuntimeException e) {
            got = e.getClass().getName();
        }
        due(what, got, want.getName());
    }

    static void illegalArgument(String what, Call call) {
        dueThrow(what, IllegalArgumentException.class, call);
    }

    static void outOfBounds(String what, Call call) {
        dueThrow(what, IndexOutOfBoundsException.class, call);
    }

    static void illegalState(String what, Call call) {
        dueThrow(what, IllegalStateException.class, call);
    }

    static CatalanWeb web(int n, int rank) {
        CatalanWeb web = new CatalanWeb();
        web.size(n);
        web.unrank(rank);
        return web;
    }

    static void putAll(CatalanWeb web, List<Integer> numbers) {
        for (int i = 0; i < numbers.size(); i++) {
            web.put(i, numbers.get(i));
        }
    }

    static List<Integer> noteOf(CatalanWeb web, int length) {
        List<Integer> numbers = new ArrayList<>();
        for (int i = 0; i < length; i++) {
            numbers.add(web.note(i));
        }
        return numbers;
    }

    static void end() {
        System.out.println(made + " checks, " + wrong + " wrong");
        if (wrong != 0 || made == 0) {
            System.exit(1);
        }
    }
}
