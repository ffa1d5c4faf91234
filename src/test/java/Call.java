import java.lang.reflect.InvocationTargetException;
import java.util.Arrays;
import java.util.List;
import java.util.stream.Collectors;

/**
 * A call of the face by its name, so that one row of calls can be made on an object and on a Model.
 * Its answer is a text: a number, NOTHING, or what it throws.
 */
record Call(String name, List<Integer> arguments) {
    static final String NOTHING = "nothing";
    static final List<String> NAMES = List.of("complement", "flip", "flips", "mirror", "note", "put", "rank", "rows",
        "show", "size", "take", "turn", "unrank");

    static Call of(String name, Integer... arguments) {
        return new Call(name, List.of(arguments));
    }

    static String thrown(Class<?> type) {
        return "throws " + type.getSimpleName();
    }

    int first() {
        return arguments.get(0);
    }

    int second() {
        return arguments.get(1);
    }

    String on(CatalanWeb web) {
        Class<?>[] types = new Class<?>[arguments.size()];
        Arrays.fill(types, int.class);
        try {
            Object answer = CatalanWeb.class.getMethod(name, types).invoke(web, arguments.toArray());
            return answer == null ? NOTHING : answer.toString();
        } catch (InvocationTargetException e) {
            return thrown(e.getCause().getClass());
        } catch (ReflectiveOperationException e) {
            return "no such call";
        }
    }

    @Override
    public String toString() {
        return name + arguments.stream().map(String::valueOf).collect(Collectors.joining(", ", "(", ")"));
    }
}
