import java.util.ArrayList;
import java.util.List;
import java.util.Random;

/**
 * Makes calls for long runs, a few that belong together at a time: what has been put on the note
 * is to be taken, and a changed word is to be looked at. The same seed makes the same calls.
 */
final class CallMaker {
    /** What a run is mostly made of. */
    enum Kind { ALL_MIXED, MOSTLY_TAKING, MOSTLY_MOVING, MOSTLY_REFUSED }

    private static final int[] FAR = {Integer.MIN_VALUE, Integer.MAX_VALUE, -1000, 1000000};

    private final Kind kind;
    private final Random random;

    CallMaker(Kind kind, Random random) {
        this.kind = kind;
        this.random = random;
    }

    List<Call> next(Model model) {
        int chance = random.nextInt(10);
        if (kind == Kind.MOSTLY_TAKING && chance < 7) {
            return taking(model);
        }
        if (kind == Kind.MOSTLY_MOVING && chance < 8) {
            return List.of(moving(model));
        }
        if (kind == Kind.MOSTLY_REFUSED && chance < 6) {
            return List.of(refused(model), looking(model));
        }
        switch (random.nextInt(8)) {
            case 0: return resizing(model);
            case 1: return taking(model);
            case 2: return List.of(moving(model));
            case 3: return List.of(refused(model));
            case 4: return List.of(allowed("put", model));
            case 5: return List.of(allowed("unrank", model), looking(model));
            case 6: return List.of(allowed("rows", model));
            default: return List.of(looking(model));
        }
    }

    /** A call with arguments that are allowed, if there are any (size 1 has no diagonal). */
    Call allowed(String name, Model model) {
        switch (name) {
            case "size": return Call.of(name, 1 + random.nextInt(9));
            case "unrank":
            case "flips": return Call.of(name, random.nextInt(model.words()));
            case "rows": return Call.of(name, random.nextInt(16), random.nextInt(16));
            case "put": return Call.of(name, random.nextInt(20), small());
            case "note": return Call.of(name, random.nextInt(20));
            case "show":
            case "take": return Call.of(name, random.nextInt(Oracle.FAMILIES));
            case "flip": return Call.of(name, random.nextInt(Math.max(1, model.size() - 1)));
            default: return Call.of(name);
        }
    }

    private Call oneOf(Model model, String... names) {
        return allowed(names[random.nextInt(names.length)], model);
    }

    private Call looking(Model model) {
        return oneOf(model, "show", "rank", "note", "note");
    }

    private Call moving(Model model) {
        return oneOf(model, "mirror", "turn", "complement", "flip", "flips");
    }

    /** What stood on the note before may be a thing of the new size, too, or begin with one. */
    private List<Call> resizing(Model model) {
        int family = random.nextInt(Oracle.FAMILIES);
        Call size = allowed("size", model);
        switch (random.nextInt(3)) {
            case 0: return List.of(Call.of("show", family), size, Call.of("take", family));
            case 1: return List.of(size, Call.of("rank"));
            default: return List.of(size);
        }
    }

    private List<Call> taking(Model model) {
        int family = random.nextInt(Oracle.FAMILIES);
        Call take = Call.of("take", family);
        Call show = Call.of("show", family);
        switch (random.nextInt(5)) {
            case 0: return List.of(take);
            case 1: return List.of(show, allowed("unrank", model), take, looking(model));
            case 2: return List.of(show, spoiling(model, family), take, looking(model));
            case 3: return writing(model, take, false);
            default: return writing(model, take, true);
        }
    }

    private Call spoiling(Model model, int family) {
        int length = model.oracle().thing(family, 0).size();
        return Call.of("put", random.nextInt(Math.max(1, length)), small());
    }

    private List<Call> writing(Model model, Call take, boolean spoilt) {
        List<Integer> thing = model.oracle().thing(take.first(), random.nextInt(model.words()));
        List<Call> calls = new ArrayList<>();
        for (int i = 0; i < thing.size(); i++) {
            boolean here = spoilt && random.nextInt(thing.size()) == 0;
            calls.add(Call.of("put", i, here ? small() : thing.get(i)));
        }
        calls.add(take);
        calls.add(looking(model));
        return calls;
    }

    private Call refused(Model model) {
        switch (random.nextInt(9)) {
            case 0: return Call.of("size", outside(1, 9));
            case 1: return Call.of("unrank", outside(0, model.words() - 1));
            case 2: return Call.of("rows", outside(0, 15), random.nextInt(16));
            case 3: return Call.of("rows", random.nextInt(16), outside(0, 15));
            case 4: return Call.of("put", outside(0, 19), small());
            case 5: return Call.of("note", outside(0, 19));
            case 6: return Call.of(random.nextBoolean() ? "show" : "take", outside(0, 5));
            case 7: return Call.of("flip", outside(0, model.size() - 2));
            default: return Call.of("flips", outside(0, model.words() - 1));
        }
    }

    private int outside(int least, int greatest) {
        switch (random.nextInt(3)) {
            case 0: return least - 1;
            case 1: return greatest + 1;
            default: return FAR[random.nextInt(FAR.length)];
        }
    }

    /** Mostly a number that could stand in a thing. */
    private int small() {
        return random.nextInt(8) == 0 ? FAR[random.nextInt(FAR.length)] : random.nextInt(13) - 1;
    }
}
