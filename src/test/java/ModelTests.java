import java.util.ArrayList;
import java.util.Arrays;
import java.util.List;
import java.util.Random;

/** Long runs of chance calls (from fixed seeds), each answer held against the model's. */
public final class ModelTests {
    private static final int OBJECTS = 1500;
    /** An object is used for 512 calls; one step makes up to 15. */
    private static final int CALLS = 512 - 15;

    private static final String SIGNS = "0123456789abcdefgh^^^^^^";
    private static int wrong = 0;
    private static int[] seen = new int[6];

    private final Random chance;
    private final AnswerLines x = new AnswerLines();
    private final Model model = new Model();
    private final List<String> told = new ArrayList<>();
    /** How many NAMES, PLACES and KINDS a run mostly keeps to: few ones meet more often. */
    private final int names, places, kinds;

    private ModelTests(long seed) {
        chance = new Random(seed);
        names = 1 + chance.nextInt(8);
        places = 1 + chance.nextInt(4);
        kinds = 3 + chance.nextInt(8);
    }

    private int number(int low, int high) {
        if (chance.nextInt(60) == 0) return chance.nextBoolean() ? high + 1 : low - 1;
        if (chance.nextInt(300) == 0) return chance.nextBoolean() ? Integer.MAX_VALUE : Integer.MIN_VALUE;
        return low + chance.nextInt(high - low + 1);
    }

    private int anyKind() {
        return number(0, Math.max(model.parents.size() - 1, 0));
    }

    private int anyName() {
        return chance.nextInt(8) == 0 ? number(0, 7) : number(0, names - 1);
    }

    private int anyPlace() {
        return chance.nextInt(8) == 0 ? number(0, 3) : number(0, places - 1);
    }

    private boolean hold(String call, int got, int want) {
        told.add(call + " = " + got);
        if (want >= 0) seen[0]++;
        else if (want >= -5) seen[-want]++;
        if (got == want) return true;
        wrong++;
        System.out.println(String.join("; ", told));
        System.out.println("due is " + want);
        return false;
    }

    private static String text(String name, Object... args) {
        return name + Arrays.toString(args);
    }

    private boolean makeKind() {
        int n = model.parents.isEmpty() ? 0 : number(0, Math.min(3, model.parents.size()));
        int a = anyKind(), b = anyKind(), c = anyKind();
        for (int i = 0; i < 4 && (a == b || b == c || a == c); i++) {
            b = anyKind();
            c = anyKind();
        }
        return hold(text("kind", n, a, b, c), x.kind(n, a, b, c), model.kind(n, a, b, c));
    }

    private boolean giveBody() {
        int length = chance.nextInt(chance.nextInt(12) + 1);
        for (int i = 0; i < length; i++) {
            int sign = SIGNS.charAt(chance.nextInt(SIGNS.length()));
            if (chance.nextInt(80) == 0) sign = number(33, 126);
            if (!hold(text("say", sign), x.say(sign), model.say(sign))) return false;
        }
        int kind = anyKind(), name = anyName();
        return hold("fault", x.fault(), model.fault())
            && hold(text("has", kind, name), x.has(kind, name), model.has(kind, name))
            && (chance.nextInt(4) != 0 || hold("wipe", x.wipe(), model.wipe()));
    }

    private boolean change() {
        int kind = anyKind(), name = anyName(), place = anyPlace();
        boolean is = chance.nextBoolean();
        int v = number(1, 4);
        switch (chance.nextInt(12)) {
            case 0: return hold(text("bare", kind, is), x.bare(kind, is), model.bare(kind, is));
            case 1: return hold(text("drop", kind, name), x.drop(kind, name), model.drop(kind, name));
            case 2: return hold(text("size", place, v), x.size(place, v), model.size(place, v));
            case 3: return chance.nextInt(5) != 0 || hold("forget", x.forget(), model.forget());
            case 4: case 5: case 6: case 7: case 8:
                return hold(text("call", place, kind), x.call(place, kind), model.call(place, kind));
            default: return giveBody();
        }
    }

    private boolean askOfKinds() {
        int kind = anyKind(), other = anyKind(), name = anyName(), two = number(0, 1);
        int i = chance.nextInt(4) == 0 ? number(-2, 42) : number(-2, 9);
        switch (chance.nextInt(12)) {
            case 0: return hold(text("of", kind, two), x.of(kind, two), model.of(kind, two));
            case 1: return hold(text("line", kind, i), x.line(kind, i), model.line(kind, i));
            case 2: return hold(text("quarrel", kind), x.quarrel(kind), model.quarrel(kind));
            case 3: return hold(text("answer", kind, name), x.answer(kind, name), model.answer(kind, name));
            case 4: return hold(text("next", kind, name, other), x.next(kind, name, other), model.next(kind, name, other));
            case 5: case 6: case 7: return hold(text("run", kind, name, i), x.run(kind, name, i), model.run(kind, name, i));
            case 8: return hold(text("nearest", kind, name), x.nearest(kind, name), model.nearest(kind, name));
            case 9: return hold(text("doubt", name), x.doubt(name), model.doubt(name));
            case 10: return chance.nextInt(6) != 0 || hold(text("settle", name, two), x.settle(name, two), model.settle(name, two));
            default: return hold(text("shift", kind, name), x.shift(kind, name), model.shift(kind, name));
        }
    }

    private boolean askOfTables() {
        int kind = anyKind(), name = anyName(), two = number(0, 1), place = anyPlace();
        int row = chance.nextBoolean() ? kind : -1;
        int spot = chance.nextInt(4) == 0 ? number(0, 99) : number(0, 30);
        int column = number(-1, 7), part = number(0, 2), kept = number(10, 13);
        int many = chance.nextInt(4) == 0 ? number(0, 40) : number(0, 12);
        int what = number(0, 29);
        switch (chance.nextInt(8)) {
            case 0: return hold(text("column", column), x.column(column), model.column(column));
            case 1: return hold(text("packed", row), x.packed(row), model.packed(row));
            case 2: return hold(text("slot", spot), x.slot(spot), model.slot(spot));
            case 3: return hold(text("one", kind, name, two), x.one(kind, name, two), model.one(kind, name, two));
            case 4: return hold(text("hits", place, part), x.hits(place, part), model.hits(place, part));
            case 5: return hold(text("hits", place, kept), x.hits(place, kept), model.hits(place, kept));
            case 6: return hold(text("need", place, many), x.need(place, many), model.need(place, many));
            default: return hold(text("told", what), x.told(what), model.told(what));
        }
    }

    private boolean step() {
        if (model.parents.size() < kinds && chance.nextInt(4) == 0 || chance.nextInt(200) == 0) return makeKind();
        switch (chance.nextInt(3)) {
            case 0: return change();
            case 1: return askOfKinds();
            default: return askOfTables();
        }
    }

    private void hold() {
        while (told.size() < CALLS) {
            if (!step()) return;
        }
    }

    public static void main(String[] args) {
        int objects = args.length > 0 ? Integer.parseInt(args[0]) : OBJECTS;
        long first = args.length > 1 ? Long.parseLong(args[1]) : 1;
        for (int i = 0; i < objects && wrong < 5; i++) new ModelTests(first + i).hold();
        for (int refusal = 0; refusal < 6; refusal++) {
            if (seen[refusal] == 0) {
                wrong++;
                System.out.println("no call was ever due to answer " + -refusal);
            }
        }
        System.out.println(objects + " objects: " + (wrong == 0 ? "all answers are those of the model" : wrong + " wrong"));
        if (wrong != 0) System.exit(1);
    }
}
