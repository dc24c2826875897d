import java.lang.reflect.InvocationTargetException;
import java.lang.reflect.Method;
import java.util.Arrays;

/** Runs of 512 calls, as many as an object is used for, each call's answer compared with the model's. */
final class LongRunTests {
    private static final Checks CHECKS = new Checks("LongRunTests");
    private static final int CALLS = 512;
    private static final Draws DRAWS = new Draws();
    private static final String[] COUNTS = {"segments", "vertices", "edges", "faces", "components"};
    private static final String[] OF_VERTEX = {"xNumerator", "xDenominator", "yNumerator", "yDenominator",
        "degree"};
    private static final String[] OF_EDGE = {"segmentOf", "from", "to", "leftOf", "rightOf"};
    private static final String[] OF_FACE = {"sides", "firstVertex"};

    /** A map and the model, which are asked the same. */
    private final String name;
    private final SegmentMap map = new SegmentMap();
    private final Model model = new Model();
    private int calls = 0;

    private LongRunTests(String name) {
        this.name = name;
    }

    public static void main(String[] args) {
        for (int run = 0; run < 60; run++) {
            new LongRunTests("mixed " + run).mixed(run % 12 + 1, run % 5 * 25);
        }
        new LongRunTests("add and remove").addAndRemove();
        new LongRunTests("fill and empty").fillAndEmpty();
        new LongRunTests("refused").refused();
        CHECKS.finish();
    }

    // ---- one call

    /** The answer as a text, or the name of the exception. */
    private static String asked(Object one, String call, int... arguments) {
        Class<?>[] types = new Class<?>[arguments.length];
        Arrays.fill(types, int.class);
        try {
            Method method = one.getClass().getDeclaredMethod(call, types);
            return method.invoke(one, Arrays.stream(arguments).boxed().toArray()) + "\n";
        } catch (InvocationTargetException e) {
            return e.getCause().getClass().getName() + "\n";
        } catch (ReflectiveOperationException e) {
            throw new IllegalStateException(e);
        }
    }

    private void ask(String call, int... arguments) {
        calls++;
        CHECKS.same(name + ", call " + calls + ": " + call + Arrays.toString(arguments),
                asked(map, call, arguments), asked(model, call, arguments));
    }

    private static int coordinate() {
        return DRAWS.next(40) == 0 ? DRAWS.from(-1, 101, Integer.MIN_VALUE, Integer.MAX_VALUE) : DRAWS.next(101);
    }

    /** Often the first, the last or one that there is not. */
    private static int number(int count) {
        int any = count == 0 ? 0 : DRAWS.next(count);
        return DRAWS.from(any, any, any, any, 0, count - 1, count, -1, DRAWS.from(count + 1, Integer.MIN_VALUE,
                Integer.MAX_VALUE));
    }

    // ---- runs

    /** Some of the ends lie on few places, so that there are overlaps and common ends. */
    private void mixed(int few, int shift) {
        while (calls < CALLS) {
            int kind = DRAWS.next(12);
            if (kind == 0 && DRAWS.next(2) == 0) {
                ask("remove", number(model.segments()));
            } else if (kind < 4) {
                addAny(few, shift);
            } else {
                askAny(kind);
            }
        }
    }

    private void addAny(int few, int shift) {
        if (DRAWS.next(3) == 0) {
            ask("add", coordinate(), coordinate(), coordinate(), coordinate());
        } else {
            int step = (100 - shift) / few;
            ask("add", shift + step * DRAWS.next(few + 1), shift + step * DRAWS.next(few + 1),
                    shift + step * DRAWS.next(few + 1), shift + step * DRAWS.next(few + 1));
        }
    }

    private void askAny(int kind) {
        switch (kind) {
            case 4 -> ask(COUNTS[DRAWS.next(5)]);
            case 5 -> ask("meet", number(model.segments()), number(model.segments()));
            case 6 -> ask(OF_VERTEX[DRAWS.next(5)], number(model.vertices()));
            case 7 -> ask(OF_EDGE[DRAWS.next(5)], number(model.edges()));
            case 8 -> ask(OF_FACE[DRAWS.next(2)], number(model.faces()));
            case 9 -> ask("faceAt", coordinate(), coordinate());
            case 10 -> ask("crossing", coordinate());
            default -> {
                int x = coordinate();
                ask("crossingAt", x, number(x < 0 || x > 100 ? 12 : model.crossing(x)));
            }
        }
    }

    private void askAll() {
        for (int kind = 4; kind < 12; kind++) {
            askAny(kind);
        }
    }

    /** 256 times one more and one less, at a full map; each call builds the greatest map anew. */
    private void addAndRemove() {
        int[] ends = Maps.greatestEnds();
        for (int i = 0; i < 12; i++) {
            ask("add", ends[4 * i], ends[4 * i + 1], ends[4 * i + 2], ends[4 * i + 3]);
        }
        for (int round = 0; calls < CALLS - 2; round++) {
            ask("remove", round % 12);
            int i = 4 * (round * 7 % 12);
            ask("add", ends[i + 2], ends[i + 3], ends[i], ends[i + 1]);
            if (model.segments() < 12) {
                ask("add", DRAWS.next(101), 0, DRAWS.next(101), 100);
            }
        }
        while (calls < CALLS) {
            ask("vertices");
        }
    }

    /** Up to twelve and down to none, over and over, with the last call on a map as it should be. */
    private void fillAndEmpty() {
        while (calls < CALLS - 40) {
            while (model.segments() < 12 && calls < CALLS - 40) {
                ask("add", DRAWS.next(101), DRAWS.next(101), DRAWS.next(101), DRAWS.next(101));
            }
            askAll();
            while (model.segments() > 0) {
                ask("remove", DRAWS.next(model.segments()));
            }
        }
        while (calls < CALLS) {
            askAny(4 + calls % 8);
        }
    }

    /** Calls that are all refused, between a few that are not: the last answers are as the first ones. */
    private void refused() {
        int[] ends = Maps.fullEnds();
        for (int i = 0; i < 12; i++) {
            ask("add", ends[4 * i], ends[4 * i + 1], ends[4 * i + 2], ends[4 * i + 3]);
        }
        for (int i = 0; calls < CALLS - 24; i++) {
            ask("add", i % 100, 97, 100, 99);
            ask("add", 50, 50, 50, 50);
            ask("add", 0, 0, 100, 101);
            ask("remove", 12 + i);
            ask("remove", -1 - i);
            ask("crossingAt", i % 101, 12);
            ask("faceAt", i % 101, -1);
        }
        for (int place = 0; calls < CALLS; place++) {
            ask("crossingAt", 100, place % 12);
            ask("segmentOf", place % 12);
        }
    }
}
