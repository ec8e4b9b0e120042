import java.util.ArrayList;
import java.util.List;
import java.util.function.Consumer;
import java.util.function.Function;
import java.util.function.ToIntFunction;

/**
 * "A call that is refused changes nothing.": in each of several states, every call of a long list
 * that is refused (or only asks) is made on one of two objects that came to this state in the same
 * way; whatever is called on both afterwards must be answered alike.
 */
public final class UnchangedTests extends Checks {
    private static final int BATCH = 60;

    private final List<String> names = new ArrayList<>();
    private final List<Consumer<Counted>> states = new ArrayList<>();
    private final List<ToIntFunction<Counted>> changing = new ArrayList<>();
    private final List<ToIntFunction<Counted>> asking = new ArrayList<>();

    public static void main(String[] args) {
        sentence("A call that is refused changes nothing.");
        new UnchangedTests().compareAll();
        finish();
    }

    private UnchangedTests() {
        listStates();
        listBuildingCalls();
        listRunningCalls();
        listQueries();
    }

    private void compareAll() {
        for (int i = 0; i < states.size(); i++) {
            List<ToIntFunction<Counted>> quiet = new ArrayList<>(asking);
            for (ToIntFunction<Counted> call : changing) {
                if (answer(states.get(i), call) < 0) {
                    quiet.add(call);
                }
            }
            // Fewer would mean that the state is not the one that was meant.
            due(names.get(i) + ": many calls are refused", quiet.size() > asking.size() + 200 ? 1 : 0, 1);
            for (int from = 0; from < quiet.size(); from += BATCH) {
                compare(names.get(i), states.get(i), quiet.subList(from, Math.min(from + BATCH, quiet.size())));
            }
        }
    }

    private static Counted inState(Consumer<Counted> state) {
        Counted x = new Counted();
        state.accept(x);
        return x;
    }

    private static int answer(Consumer<Counted> state, ToIntFunction<Counted> call) {
        return call.applyAsInt(inState(state));
    }

    private static void compare(String name, Consumer<Counted> state, List<ToIntFunction<Counted>> quiet) {
        compare(name, state, quiet, UnchangedTests::afterwards);
        compare(name, state, quiet, UnchangedTests::afterDeploying);
    }

    private static void compare(String name, Consumer<Counted> state, List<ToIntFunction<Counted>> quiet,
            Function<Counted, List<String>> later) {
        Counted asked = inState(state);
        Counted twin = inState(state);
        StringBuilder calls = new StringBuilder();
        for (ToIntFunction<Counted> call : quiet) {
            int alone = answer(state, call);
            due(name + ", " + Counted.lastCall() + " after others", call.applyAsInt(asked), alone);
            calls.append("\n  ").append(Counted.lastCall());
        }
        List<String> got = later.apply(asked);
        List<String> want = later.apply(twin);
        for (int i = 0; i < want.size(); i++) {
            boolean same = got.get(i).equals(want.get(i));
            due(same ? "" : name + ": " + got.get(i) + ", but " + want.get(i) + " without one of" + calls, same ? 1 : 0, 1);
        }
    }

    // What is called on both

    private static void note(List<String> told, int answer) {
        told.add(Counted.lastCall() + " = " + answer);
    }

    /** Deploys at once: a refused call of its own before that could hide what the others changed. */
    private static List<String> afterDeploying(Counted x) {
        List<String> told = new ArrayList<>();
        note(told, x.deploy());
        for (int thread = 0; thread <= 2; thread++) {
            note(told, x.end(thread));
        }
        follow(told, x);
        note(told, x.live());
        note(told, x.shutdown());
        build(told, x);
        note(told, x.deploy());
        follow(told, x);
        note(told, x.shutdown());
        for (int k = 0; k < 40; k++) {
            note(told, x.destroyed(k));
        }
        return told;
    }

    private static List<String> afterwards(Counted x) {
        List<String> told = new ArrayList<>();
        look(told, x);
        run(told, x);
        note(told, x.shutdown());
        note(told, x.deploy());
        for (int thread = 0; thread <= 2; thread++) {
            note(told, x.end(thread));
        }
        follow(told, x);
        note(told, x.shutdown());
        build(told, x);
        note(told, x.deploy());
        for (int bean = 0; bean < 16; bean++) {
            note(told, x.cost(bean));
        }
        run(told, x);
        note(told, x.shutdown());
        for (int k = 0; k < 24; k++) {
            note(told, x.destroyed(k));
        }
        note(told, x.destroyed(199));
        return told;
    }

    private static void look(List<String> told, Counted x) {
        note(told, x.live());
        for (int bean = 0; bean <= 16; bean++) {
            note(told, x.types(bean));
            note(told, x.cost(bean));
        }
        for (int number = 1; number <= 15; number++) {
            note(told, x.beanOf(number));
            note(told, x.owner(number));
        }
        for (int mark = 0; mark < 16; mark++) {
            note(told, x.candidates(ROOT, mark(mark)));
        }
        note(told, x.candidates(3, -1));
        note(told, x.candidates(code(2, KIND_OF, 3), -1));
        note(told, x.candidates(8, -1));
        note(told, x.candidates(14, -1));
        note(told, x.destroyed(0));
        note(told, x.destroyed(5));
    }

    private static void run(List<String> told, Counted x) {
        for (int thread = 0; thread <= 2; thread++) {
            note(told, x.obtain(thread, 3, mark(1)));
            note(told, x.obtain(thread, ROOT, mark(2)));
        }
        for (int point = 0; point < 3; point++) {
            note(told, x.call(0, 3, point));
            note(told, x.call(2, 11, point));
        }
        note(told, x.end(0));
        note(told, x.end(2));
        for (int thread = 0; thread <= 2; thread++) {
            note(told, x.begin(thread) ? 1 : 0);
            note(told, x.obtain(thread, ROOT, mark(6)));
        }
        note(told, x.obtain(0, ROOT, mark(3)));
        note(told, x.obtain(0, 3, mark(15)));
        note(told, x.obtain(0, ROOT, mark(12)));
        note(told, x.destroy(6));
        note(told, x.destroy(11));
        note(told, x.end(1));
        note(told, x.live());
    }

    /** Every injection point of those beans that have some. */
    private static void follow(List<String> told, Counted x) {
        note(told, x.begin(1) ? 1 : 0);
        for (int bean : new int[] {0, 3, 4, 6, 8, 10, 15}) {
            int made = x.obtain(1, ROOT, mark(bean));
            note(told, made);
            for (int point = 0; point < 3; point++) {
                note(told, x.call(1, made, point));
            }
        }
    }

    private static void build(List<String> told, Counted x) {
        note(told, x.declare(3, code(5, 3), false, false));
        note(told, x.declare(code(2, VARIABLE), 0, true, true));
        note(told, x.manage(3, mark(15), DEPENDENT, 0));
        note(told, x.produce(0, code(2, 3), mark(12), APPLICATION, 0));
        for (int bean = 0; bean < 16; bean++) {
            note(told, x.inject(bean, ROOT, mark(2)));
        }
        note(told, x.candidates(9, -1));
        note(told, x.candidates(10, -1));
    }

    // The states

    private void state(String name, Consumer<Counted> state) {
        names.add(name);
        states.add(state);
    }

    private void listStates() {
        state("new", x -> { });
        state("building", UnchangedTests::base);
        state("building after a problem", x -> {
            base(x);
            x.inject(10, 3, mark(15));
            x.deploy();
        });
        state("thirteen classes", x -> {
            base(x);
            fillClasses(x);
        });
        state("sixteen beans", x -> {
            base(x);
            fillBeans(x);
        });
        state("full", UnchangedTests::fill);
        state("running", x -> {
            base(x);
            x.deploy();
        });
        state("running with instances", UnchangedTests::work);
        state("running, one number left", x -> {
            work(x);
            exhaust(x, 199);
        });
        state("running without numbers", x -> {
            work(x);
            exhaust(x, 200);
        });
        state("running, full", x -> {
            fill(x);
            x.deploy();
            x.begin(1);
            x.obtain(1, ROOT, mark(6));
        });
        state("building again", x -> {
            work(x);
            x.shutdown();
        });
    }

    /**
     * The classes up to 7, of which that one has level 3; eleven beans: of each scope, a product
     * with its home, one not enabled, two too dear to make.
     */
    private static void base(Counted x) {
        generic(x);
        plain(x);
        x.declare(3, 0, false, true);
        x.declare(code(2, VARIABLE), 0, true, false);
        x.declare(code(5, VARIABLE), 0, true, false);
        x.declare(0, code(6, 3), false, false);
        x.manage(3, mark(0), DEPENDENT, 0);
        x.manage(3, mark(1), REQUEST, 0);
        x.manage(4, mark(2), APPLICATION, 0);
        x.manage(ROOT, mark(3), DEPENDENT, 0);
        x.produce(0, code(2, 3), mark(4), DEPENDENT, 0);
        x.manage(ROOT, mark(5), DEPENDENT, -1);
        x.manage(ROOT, mark(6), REQUEST, 0);
        x.manage(ROOT, mark(7), DEPENDENT, 0);
        x.manage(ROOT, mark(8), DEPENDENT, 0);
        x.manage(ROOT, mark(9), APPLICATION, 0);
        x.manage(ROOT, mark(10), DEPENDENT, 0);
        int[][] points = {{3, 0, 1, 2}, {4, 0}, {6, 3}, {7, 8, 8, 3}, {8, 0, 0, 0}, {9, 7}, {10, 9, 0}};
        for (int[] bean : points) {
            for (int i = 1; i < bean.length; i++) {
                x.inject(bean[0], bean[i] < 3 ? 3 : ROOT, mark(bean[i]));
            }
        }
    }

    private static void fillClasses(Counted x) {
        for (int number = 8; number <= 13; number++) {
            x.declare(3, 0, false, number % 2 == 0);
        }
    }

    private static void fillBeans(Counted x) {
        for (int bean = 11; bean < 16; bean++) {
            x.manage(3, mark(bean), bean % 3, 0);
        }
    }

    private static void fill(Counted x) {
        base(x);
        fillClasses(x);
        fillBeans(x);
        for (int bean = 0; bean < 16; bean++) {
            for (int point = 0; point < 3; point++) {
                x.inject(bean, ROOT, mark(2));
            }
        }
    }

    /** Twelve instances are made, of which 1, 2 and 7 are gone; threads 0 and 2 have requests. */
    private static void work(Counted x) {
        base(x);
        x.deploy();
        x.begin(0);
        x.obtain(0, ROOT, mark(3));        // 1, with 2
        x.obtain(0, ROOT, mark(6));        // 3, with 4, with 5
        x.obtain(1, ROOT, mark(2));        // 6
        x.obtain(0, ROOT, mark(4));        // 8, with 9; its home was 7
        x.obtain(0, ROOT, mark(10));       // 10, with 11
        x.obtain(0, 3, mark(1));           // 12
        x.destroy(1);
        x.begin(2);
    }

    private static void exhaust(Counted x, int last) {
        int used = 12;
        for (int i = 0; i < 47 && used + 4 <= last; i++) {
            x.obtain(0, ROOT, mark(8));
            used += 4;
        }
        for (int i = 0; i < 4 && used < last; i++) {
            x.obtain(0, ROOT, mark(0));
            used++;
        }
    }

    // The calls: those of them that are refused in a state are made there

    private void listBuildingCalls() {
        for (int first : new int[] {0, 3, 4, 1, 7, -1, 8, code(2, VARIABLE), code(2, KIND_OF, 3), code(2, 2, 2, 3)}) {
            for (int second : new int[] {0, 2, 4, -5}) {
                changing.add(x -> x.declare(first, second, true, false));
                changing.add(x -> x.declare(second, first, false, true));
            }
        }
        changing.add(x -> x.declare(code(5, 3), code(2, VARIABLE), false, false));
        int[][] traits = {{0, 0, 0}, {-1, 1, 0}, {16, 2, 9}, {64, 3, 0}, {64, -1, 1}, {8, 0, -2}, {8, 0, 101}};
        for (int which : new int[] {1, 3, 0, 8, -1}) {
            for (int[] t : traits) {
                changing.add(x -> x.manage(which, t[0], t[1], t[2]));
                changing.add(x -> x.produce(-1, which, t[0], t[1], t[2]));
                changing.add(x -> x.produce(0, which == 3 ? code(2, 30) : 3, t[0], t[1], t[2]));
                changing.add(x -> x.produce(which + 1, 3, t[0], t[1], t[2]));
            }
        }
        for (int bean : new int[] {0, 3, 7, 15, 16, -1}) {
            for (int type : new int[] {1, 3, 0, 8, code(2, VARIABLE)}) {
                for (int marks : new int[] {-1, mark(1), 16, -2}) {
                    changing.add(x -> x.inject(bean, type, marks));
                }
            }
        }
        // A deployment with problems is not refused, but nothing is to come of it either.
        changing.add(x -> {
            int problems = x.deploy();
            return problems > 0 ? -100 - problems : problems;
        });
    }

    private void listRunningCalls() {
        for (int thread = -1; thread <= 3; thread++) {
            int at = thread;
            changing.add(x -> x.begin(at) ? 0 : -100);
            changing.add(x -> x.end(at));
            for (int type : new int[] {1, 3, 4, 0, code(2, VARIABLE)}) {
                for (int bean = 0; bean <= 11; bean++) {
                    int marks = mark(bean);
                    changing.add(x -> x.obtain(at, type, marks));
                }
                changing.add(x -> x.obtain(at, type, -1));
                changing.add(x -> x.obtain(at, type, -2));
            }
        }
        for (int number : new int[] {-1, 0, 1, 2, 3, 4, 5, 6, 7, 8, 9, 10, 11, 12, 13, 200, 201}) {
            changing.add(x -> x.destroy(number));
            for (int point = -1; point <= 3; point++) {
                int at = point;
                changing.add(x -> x.call(0, number, at));
                changing.add(x -> x.call(1, number, at));
                changing.add(x -> x.call(3, number, at));
            }
        }
        changing.add(Counted::shutdown);
    }

    private void listQueries() {
        for (int number : new int[] {-1, 0, 1, 2, 3, 4, 5, 6, 8, 9, 10, 12, 15, 16, 199, 200, 201, 1 << 30}) {
            asking.add(x -> x.types(number));
            asking.add(x -> x.cost(number));
            asking.add(x -> x.beanOf(number));
            asking.add(x -> x.owner(number));
            asking.add(x -> x.destroyed(number));
            asking.add(x -> x.fits(3, number));
            asking.add(x -> x.fits(code(2, KIND_OF, 3), number));
            asking.add(x -> x.fits(0, number));
            asking.add(x -> x.candidates(number, -1));
            asking.add(x -> x.resolve(number, 0));
            asking.add(x -> x.resolve(ROOT, number));
        }
        asking.add(Counted::live);
    }
}
