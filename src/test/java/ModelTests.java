import java.util.ArrayList;
import java.util.Collections;
import java.util.Comparator;
import java.util.HashMap;
import java.util.LinkedHashSet;
import java.util.List;
import java.util.Map;
import java.util.Random;
import java.util.Set;
import java.util.TreeMap;
import java.util.function.Supplier;

/**
 * Long random runs, the same ones every time, in which each answer is compared with that of a
 * model: the document written down a second time with lists, sets and maps, without any thrift.
 */
public final class ModelTests {
    private static final int RUNS = 1500;
    private static final int CALLS = 512;

    /** Types are lists of digits here. */
    static final class Model {
        record Klass(boolean generic, boolean closed, int level, List<List<Integer>> parents) { }

        static final class Bean {
            List<Integer> type;
            int[] marks;
            int scope;
            int choice;
            Bean home;
            boolean managed;
            final List<Point> points = new ArrayList<>();
        }

        record Point(List<Integer> type, int marks) { }

        static final class Instance {
            int number;
            Bean bean;
            Instance owner;
            boolean dead;
            boolean obtained;
            final List<Instance> owned = new ArrayList<>();
            final Map<Integer, Instance> byPoint = new HashMap<>();
        }

        final TreeMap<Integer, Klass> classes = new TreeMap<>();
        final List<Bean> beans = new ArrayList<>();
        final List<Instance> instances = new ArrayList<>();
        final List<Integer> log = new ArrayList<>();
        final Map<Integer, Map<Bean, Instance>> requests = new TreeMap<>();
        Map<Bean, Instance> application = null;

        Model() {
            classes.put(1, new Klass(false, false, 0, List.of()));
        }

        boolean running() {
            return application != null;
        }

        static List<Integer> digits(int code) {
            if (code <= 0) {
                return null;
            }
            List<Integer> digits = new ArrayList<>();
            for (int rest = code; rest > 0; rest /= 32) {
                digits.add(rest % 32);
            }
            return digits;
        }

        boolean wellFormed(List<Integer> type) {
            int i = 0;
            while (true) {
                if (i >= type.size() || !classes.containsKey(type.get(i))) {
                    return false;
                }
                boolean generic = classes.get(type.get(i)).generic();
                i++;
                if (i == type.size()) {
                    return true;
                }
                if (!generic) {
                    return false;
                }
                int next = type.get(i);
                if (next == 30 || next == 31) {
                    return i + 1 == type.size();
                }
                if (next == 29) {
                    i++;
                }
            }
        }

        List<Integer> parentCode(int code, boolean generic) {
            List<Integer> d = digits(code);
            boolean taken = d != null && wellFormed(d) && d.size() <= 3 && !d.contains(29) && !d.contains(30)
                    && (generic || !d.contains(31)) && d.get(0) != 1 && !classes.get(d.get(0)).closed();
            return taken ? d : null;
        }

        List<Integer> productCode(int code) {
            List<Integer> d = digits(code);
            boolean taken = d != null && wellFormed(d) && d.size() <= 4 && !d.contains(29) && !d.contains(30);
            return taken ? d : null;
        }

        List<Integer> requiredCode(int code) {
            List<Integer> d = digits(code);
            return d != null && wellFormed(d) && d.size() <= 6 && !d.contains(31) ? d : null;
        }

        Set<List<Integer>> supertypes(List<Integer> x) {
            Set<List<Integer>> all = new LinkedHashSet<>();
            all.add(x);
            all.add(List.of(1));
            Klass head = classes.get(x.get(0));
            for (List<Integer> p : head.parents()) {
                List<Integer> becomes = new ArrayList<>();
                if (head.generic() && x.size() == 1) {
                    becomes.add(p.get(0));
                } else {
                    for (int digit : p) {
                        if (digit == 31) {
                            becomes.addAll(x.subList(1, x.size()));
                        } else {
                            becomes.add(digit);
                        }
                    }
                }
                all.addAll(supertypes(becomes));
            }
            return all;
        }

        boolean met(List<Integer> required, List<Integer> by) {
            if (!required.get(0).equals(by.get(0))) {
                return false;
            }
            List<Integer> r = required.subList(1, required.size());
            List<Integer> b = by.subList(1, by.size());
            if (r.isEmpty() && b.isEmpty()) {
                return true;
            }
            if (r.isEmpty()) {
                return b.equals(List.of(31)) || b.equals(List.of(1));
            }
            if (b.isEmpty()) {
                return r.equals(List.of(1));
            }
            if (b.equals(List.of(31)) || r.equals(List.of(30))) {
                return true;
            }
            if (r.get(0) == 29) {
                return metBySupertype(r.subList(1, r.size()), b);
            }
            return met(r, b);
        }

        boolean metBySupertype(List<Integer> required, List<Integer> type) {
            return supertypes(type).stream().anyMatch(s -> met(required, s));
        }

        static int[] marks(int number) {
            if (number < 0 || number > 32767) {
                return null;
            }
            int[] marks = new int[5];
            int rest = number;
            for (int kind = 0; kind < 5; kind++) {
                marks[kind] = rest % 8;
                rest /= 8;
            }
            return marks[1] > 1 ? null : marks;
        }

        static boolean requiredMarks(int number) {
            return number == -1 || marks(number) != null;
        }

        static boolean carries(Bean bean, int number) {
            int[] wanted = number == -1 ? new int[5] : number == 0 ? marks(8) : marks(number);
            for (int kind = 0; kind < 5; kind++) {
                if (wanted[kind] == 0) {
                    continue;
                }
                if (bean.marks[kind] == 0) {
                    return false;
                }
                if (kind < 4 && bean.marks[kind] != wanted[kind]) {
                    return false;
                }
            }
            return true;
        }

        static boolean enabled(Bean bean) {
            return bean.choice != -1 && (bean.home == null || enabled(bean.home));
        }

        static int rank(Bean bean) {
            return bean.choice > 0 ? bean.choice : bean.home != null ? rank(bean.home) : 0;
        }

        static List<Bean> narrow(List<Bean> some) {
            int highest = some.stream().mapToInt(Model::rank).max().orElse(0);
            return highest == 0 ? some : some.stream().filter(b -> rank(b) == highest).toList();
        }

        List<Bean> candidateList(List<Integer> type, int marks) {
            return beans.stream().filter(b -> enabled(b) && carries(b, marks) && metBySupertype(type, b.type)).toList();
        }

        int find(List<Integer> type, int marks) {
            List<Bean> all = candidateList(type, marks);
            if (all.isEmpty()) {
                return -4;
            }
            List<Bean> left = narrow(all);
            return left.size() == 1 ? beans.indexOf(left.get(0)) : -5;
        }

        int declare(int first, int second, boolean generic, boolean closed) {
            if (running()) {
                return -3;
            }
            if (classes.size() == 13) {
                return -2;
            }
            List<List<Integer>> parents = new ArrayList<>();
            int level = 0;
            for (int code : new int[] {first, second}) {
                if (code != 0) {
                    List<Integer> parent = parentCode(code, generic);
                    if (parent == null) {
                        return -1;
                    }
                    parents.add(parent);
                    level = Math.max(level, classes.get(parent.get(0)).level() + 1);
                }
            }
            if (level > 3) {
                return -1;
            }
            classes.put(classes.size() + 1, new Klass(generic, closed, level, parents));
            return classes.size();
        }

        private int addBean(Bean bean, int marks, int scope, int choice) {
            int[] m = marks(marks);
            if (m == null || scope < 0 || scope > 2 || choice < -1 || choice > 100) {
                return -1;
            }
            if (m[1] + m[2] + m[3] + m[4] == 0) {
                m[1] = 1;
            }
            bean.marks = m;
            bean.scope = scope;
            bean.choice = choice;
            beans.add(bean);
            return beans.size() - 1;
        }

        int manage(int which, int marks, int scope, int choice) {
            if (running()) {
                return -3;
            }
            if (beans.size() == 16) {
                return -2;
            }
            if (!classes.containsKey(which)) {
                return -1;
            }
            Bean bean = new Bean();
            bean.type = classes.get(which).generic() ? List.of(which, 31) : List.of(which);
            bean.managed = true;
            return addBean(bean, marks, scope, choice);
        }

        int produce(int home, int type, int marks, int scope, int choice) {
            if (running()) {
                return -3;
            }
            if (beans.size() == 16) {
                return -2;
            }
            Bean bean = new Bean();
            bean.type = productCode(type);
            if (home != -1) {
                if (home < 0 || home >= beans.size()) {
                    return -1;
                }
                bean.home = beans.get(home);
                if (!bean.home.managed || bean.home.scope != 0) {
                    return -1;
                }
            }
            return bean.type == null ? -1 : addBean(bean, marks, scope, choice);
        }

        boolean noBean(int bean) {
            return bean < 0 || bean >= beans.size();
        }

        int inject(int bean, int type, int marks) {
            if (running()) {
                return -3;
            }
            if (noBean(bean) || requiredCode(type) == null || !requiredMarks(marks)) {
                return -1;
            }
            List<Point> points = beans.get(bean).points;
            if (points.size() == 3) {
                return -2;
            }
            points.add(new Point(requiredCode(type), marks));
            return points.size() - 1;
        }

        int types(int bean) {
            return noBean(bean) ? -1 : supertypes(beans.get(bean).type).size();
        }

        int fits(int type, int bean) {
            if (noBean(bean) || requiredCode(type) == null) {
                return -1;
            }
            return metBySupertype(requiredCode(type), beans.get(bean).type) ? 1 : 0;
        }

        int candidates(int type, int marks) {
            if (requiredCode(type) == null || !requiredMarks(marks)) {
                return -1;
            }
            return candidateList(requiredCode(type), marks).size();
        }

        int resolve(int type, int marks) {
            if (requiredCode(type) == null || !requiredMarks(marks)) {
                return -1;
            }
            return find(requiredCode(type), marks);
        }

        /** The DEPENDENT beans of the points and the home, as often as each is needed. */
        List<Bean> needs(Bean bean) {
            List<Bean> needs = new ArrayList<>();
            for (Point p : bean.points) {
                int found = find(p.type(), p.marks());
                if (found >= 0 && beans.get(found).scope == 0) {
                    needs.add(beans.get(found));
                }
            }
            if (bean.home != null) {
                needs.add(bean.home);
            }
            return needs;
        }

        boolean needsItself(Bean bean) {
            Set<Bean> reached = new LinkedHashSet<>(needs(bean));
            List<Bean> open = new ArrayList<>(reached);
            while (!open.isEmpty()) {
                for (Bean next : needs(open.remove(open.size() - 1))) {
                    if (reached.add(next)) {
                        open.add(next);
                    }
                }
            }
            return reached.contains(bean);
        }

        int deploy() {
            if (running()) {
                return -3;
            }
            Set<Integer> problems = new LinkedHashSet<>();
            for (Bean bean : beans) {
                if (!enabled(bean)) {
                    continue;
                }
                if (bean.scope != 0 && bean.type.contains(31)) {
                    problems.add(1);
                }
                for (Point p : bean.points) {
                    int found = find(p.type(), p.marks());
                    if (found == -4) {
                        problems.add(2);
                    } else if (found == -5) {
                        problems.add(4);
                    } else if (beans.get(found).scope != 0 && classes.get(p.type().get(0)).closed()) {
                        problems.add(8);
                    }
                }
                if (needsItself(bean)) {
                    problems.add(16);
                }
            }
            for (int name = 1; name < 8; name++) {
                int n = name;
                if (narrow(beans.stream().filter(b -> enabled(b) && b.marks[0] == n).toList()).size() > 1) {
                    problems.add(32);
                }
            }
            if (problems.isEmpty()) {
                application = new HashMap<>();
            }
            return problems.stream().mapToInt(p -> p).sum();
        }

        final Map<Bean, Long> known = new HashMap<>();

        long fullCost(Bean bean) {
            Long cost = known.get(bean);
            if (cost == null) {
                cost = 1L;
                for (Bean need : needs(bean)) {
                    cost += fullCost(need);
                }
                known.put(bean, cost);
            }
            return cost;
        }

        int cost(int bean) {
            if (!running()) {
                return -3;
            }
            if (noBean(bean) || !enabled(beans.get(bean))) {
                return -1;
            }
            return (int) Math.min(100, fullCost(beans.get(bean)));
        }

        int begin(int thread) {
            if (!running() || thread < 0 || thread > 2 || requests.containsKey(thread)) {
                return 0;
            }
            requests.put(thread, new HashMap<>());
            return 1;
        }

        Instance make(Bean bean, Instance owner) {
            Instance home = bean.home == null ? null : make(bean.home, null);
            Instance made = new Instance();
            instances.add(made);
            made.number = instances.size();
            made.bean = bean;
            made.owner = owner;
            if (owner != null) {
                owner.owned.add(made);
            }
            for (int i = 0; i < bean.points.size(); i++) {
                Bean target = beans.get(find(bean.points.get(i).type(), bean.points.get(i).marks()));
                if (target.scope == 0) {
                    made.byPoint.put(i, make(target, made));
                }
            }
            if (home != null) {
                kill(home);
            }
            return made;
        }

        void kill(Instance instance) {
            if (instance.dead) {
                throw new IllegalStateException("destroyed twice");
            }
            instance.dead = true;
            log.add(instance.number);
            List<Instance> owned = new ArrayList<>(instance.owned);
            owned.sort(Comparator.comparingInt((Instance i) -> i.number).reversed());
            owned.forEach(this::kill);
        }

        boolean tooDear(Bean bean) {
            return fullCost(bean) > 10 || fullCost(bean) > 200 - instances.size();
        }

        int reach(int thread, Bean bean) {
            Map<Bean, Instance> context = bean.scope == 2 ? application : requests.get(thread);
            if (context == null) {
                return -7;
            }
            if (!context.containsKey(bean)) {
                if (tooDear(bean)) {
                    return -2;
                }
                context.put(bean, make(bean, null));
            }
            return context.get(bean).number;
        }

        void killAll(List<Instance> some) {
            List<Instance> sorted = new ArrayList<>(some);
            sorted.sort(Comparator.comparingInt((Instance i) -> i.number));
            Collections.reverse(sorted);
            sorted.forEach(this::kill);
        }

        int end(int thread) {
            if (!running()) {
                return -3;
            }
            if (thread < 0 || thread > 2) {
                return -1;
            }
            if (!requests.containsKey(thread)) {
                return -7;
            }
            int before = log.size();
            killAll(new ArrayList<>(requests.remove(thread).values()));
            return log.size() - before;
        }

        int obtain(int thread, int type, int marks) {
            if (!running()) {
                return -3;
            }
            if (thread < 0 || thread > 2 || requiredCode(type) == null || !requiredMarks(marks)) {
                return -1;
            }
            int found = find(requiredCode(type), marks);
            if (found < 0) {
                return found;
            }
            Bean bean = beans.get(found);
            if (bean.scope != 0) {
                return classes.get(type % 32).closed() ? -6 : reach(thread, bean);
            }
            if (tooDear(bean)) {
                return -2;
            }
            Instance made = make(bean, null);
            made.obtained = true;
            return made.number;
        }

        Instance living(int number) {
            if (number < 1 || number > instances.size() || instances.get(number - 1).dead) {
                return null;
            }
            return instances.get(number - 1);
        }

        int call(int thread, int number, int point) {
            if (!running()) {
                return -3;
            }
            if (thread < 0 || thread > 2) {
                return -1;
            }
            Instance instance = living(number);
            if (instance == null) {
                return -8;
            }
            if (point < 0 || point >= instance.bean.points.size()) {
                return -1;
            }
            if (instance.byPoint.containsKey(point)) {
                return instance.byPoint.get(point).number;
            }
            Point p = instance.bean.points.get(point);
            return reach(thread, beans.get(find(p.type(), p.marks())));
        }

        int destroy(int number) {
            if (!running()) {
                return -3;
            }
            Instance instance = living(number);
            if (instance == null) {
                return -8;
            }
            if (instance.owner != null) {
                return -1;
            }
            application.values().remove(instance);
            requests.values().forEach(c -> c.values().remove(instance));
            int before = log.size();
            kill(instance);
            return log.size() - before;
        }

        int shutdown() {
            if (!running()) {
                return -3;
            }
            int before = log.size();
            for (int thread = 0; thread < 3; thread++) {
                end(thread);
            }
            killAll(instances.stream().filter(i -> i.obtained && !i.dead).toList());
            killAll(new ArrayList<>(application.values()));
            application = null;
            known.clear();
            return log.size() - before;
        }

        int beanOf(int number) {
            Instance instance = living(number);
            return instance == null ? -8 : beans.indexOf(instance.bean);
        }

        int owner(int number) {
            Instance instance = living(number);
            return instance == null ? -8 : instance.owner == null ? 0 : instance.owner.number;
        }

        int destroyed(int k) {
            return k < 0 || k >= log.size() ? 0 : log.get(k);
        }

        int live() {
            return (int) instances.stream().filter(i -> !i.dead).count();
        }
    }

    private final Random random;
    private final Model model = new Model();
    private final WiringContainer real = new WiringContainer();
    private final StringBuilder told = new StringBuilder();
    private boolean wrong = false;
    private int calls = 0;
    private int failures = 0;
    private int wantedClasses;
    private int wantedBeans;
    private int wantedPoints;
    private static final Map<String, Integer> seen = new TreeMap<>();

    private ModelTests(long seed) {
        random = new Random(seed);
    }

    private void same(String call, int got, Supplier<Integer> due) {
        int want = due.get();
        calls++;
        told.append(call).append(" = ").append(got).append('\n');
        String name = call.substring(0, call.indexOf('('));
        seen.merge(name + (want < 0 ? " " + want : " ok"), 1, Integer::sum);
        if (got != want) {
            told.append("  due is ").append(want).append('\n');
            wrong = true;
        }
    }

    private boolean chance(int percent) {
        return random.nextInt(100) < percent;
    }

    /** Digits of some type, mostly a well formed one. */
    private int someType(int digits, boolean wild, boolean open) {
        int size = model.classes.size();
        int head = chance(2) ? random.nextInt(32) : chance(10) ? 1 : 1 + random.nextInt(size);
        boolean generic = model.classes.containsKey(head) && model.classes.get(head).generic();
        if (!generic && !chance(1) || digits <= 1 && !chance(2) || chance(15)) {
            return head;
        }
        int dice = random.nextInt(10);
        if (open && dice < 4 || chance(1)) {
            return head + 32 * 31;
        }
        if (wild && dice < 2) {
            return head + 32 * 30;
        }
        if (wild && dice < 5 && digits > 2) {
            return head + 32 * (29 + 32 * someType(digits - 2, wild, open));
        }
        return head + 32 * someType(digits - 1, wild, open);
    }

    private static int codeOf(List<Integer> digits) {
        int code = 0;
        for (int i = digits.size() - 1; i >= 0; i--) {
            code = code * 32 + digits.get(i);
        }
        return code;
    }

    private int someRequired() {
        if (!model.beans.isEmpty() && chance(75)) {
            Model.Bean bean = model.beans.get(random.nextInt(model.beans.size()));
            List<List<Integer>> all = new ArrayList<>(model.supertypes(bean.type));
            List<Integer> type = new ArrayList<>(all.get(random.nextInt(all.size())));
            if (type.size() > 6) {
                type = type.subList(0, 1);
            }
            int last = type.size() - 1;
            if (type.get(last) == 31) {
                type.remove(last);
                if (chance(60)) {
                    type.add(30);
                }
            } else if (type.size() > 1 && type.size() < 6 && chance(40)) {
                type.add(1, 29);
            }
            return codeOf(type);
        }
        return chance(3) ? random.nextInt() : someType(6, true, false);
    }

    private int someMarks(boolean rare) {
        if (chance(3)) {
            return random.nextInt(40000) - 100;
        }
        int marks = chance(rare ? 3 : 10) ? 1 + random.nextInt(7) : 0;
        marks += chance(10) ? 8 : 0;
        marks += chance(80) ? 64 * (1 + random.nextInt(7)) : 0;
        marks += chance(50) ? 512 * (1 + random.nextInt(7)) : 0;
        marks += chance(20) ? 4096 * (1 + random.nextInt(7)) : 0;
        return marks;
    }

    private int someRequiredMarks() {
        if (!model.beans.isEmpty() && chance(80)) {
            int[] m = model.beans.get(random.nextInt(model.beans.size())).marks;
            int marks = 0;
            for (int kind = 4; kind >= 0; kind--) {
                marks = marks * 8 + (chance(80) ? m[kind] : 0);
            }
            return marks;
        }
        return chance(40) ? -1 : chance(50) ? 0 : someMarks(false);
    }

    private int someBean() {
        return chance(4) ? random.nextInt(20) - 2 : random.nextInt(Math.max(1, model.beans.size()));
    }

    private int someThread() {
        return chance(4) ? random.nextInt(7) - 2 : random.nextInt(3);
    }

    private int someInstance() {
        if (chance(5)) {
            return random.nextInt(210) - 4;
        }
        int most = model.instances.size() + 1;
        for (int turn = 0; turn < 10; turn++) {
            int number = 1 + random.nextInt(most);
            if (model.living(number) != null) {
                return number;
            }
        }
        return random.nextInt(most + 1);
    }

    /** A requirement that resolves, if one is found soon. */
    private int[] requirement(boolean satisfied) {
        int[] asked = {someRequired(), someRequiredMarks()};
        for (int turn = 0; satisfied && turn < 30 && model.resolve(asked[0], asked[1]) < 0; turn++) {
            asked = new int[] {someRequired(), someRequiredMarks()};
        }
        return asked;
    }

    private void declare() {
        boolean generic = chance(60);
        boolean closed = chance(15);
        int first = chance(35) ? 0 : someType(3, false, generic);
        int second = chance(55) ? 0 : someType(3, false, generic);
        same("declare(" + first + ", " + second + ", " + generic + ", " + closed + ")",
                real.declare(first, second, generic, closed), () -> model.declare(first, second, generic, closed));
    }

    private int someChoice() {
        return chance(70) ? 0 : chance(30) ? -1 : chance(10) ? random.nextInt(120) - 10 : 1 + random.nextInt(4);
    }

    private int someScope() {
        return chance(2) ? random.nextInt(9) - 3 : chance(60) ? 0 : 1 + random.nextInt(2);
    }

    private void bean() {
        int marks = someMarks(true);
        int choice = someChoice();
        if (chance(55)) {
            int which = chance(3) ? random.nextInt(20) - 3 : 1 + random.nextInt(model.classes.size());
            boolean open = model.classes.containsKey(which) && model.classes.get(which).generic();
            int scope = open && chance(95) ? 0 : someScope();
            same("manage(" + which + ", " + marks + ", " + scope + ", " + choice + ")",
                    real.manage(which, marks, scope, choice), () -> model.manage(which, marks, scope, choice));
        } else {
            int home = chance(40) ? -1 : someBean();
            int type = chance(2) ? random.nextInt() : someType(4, false, chance(40));
            boolean open = type / 32 % 32 == 31 || type / 1024 % 32 == 31 || type / 32768 % 32 == 31;
            int scope = open && chance(95) ? 0 : someScope();
            same("produce(" + home + ", " + type + ", " + marks + ", " + scope + ", " + choice + ")",
                    real.produce(home, type, marks, scope, choice),
                    () -> model.produce(home, type, marks, scope, choice));
        }
    }

    private void inject() {
        int bean = someBean();
        int[] asked = requirement(chance(98));
        // Needing lower beans alone leaves most deployments without a circle.
        boolean strict = chance(97);
        for (int turn = 0; strict && turn < 30; turn++) {
            int found = model.resolve(asked[0], asked[1]);
            if (found >= 0 && (found < bean || model.beans.get(found).scope > 0)) {
                break;
            }
            asked = requirement(true);
        }
        int type = asked[0];
        int marks = asked[1];
        same("inject(" + bean + ", " + type + ", " + marks + ")",
                real.inject(bean, type, marks), () -> model.inject(bean, type, marks));
    }

    private void query() {
        int bean = someBean();
        int[] asked = requirement(chance(50));
        int k = chance(5) ? random.nextInt() : random.nextInt(model.log.size() + 2) - 1;
        int instance = someInstance();
        switch (random.nextInt(9)) {
            case 0 -> same("types(" + bean + ")", real.types(bean), () -> model.types(bean));
            case 1, 2 -> same("fits(" + asked[0] + ", " + bean + ")",
                    real.fits(asked[0], bean), () -> model.fits(asked[0], bean));
            case 3 -> same("candidates(" + asked[0] + ", " + asked[1] + ")",
                    real.candidates(asked[0], asked[1]), () -> model.candidates(asked[0], asked[1]));
            case 4 -> same("resolve(" + asked[0] + ", " + asked[1] + ")",
                    real.resolve(asked[0], asked[1]), () -> model.resolve(asked[0], asked[1]));
            case 5 -> same("destroyed(" + k + ")", real.destroyed(k), () -> model.destroyed(k));
            case 6 -> same("beanOf(" + instance + ")", real.beanOf(instance), () -> model.beanOf(instance));
            case 7 -> same("owner(" + instance + ")", real.owner(instance), () -> model.owner(instance));
            default -> same("live()", real.live(), model::live);
        }
    }

    private void run() {
        int thread = someThread();
        int[] asked = requirement(chance(90));
        int instance = someInstance();
        Model.Instance caller = model.living(instance);
        int points = caller == null ? 3 : caller.bean.points.size();
        int point = points == 0 || chance(5) ? random.nextInt(9) - 3 : random.nextInt(points);
        int bean = someBean();
        int dice = random.nextInt(100);
        if (dice < 12) {
            same("begin(" + thread + ")", real.begin(thread) ? 1 : 0, () -> model.begin(thread));
        } else if (dice < 17) {
            same("end(" + thread + ")", real.end(thread), () -> model.end(thread));
        } else if (dice < 50) {
            same("obtain(" + thread + ", " + asked[0] + ", " + asked[1] + ")",
                    real.obtain(thread, asked[0], asked[1]), () -> model.obtain(thread, asked[0], asked[1]));
        } else if (dice < 80) {
            same("call(" + thread + ", " + instance + ", " + point + ")",
                    real.call(thread, instance, point), () -> model.call(thread, instance, point));
        } else if (dice < 90) {
            same("destroy(" + instance + ")", real.destroy(instance), () -> model.destroy(instance));
        } else {
            same("cost(" + bean + ")", real.cost(bean), () -> model.cost(bean));
        }
    }

    private int points() {
        return model.beans.stream().mapToInt(b -> b.points.size()).sum();
    }

    /** Any call, whether it is its time or not. */
    private void anyCall() {
        switch (random.nextInt(6)) {
            case 0 -> declare();
            case 1 -> bean();
            case 2 -> inject();
            case 3 -> same("deploy()", real.deploy(), model::deploy);
            default -> run();
        }
    }

    private void build() {
        if (model.classes.size() < Math.min(wantedClasses, 13) && chance(95)) {
            declare();
        } else if (model.beans.size() < Math.min(wantedBeans, 16) && chance(97)) {
            bean();
        } else if (chance(2)) {
            bean();
        } else if (points() < Math.min(wantedPoints, 3 * model.beans.size())) {
            inject();
        } else {
            same("deploy()", real.deploy(), model::deploy);
            failures += model.running() ? 0 : 1;
            wantedClasses += chance(10) ? 1 : 0;
            wantedBeans += chance(20) ? 1 : 0;
            wantedPoints += chance(20) ? 1 : 0;
        }
    }

    private void step() {
        if (chance(15)) {
            query();
        } else if (chance(3)) {
            anyCall();
        } else if (!model.running()) {
            build();
        } else if (random.nextInt(200) == 0) {
            same("shutdown()", real.shutdown(), model::shutdown);
            wantedBeans += random.nextInt(2);
            wantedPoints += random.nextInt(3);
        } else {
            run();
        }
    }

    /** What was destroyed, in which order, tells of every making and destroying before. */
    private void lookBack() {
        int first = random.nextInt(200);
        for (int i = 0; i < 200 && calls + 3 <= CALLS && !wrong; i++) {
            int k = (first + i) % 200;
            if (k <= model.instances.size()) {
                same("destroyed(" + k + ")", real.destroyed(k), () -> model.destroyed(k));
                same("owner(" + k + ")", real.owner(k), () -> model.owner(k));
                same("beanOf(" + k + ")", real.beanOf(k), () -> model.beanOf(k));
            }
        }
    }

    private boolean play() {
        wantedClasses = 2 + random.nextInt(13);
        wantedBeans = 1 + random.nextInt(17);
        wantedPoints = random.nextInt(2 * wantedBeans);
        // Some calls are kept for looking back; beyond the last one nothing is promised.
        int kept = random.nextInt(200);
        while (calls < CALLS - kept && failures < 15 && !wrong) {
            step();
        }
        lookBack();
        return !wrong;
    }

    public static void main(String[] args) {
        int runs = args.length > 0 ? Integer.parseInt(args[0]) : RUNS;
        long first = args.length > 1 ? Long.parseLong(args[1]) : 0;
        for (int i = 0; i < runs; i++) {
            ModelTests test = new ModelTests(first + i);
            if (!test.play()) {
                System.out.println("run with seed " + (first + i) + ":\n" + test.told);
                System.exit(1);
            }
        }
        if (args.length > 0) {
            System.out.println(seen);
        }
        // Runs that never came to the interesting answers would prove nothing.
        String[] wanted = {
            "declare ok", "declare -1", "declare -2", "declare -3", "manage ok", "manage -1", "manage -2",
            "produce ok", "produce -1", "inject ok", "inject -1", "inject -2", "fits ok", "resolve -4", "resolve -5",
            "deploy ok", "deploy -3", "cost ok", "begin ok", "end ok", "end -7", "obtain ok", "obtain -2",
            "obtain -4", "obtain -5", "obtain -6", "obtain -7", "call ok", "call -1", "call -2", "call -7",
            "call -8", "destroy ok", "destroy -1", "destroy -8", "shutdown ok", "owner ok", "beanOf ok",
        };
        for (String answer : wanted) {
            if (seen.getOrDefault(answer, 0) < 20) {
                System.out.println("the runs hardly came to: " + answer);
                System.exit(1);
            }
        }
        System.out.println(runs + " runs are as the model has them");
    }
}
