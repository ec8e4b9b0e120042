/**
 * A container that wires beans together. The numbered promises that it keeps stand in the
 * document; the words used here (head, marks, rank, narrowing, reaching ..) are the document's.
 */
public final class WiringContainer {
    public static final int BAD = -1;
    public static final int FULL = -2;
    public static final int CLOSED = -3;
    public static final int UNSATISFIED = -4;
    public static final int AMBIGUOUS = -5;
    public static final int UNPROXYABLE = -6;
    public static final int INACTIVE = -7;
    public static final int GONE = -8;

    private static final int ROOT = 1;
    private static final int KIND_OF = 29;
    private static final int ANYTHING = 30;
    private static final int VARIABLE = 31;
    private static final int BASE = 32;
    private static final int DIGIT_BITS = 5;
    private static final int DIGIT_MASK = 31;
    private static final int PARENT_DIGITS = 3;
    private static final int PRODUCT_DIGITS = 4;
    private static final int REQUIRED_DIGITS = 6;

    private static final int MOST_CLASSES = 13;
    private static final int MOST_LEVEL = 3;
    // A type and what its parents become over three levels (1 + 2 + 4 + 8), and the ROOT.
    private static final int MOST_SUPERTYPES = 16;
    // Six digits are met at most three times over supertypes, each four levels high.
    private static final int MOST_MEETING_DEPTH = 40;

    private static final int MARK_KINDS = 5;
    private static final int MARK_BITS = 3;
    private static final int MARK_MASK = 7;
    private static final int MOST_MARKS = 32767;
    private static final int DEFAULT_KIND = 1;
    private static final int LOOSE_KIND = 4;
    private static final int DEFAULT_MARK = 8;
    private static final int NO_MARK_REQUIRED = -1;

    private static final int MOST_BEANS = 16;
    private static final int MOST_POINTS = 3;
    private static final int NO_HOME = -1;
    private static final int DEPENDENT = 0;
    private static final int APPLICATION = 2;
    private static final int NOT_SELECTED = -1;
    private static final int MOST_CHOICE = 100;

    private static final int OPEN_TYPE_PROBLEM = 1;
    private static final int UNSATISFIED_PROBLEM = 2;
    private static final int AMBIGUOUS_PROBLEM = 4;
    private static final int UNPROXYABLE_PROBLEM = 8;
    private static final int CIRCLE_PROBLEM = 16;
    private static final int NAME_PROBLEM = 32;

    private static final int MOST_COST_TOLD = 100;
    private static final int MOST_COST_MADE = 10;
    private static final int MOST_INSTANCES = 200;
    private static final int THREADS = 3;
    // The request contexts bear the numbers of their threads; this one comes behind them.
    private static final int APPLICATION_CONTEXT = 3;
    private static final int CONTEXTS = 4;

    private final ClassTable classes;
    private final BeanTable beans;
    private final Plan plan;
    private final InstanceTable instances;
    private final ContextTable contexts;
    private boolean running;

    public WiringContainer() {
        classes = new ClassTable();
        beans = new BeanTable(classes);
        plan = new Plan(classes, beans);
        instances = new InstanceTable();
        contexts = new ContextTable();
        running = false;
    }

    public int declare(int first, int second, boolean generic, boolean closed) {
        if (running) {
            return CLOSED;
        }
        if (classes.isFull()) {
            return FULL;
        }
        boolean parentsFit = (first == 0 || classes.isParentCode(first, generic))
                && (second == 0 || classes.isParentCode(second, generic));
        if (!parentsFit || classes.levelBelow(first, second) > MOST_LEVEL) {
            return BAD;
        }
        return classes.add(first, second, generic, closed);
    }

    public int manage(int which, int marks, int scope, int choice) {
        if (running) {
            return CLOSED;
        }
        if (beans.isFull()) {
            return FULL;
        }
        if (!classes.isClass(which) || !areBeanTraits(marks, scope, choice)) {
            return BAD;
        }
        int bean = beans.add(classes.ownType(which), marks, scope, choice);
        beans.setManaged(bean);
        return bean;
    }

    public int produce(int home, int type, int marks, int scope, int choice) {
        if (running) {
            return CLOSED;
        }
        if (beans.isFull()) {
            return FULL;
        }
        boolean homeFits = home == NO_HOME || beans.mayBeHome(home);
        if (!homeFits || !classes.isProductCode(type) || !areBeanTraits(marks, scope, choice)) {
            return BAD;
        }
        int bean = beans.add(type, marks, scope, choice);
        beans.setHome(bean, home);
        return bean;
    }

    public int inject(int bean, int type, int marks) {
        if (running) {
            return CLOSED;
        }
        if (!beans.exists(bean) || !isRequirement(type, marks)) {
            return BAD;
        }
        if (beans.pointCount(bean) >= MOST_POINTS) {
            return FULL;
        }
        return beans.addPoint(bean, type, marks);
    }

    public int types(int bean) {
        if (!beans.exists(bean)) {
            return BAD;
        }
        return classes.countSupertypes(beans.typeOf(bean));
    }

    public int fits(int type, int bean) {
        if (!beans.exists(bean) || !classes.isRequiredCode(type)) {
            return BAD;
        }
        return classes.isMetBySome(type, beans.typeOf(bean), 0) ? 1 : 0;
    }

    public int candidates(int type, int marks) {
        if (!isRequirement(type, marks)) {
            return BAD;
        }
        return Integer.bitCount(beans.candidateSet(type, marks));
    }

    public int resolve(int type, int marks) {
        if (!isRequirement(type, marks)) {
            return BAD;
        }
        return beans.find(type, marks);
    }

    public int deploy() {
        if (running) {
            return CLOSED;
        }
        int problems = plan.judge();
        if (problems == 0) {
            plan.weigh();
            contexts.open(APPLICATION_CONTEXT);
            running = true;
        }
        return problems;
    }

    public int cost(int bean) {
        if (!running) {
            return CLOSED;
        }
        if (!beans.exists(bean) || !beans.isEnabled(bean)) {
            return BAD;
        }
        return plan.costOf(bean);
    }

    public boolean begin(int thread) {
        if (!running || !isThread(thread) || contexts.isActive(thread)) {
            return false;
        }
        contexts.open(thread);
        return true;
    }

    public int end(int thread) {
        if (!running) {
            return CLOSED;
        }
        if (!isThread(thread)) {
            return BAD;
        }
        if (!contexts.isActive(thread)) {
            return INACTIVE;
        }
        int before = instances.destroyedCount();
        endContext(thread);
        return instances.destroyedCount() - before;
    }

    public int obtain(int thread, int type, int marks) {
        if (!running) {
            return CLOSED;
        }
        if (!isThread(thread) || !isRequirement(type, marks)) {
            return BAD;
        }
        int bean = beans.find(type, marks);
        if (bean < 0) {
            return bean;
        }
        if (beans.isDependent(bean)) {
            return makeOrRefuse(bean);
        }
        if (classes.isHeadClosed(type)) {
            return UNPROXYABLE;
        }
        return reach(thread, bean);
    }

    public int call(int thread, int instance, int point) {
        if (!running) {
            return CLOSED;
        }
        if (!isThread(thread)) {
            return BAD;
        }
        if (!instances.isLiving(instance)) {
            return GONE;
        }
        int bean = instances.beanAt(instance);
        if (!beans.hasPoint(bean, point)) {
            return BAD;
        }
        int target = plan.targetOf(bean, point);
        if (beans.isDependent(target)) {
            return instances.partAt(instance, point);
        }
        return reach(thread, target);
    }

    public int destroy(int instance) {
        if (!running) {
            return CLOSED;
        }
        if (!instances.isLiving(instance)) {
            return GONE;
        }
        if (instances.ownerAt(instance) != 0) {
            return BAD;
        }
        int before = instances.destroyedCount();
        contexts.letGo(instances.beanAt(instance), instance);
        instances.discard(instance, 0);
        return instances.destroyedCount() - before;
    }

    public int shutdown() {
        if (!running) {
            return CLOSED;
        }
        int before = instances.destroyedCount();
        for (int thread = 0; thread < THREADS; thread++) {
            if (contexts.isActive(thread)) {
                endContext(thread);
            }
        }
        destroyObtained();
        endContext(APPLICATION_CONTEXT);
        running = false;
        return instances.destroyedCount() - before;
    }

    public int beanOf(int instance) {
        return instances.isLiving(instance) ? instances.beanAt(instance) : GONE;
    }

    public int owner(int instance) {
        return instances.isLiving(instance) ? instances.ownerAt(instance) : GONE;
    }

    public int destroyed(int k) {
        return instances.destroyedAt(k);
    }

    public int live() {
        return instances.livingCount();
    }

    private static boolean isThread(int thread) {
        return thread >= 0 && thread < THREADS;
    }

    private static int markOf(int marks, int kind) {
        return (marks >> (kind * MARK_BITS)) & MARK_MASK;
    }

    private static boolean areMarks(int marks) {
        return marks >= 0 && marks <= MOST_MARKS && markOf(marks, DEFAULT_KIND) <= 1;
    }

    private static boolean areBeanTraits(int marks, int scope, int choice) {
        return areMarks(marks)
                && scope >= DEPENDENT && scope <= APPLICATION
                && choice >= NOT_SELECTED && choice <= MOST_CHOICE;
    }

    private boolean isRequirement(int type, int marks) {
        return classes.isRequiredCode(type) && (marks == NO_MARK_REQUIRED || areMarks(marks));
    }

    /** Reaches a bean of a normal scope: the number of the instance, INACTIVE or FULL. */
    private int reach(int thread, int bean) {
        int context = beans.scopeOf(bean) == APPLICATION ? APPLICATION_CONTEXT : thread;
        if (!contexts.isActive(context)) {
            return INACTIVE;
        }
        int held = contexts.heldFor(context, bean);
        if (held > 0) {
            return held;
        }
        int made = makeOrRefuse(bean);
        if (made > 0) {
            contexts.hold(context, bean, made);
        }
        return made;
    }

    private int makeOrRefuse(int bean) {
        int cost = plan.costOf(bean);
        if (cost > MOST_COST_MADE || cost > instances.numbersLeft()) {
            return FULL;
        }
        return make(bean, 0, 0);
    }

    /** Makes an instance with all that it needs; the cost was looked at, and bounds the depth. */
    private int make(int bean, int owner, int depth) {
        if (depth > MOST_COST_MADE) {
            return 0;
        }
        int home = beans.homeOf(bean);
        int homeInstance = home == NO_HOME ? 0 : make(home, 0, depth + 1);
        int made = instances.add(bean, owner);
        for (int point = 0; point < beans.pointCount(bean); point++) {
            int target = plan.targetOf(bean, point);
            if (beans.isDependent(target)) {
                instances.setPart(made, point, make(target, made, depth + 1));
            }
        }
        instances.discard(homeInstance, 0);
        return made;
    }

    private void endContext(int context) {
        for (int turn = 0; turn < MOST_BEANS; turn++) {
            instances.discard(contexts.takeLatest(context), 0);
        }
        contexts.close(context);
    }

    // Homes die with the making, so a DEPENDENT instance without an owner was obtained.
    private void destroyObtained() {
        for (int instance = MOST_INSTANCES; instance >= 1; instance--) {
            if (instances.isLiving(instance) && instances.ownerAt(instance) == 0
                    && beans.isDependent(instances.beanAt(instance))) {
                instances.discard(instance, 0);
            }
        }
    }

    /**
     * The classes that are there, and what follows from them for codes and types. The rows have a
     * place for every digit, so that a digit is always a fit index.
     */
    private static final class ClassTable {
        private int last;
        private final boolean[] generic = new boolean[BASE];
        private final boolean[] closed = new boolean[BASE];
        private final int[] level = new int[BASE];
        private final int[] first = new int[BASE];
        private final int[] second = new int[BASE];
        // The heads that supertypes can have, as bits: most walks over supertypes end here.
        private final int[] headsAbove = new int[BASE];
        private final long[] supertypes = new long[MOST_SUPERTYPES];
        private int supertypeCount;

        ClassTable() {
            last = ROOT;
            headsAbove[ROOT] = 1 << ROOT;
        }

        boolean isFull() {
            return last >= MOST_CLASSES;
        }

        boolean isClass(int number) {
            return number >= ROOT && number <= last;
        }

        boolean isHeadClosed(int type) {
            return closed[type & DIGIT_MASK];
        }

        boolean isParentCode(int code, boolean childGeneric) {
            int head = code & DIGIT_MASK;
            return isTypeCode(code, PARENT_DIGITS, false, childGeneric)
                    && head != ROOT && !closed[head];
        }

        boolean isProductCode(int code) {
            return isTypeCode(code, PRODUCT_DIGITS, false, true);
        }

        boolean isRequiredCode(int code) {
            return isTypeCode(code, REQUIRED_DIGITS, true, false);
        }

        int levelBelow(int firstParent, int secondParent) {
            int overFirst = firstParent == 0 ? 0 : level[firstParent & DIGIT_MASK] + 1;
            int overSecond = secondParent == 0 ? 0 : level[secondParent & DIGIT_MASK] + 1;
            return Math.max(overFirst, overSecond);
        }

        int add(int firstParent, int secondParent, boolean isGeneric, boolean isClosed) {
            if (isFull()) {
                return FULL;
            }
            last++;
            generic[last] = isGeneric;
            closed[last] = isClosed;
            level[last] = levelBelow(firstParent, secondParent);
            first[last] = firstParent;
            second[last] = secondParent;
            headsAbove[last] = (1 << last) | (1 << ROOT)
                    | headsAbove[firstParent & DIGIT_MASK]
                    | headsAbove[secondParent & DIGIT_MASK];
            return last;
        }

        /** The type of a managed bean of a class. */
        int ownType(int number) {
            return generic[number & DIGIT_MASK] ? number + BASE * VARIABLE : number;
        }

        int countSupertypes(long type) {
            supertypeCount = 0;
            note(type);
            note(ROOT);
            for (int i = 0; i < supertypeCount && i < MOST_SUPERTYPES; i++) {
                long below = supertypes[i];
                int head = (int) (below & DIGIT_MASK);
                if (first[head] != 0) {
                    note(become(first[head], below));
                }
                if (second[head] != 0) {
                    note(become(second[head], below));
                }
            }
            return supertypeCount;
        }

        /** Whether a required type is met by some supertype of a type. */
        boolean isMetBySome(long required, long type, int depth) {
            int head = (int) (type & DIGIT_MASK);
            int wanted = (int) (required & DIGIT_MASK);
            if (depth > MOST_MEETING_DEPTH || ((headsAbove[head] >> wanted) & 1) == 0) {
                return false;
            }
            if (wanted == ROOT || isMet(required, type, depth + 1)) {
                return true;
            }
            if (first[head] != 0
                    && isMetBySome(required, become(first[head], type), depth + 1)) {
                return true;
            }
            return second[head] != 0
                    && isMetBySome(required, become(second[head], type), depth + 1);
        }

        private boolean isMet(long required, long type, int depth) {
            if (depth > MOST_MEETING_DEPTH || (required & DIGIT_MASK) != (type & DIGIT_MASK)) {
                return false;
            }
            long asked = required >> DIGIT_BITS;
            long given = type >> DIGIT_BITS;
            if (asked == 0) {
                return given == 0 || given == VARIABLE || given == ROOT;
            }
            if (given == 0) {
                return asked == ROOT;
            }
            if (given == VARIABLE || asked == ANYTHING) {
                return true;
            }
            if ((asked & DIGIT_MASK) == KIND_OF) {
                return isMetBySome(asked >> DIGIT_BITS, given, depth + 1);
            }
            return isMet(asked, given, depth + 1);
        }

        /** What a parent becomes for a type whose head has it. */
        private long become(int parent, long type) {
            long argument = type >> DIGIT_BITS;
            if (argument == 0 && generic[(int) (type & DIGIT_MASK)]) {
                return parent & DIGIT_MASK;
            }
            for (int digit = 1; digit < PARENT_DIGITS; digit++) {
                int shift = digit * DIGIT_BITS;
                // The VARIABLE is always the last digit.
                if (parent >> shift == VARIABLE) {
                    return (parent & ((1 << shift) - 1)) | (argument << shift);
                }
            }
            return parent;
        }

        private void note(long type) {
            for (int i = 0; i < supertypeCount; i++) {
                if (supertypes[i] == type) {
                    return;
                }
            }
            if (supertypeCount < MOST_SUPERTYPES) {
                supertypes[supertypeCount] = type;
                supertypeCount++;
            }
        }

        private boolean isTypeCode(int code, int digits, boolean wild, boolean open) {
            int head = code & DIGIT_MASK;
            if (code <= 0 || digits <= 0 || !isClass(head)) {
                return false;
            }
            int argument = code >> DIGIT_BITS;
            return argument == 0
                    || (generic[head] && isArgumentCode(argument, digits - 1, wild, open));
        }

        private boolean isArgumentCode(int code, int digits, boolean wild, boolean open) {
            if (digits <= 0) {
                return false;
            }
            switch (code & DIGIT_MASK) {
                case VARIABLE:
                    return open && code == VARIABLE;
                case ANYTHING:
                    return wild && code == ANYTHING;
                case KIND_OF:
                    return wild && isTypeCode(code >> DIGIT_BITS, digits - 1, true, open);
                default:
                    return isTypeCode(code, digits, wild, open);
            }
        }
    }

    /** The beans with their injection points, and finding them. Sets of beans are bits. */
    private static final class BeanTable {
        private final ClassTable classes;
        private int count;
        private final int[] type = new int[MOST_BEANS];
        private final int[] marks = new int[MOST_BEANS];
        private final int[] scope = new int[MOST_BEANS];
        private final int[] choice = new int[MOST_BEANS];
        private final int[] home = new int[MOST_BEANS];
        private final boolean[] managed = new boolean[MOST_BEANS];
        private final int[] points = new int[MOST_BEANS];
        private final int[][] pointType = new int[MOST_POINTS][MOST_BEANS];
        private final int[][] pointMarks = new int[MOST_POINTS][MOST_BEANS];

        BeanTable(ClassTable classes) {
            this.classes = classes;
        }

        boolean isFull() {
            return count >= MOST_BEANS;
        }

        boolean exists(int bean) {
            return bean >= 0 && bean < count;
        }

        int size() {
            return count;
        }

        int add(int itsType, int itsMarks, int itsScope, int itsChoice) {
            if (isFull()) {
                return FULL;
            }
            int bean = count;
            type[bean] = itsType;
            boolean nameAlone = itsMarks >> MARK_BITS == 0;
            marks[bean] = nameAlone ? itsMarks | DEFAULT_MARK : itsMarks;
            scope[bean] = itsScope;
            choice[bean] = itsChoice;
            home[bean] = NO_HOME;
            count++;
            return bean;
        }

        void setManaged(int bean) {
            if (exists(bean)) {
                managed[bean] = true;
            }
        }

        void setHome(int bean, int itsHome) {
            if (exists(bean) && mayBeHome(itsHome)) {
                home[bean] = itsHome;
            }
        }

        int addPoint(int bean, int itsType, int itsMarks) {
            if (!exists(bean) || points[bean] >= MOST_POINTS) {
                return FULL;
            }
            int point = points[bean];
            pointType[point][bean] = itsType;
            pointMarks[point][bean] = itsMarks;
            points[bean]++;
            return point;
        }

        int typeOf(int bean) {
            return exists(bean) ? type[bean] : 0;
        }

        int nameOf(int bean) {
            return exists(bean) ? marks[bean] & MARK_MASK : 0;
        }

        int scopeOf(int bean) {
            return exists(bean) ? scope[bean] : DEPENDENT;
        }

        int homeOf(int bean) {
            return exists(bean) ? home[bean] : NO_HOME;
        }

        int pointCount(int bean) {
            return exists(bean) ? points[bean] : 0;
        }

        boolean hasPoint(int bean, int point) {
            return point >= 0 && point < pointCount(bean);
        }

        int pointTypeOf(int bean, int point) {
            return hasPoint(bean, point) ? pointType[point][bean] : 0;
        }

        int pointMarksOf(int bean, int point) {
            return hasPoint(bean, point) ? pointMarks[point][bean] : 0;
        }

        boolean mayBeHome(int bean) {
            return exists(bean) && managed[bean] && scope[bean] == DEPENDENT;
        }

        boolean isDependent(int bean) {
            return exists(bean) && scope[bean] == DEPENDENT;
        }

        boolean isNormal(int bean) {
            return exists(bean) && scope[bean] != DEPENDENT;
        }

        boolean isEnabled(int bean) {
            if (!exists(bean) || choice[bean] == NOT_SELECTED) {
                return false;
            }
            int itsHome = home[bean];
            return !exists(itsHome) || choice[itsHome] != NOT_SELECTED;
        }

        /** The bean to which it resolves, UNSATISFIED or AMBIGUOUS. */
        int find(int required, int requiredMarks) {
            int found = candidateSet(required, requiredMarks);
            if (found == 0) {
                return UNSATISFIED;
            }
            int left = narrow(found);
            // Below the one bit that is left stand as many bits as the number of its bean.
            return Integer.bitCount(left) == 1 ? Integer.bitCount(left - 1) : AMBIGUOUS;
        }

        int candidateSet(int required, int requiredMarks) {
            int found = 0;
            for (int bean = 0; bean < count; bean++) {
                if (isEnabled(bean) && carries(bean, requiredMarks)
                        && classes.isMetBySome(required, type[bean], 0)) {
                    found |= 1 << bean;
                }
            }
            return found;
        }

        int narrow(int set) {
            int highest = 0;
            int left = 0;
            for (int bean = 0; bean < count; bean++) {
                if (((set >> bean) & 1) == 1) {
                    int rank = rankOf(bean);
                    if (rank > highest) {
                        highest = rank;
                        left = 0;
                    }
                    if (rank == highest) {
                        left |= 1 << bean;
                    }
                }
            }
            return left;
        }

        private int rankOf(int bean) {
            int itsHome = home[bean];
            if (choice[bean] > 0 || !exists(itsHome)) {
                return Math.max(choice[bean], 0);
            }
            // A home is managed, so it has no home whose rank it could take.
            return Math.max(choice[itsHome], 0);
        }

        private boolean carries(int bean, int requiredMarks) {
            if (requiredMarks == NO_MARK_REQUIRED) {
                return true;
            }
            int wanted = requiredMarks == 0 ? DEFAULT_MARK : requiredMarks;
            for (int kind = 0; kind < MARK_KINDS; kind++) {
                int value = markOf(wanted, kind);
                int own = markOf(marks[bean], kind);
                boolean carried = own == value || (own != 0 && kind == LOOSE_KIND);
                if (value != 0 && !carried) {
                    return false;
                }
            }
            return true;
        }
    }

    /** What deploying finds out: where each injection point leads, the problems, the costs. */
    private static final class Plan {
        private final ClassTable classes;
        private final BeanTable beans;
        private final int[][] target = new int[MOST_POINTS][MOST_BEANS];
        private final int[] needs = new int[MOST_BEANS];
        private final int[] cost = new int[MOST_BEANS];

        Plan(ClassTable classes, BeanTable beans) {
            this.classes = classes;
            this.beans = beans;
        }

        int targetOf(int bean, int point) {
            return beans.hasPoint(bean, point) ? target[point][bean] : UNSATISFIED;
        }

        int costOf(int bean) {
            return beans.exists(bean) ? cost[bean] : 0;
        }

        int judge() {
            int problems = 0;
            for (int bean = 0; bean < beans.size(); bean++) {
                needs[bean] = 0;
                if (beans.isEnabled(bean)) {
                    problems |= judgePoints(bean);
                    if (beans.isNormal(bean) && containsVariable(beans.typeOf(bean))) {
                        problems |= OPEN_TYPE_PROBLEM;
                    }
                    noteNeeds(bean);
                }
            }
            if (someNeedsItself()) {
                problems |= CIRCLE_PROBLEM;
            }
            if (someNameIsShared()) {
                problems |= NAME_PROBLEM;
            }
            return problems;
        }

        /**
         * Reckons the costs. Each round sets right those one need further away; nothing needs
         * itself, so that no chain of needs is longer than there are beans.
         */
        void weigh() {
            for (int round = 0; round < beans.size(); round++) {
                for (int bean = 0; bean < beans.size(); bean++) {
                    cost[bean] = beans.isEnabled(bean) ? costOverNeeds(bean) : 0;
                }
            }
        }

        private int judgePoints(int bean) {
            int problems = 0;
            for (int point = 0; point < beans.pointCount(bean); point++) {
                int required = beans.pointTypeOf(bean, point);
                int found = beans.find(required, beans.pointMarksOf(bean, point));
                target[point][bean] = found;
                if (found == UNSATISFIED) {
                    problems |= UNSATISFIED_PROBLEM;
                } else if (found == AMBIGUOUS) {
                    problems |= AMBIGUOUS_PROBLEM;
                } else if (beans.isNormal(found) && classes.isHeadClosed(required)) {
                    problems |= UNPROXYABLE_PROBLEM;
                }
            }
            return problems;
        }

        private static boolean containsVariable(int type) {
            for (int digit = 1; digit < PRODUCT_DIGITS; digit++) {
                if (((type >> (digit * DIGIT_BITS)) & DIGIT_MASK) == VARIABLE) {
                    return true;
                }
            }
            return false;
        }

        private void noteNeeds(int bean) {
            int home = beans.homeOf(bean);
            if (beans.exists(home)) {
                needs[bean] |= 1 << home;
            }
            for (int point = 0; point < beans.pointCount(bean); point++) {
                int found = target[point][bean];
                if (beans.isDependent(found)) {
                    needs[bean] |= 1 << found;
                }
            }
        }

        private boolean someNeedsItself() {
            for (int over = 0; over < beans.size(); over++) {
                for (int bean = 0; bean < beans.size(); bean++) {
                    if (((needs[bean] >> over) & 1) == 1) {
                        needs[bean] |= needs[over];
                    }
                }
            }
            for (int bean = 0; bean < beans.size(); bean++) {
                if (((needs[bean] >> bean) & 1) == 1) {
                    return true;
                }
            }
            return false;
        }

        private boolean someNameIsShared() {
            for (int name = 1; name <= MARK_MASK; name++) {
                int bearers = 0;
                for (int bean = 0; bean < beans.size(); bean++) {
                    if (beans.isEnabled(bean) && beans.nameOf(bean) == name) {
                        bearers |= 1 << bean;
                    }
                }
                if (Integer.bitCount(beans.narrow(bearers)) > 1) {
                    return true;
                }
            }
            return false;
        }

        private int costOverNeeds(int bean) {
            int sum = 1 + costOf(beans.homeOf(bean));
            for (int point = 0; point < beans.pointCount(bean); point++) {
                int found = target[point][bean];
                if (beans.isDependent(found)) {
                    sum += cost[found];
                }
            }
            return Math.min(sum, MOST_COST_TOLD);
        }
    }

    /** The instances, living and gone, by their numbers from 1; row 0 stands for none. */
    private static final class InstanceTable {
        private int made;
        private int living;
        private int gone;
        private final int[] bean = new int[MOST_INSTANCES + 1];
        private final int[] owner = new int[MOST_INSTANCES + 1];
        private final boolean[] alive = new boolean[MOST_INSTANCES + 1];
        private final int[][] part = new int[MOST_POINTS][MOST_INSTANCES + 1];
        private final int[] order = new int[MOST_INSTANCES];

        int numbersLeft() {
            return MOST_INSTANCES - made;
        }

        int livingCount() {
            return living;
        }

        int destroyedCount() {
            return gone;
        }

        int destroyedAt(int k) {
            return k >= 0 && k < gone ? order[k] : 0;
        }

        boolean isLiving(int number) {
            return number >= 1 && number <= made && alive[number];
        }

        int beanAt(int number) {
            return isLiving(number) ? bean[number] : GONE;
        }

        int ownerAt(int number) {
            return isLiving(number) ? owner[number] : GONE;
        }

        int partAt(int number, int point) {
            boolean known = isLiving(number) && point >= 0 && point < MOST_POINTS;
            return known ? part[point][number] : GONE;
        }

        int add(int itsBean, int itsOwner) {
            if (made >= MOST_INSTANCES) {
                return FULL;
            }
            made++;
            living++;
            bean[made] = itsBean;
            owner[made] = itsOwner;
            alive[made] = true;
            return made;
        }

        void setPart(int number, int point, int itsPart) {
            if (isLiving(number) && point >= 0 && point < MOST_POINTS) {
                part[point][number] = itsPart;
            }
        }

        /** Destroys a living instance and those that it owns; other numbers change nothing. */
        void discard(int number, int depth) {
            if (depth > MOST_COST_MADE || gone >= MOST_INSTANCES || !isLiving(number)) {
                return;
            }
            alive[number] = false;
            living--;
            order[gone] = number;
            gone++;
            // Parts are made in the order of their points, so this is the latest made first.
            for (int point = MOST_POINTS - 1; point >= 0; point--) {
                discard(part[point][number], depth + 1);
            }
        }
    }

    /** Which contexts are active, and the instance that each holds for a bean (0 for none). */
    private static final class ContextTable {
        private final boolean[] active = new boolean[CONTEXTS];
        private final int[][] held = new int[CONTEXTS][MOST_BEANS];

        boolean isActive(int context) {
            return isContext(context) && active[context];
        }

        void open(int context) {
            if (isContext(context)) {
                active[context] = true;
            }
        }

        void close(int context) {
            if (isContext(context)) {
                active[context] = false;
            }
        }

        int heldFor(int context, int bean) {
            return isContext(context) && isRow(bean) ? held[context][bean] : 0;
        }

        void hold(int context, int bean, int instance) {
            if (isContext(context) && isRow(bean)) {
                held[context][bean] = instance;
            }
        }

        /** The latest made instance that a context holds, which it holds no more; or 0. */
        int takeLatest(int context) {
            if (!isContext(context)) {
                return 0;
            }
            int latest = 0;
            int itsBean = 0;
            for (int bean = 0; bean < MOST_BEANS; bean++) {
                if (held[context][bean] > latest) {
                    latest = held[context][bean];
                    itsBean = bean;
                }
            }
            held[context][itsBean] = 0;
            return latest;
        }

        void letGo(int bean, int instance) {
            if (!isRow(bean)) {
                return;
            }
            for (int context = 0; context < CONTEXTS; context++) {
                if (held[context][bean] == instance) {
                    held[context][bean] = 0;
                }
            }
        }

        private static boolean isContext(int context) {
            return context >= 0 && context < CONTEXTS;
        }

        private static boolean isRow(int bean) {
            return bean >= 0 && bean < MOST_BEANS;
        }
    }
}
