/**
 * "Where several refusals would hold, the one that is said first counts.": every call with each of
 * its refusals alone and with any two or more of them at once.
 */
public final class RefusalTests extends Checks {
    public static void main(String[] args) {
        oneAfterTheOther();
        declaring();
        managing();
        producing();
        injecting();
        askingForTypes();
        askingForCandidates();
        deploying();
        askingForCosts();
        beginning();
        ending();
        obtaining();
        calling();
        destroying();
        askingForInstances();
        finish();
    }

    private static final boolean[] BOTH = {false, true};

    /** One chain of refusals, taken away one by one in the order in which they are said. */
    private static void oneAfterTheOther() {
        sentence("Where several refusals would hold, the one that is said first counts.");
        Counted x = new Counted();
        plain(x);
        x.declare(2, 0, false, true);
        x.manage(3, mark(0), REQUEST, 0);
        x.manage(2, mark(1), DEPENDENT, 0);
        for (int point = 0; point < 3; point++) {
            x.inject(0, 2, mark(1));
        }
        due(x.obtain(3, 4, -2), CLOSED);
        due(x.deploy(), 0);
        for (int number = 1; number <= 197; number++) {
            due(x.obtain(0, 2, mark(1)), number);
        }
        due(x.obtain(3, 4, -2), BAD);
        due(x.obtain(0, 4, -2), BAD);
        due(x.obtain(0, 3, -2), BAD);
        due(x.obtain(0, 3, mark(20)), UNSATISFIED);
        due(x.obtain(0, 2, -1), AMBIGUOUS);
        due(x.obtain(0, 3, mark(0)), UNPROXYABLE);
        due(x.obtain(0, 2, mark(0)), INACTIVE);
        due(x.begin(0), true);
        due(x.obtain(0, 2, mark(0)), FULL);
        due(x.live(), 197);
    }

    // Promise 2: CLOSED, FULL, BAD

    private static void declaring() {
        sentence("CLOSED while running; FULL when class 13 is there; BAD when first or second is neither 0 nor a parent "
                + "code, or its level would be above 3.");
        // From the fourth on none is fit: the ROOT, no codes, and the class 5 of level 3.
        int[] parents = {0, 2, 4, 1, -1, 14, 5, 6};
        for (boolean running : BOTH) {
            for (boolean full : BOTH) {
                for (int first = 0; first < parents.length; first++) {
                    for (int second = 0; second < parents.length; second++) {
                        Counted x = withClasses(full);
                        if (running) {
                            x.deploy();
                        }
                        boolean bad = first > 2 || second > 2;
                        int want = running ? CLOSED : full ? FULL : bad ? BAD : 6;
                        due(x.declare(parents[first], parents[second], first % 2 == 0, second % 2 == 0), want);
                    }
                }
            }
        }
    }

    /** The classes 2 .. 5 in a chain, of levels 0 .. 3; and, when full, all up to 13. */
    private static Counted withClasses(boolean full) {
        Counted x = new Counted();
        plain(x);
        for (int parent = 2; parent < 5; parent++) {
            x.declare(parent, 0, false, false);
        }
        for (int number = 6; full && number <= 13; number++) {
            plain(x);
        }
        return x;
    }

    // Promise 3: CLOSED, FULL, BAD

    private static void managing() {
        sentence("CLOSED while running; FULL when there are 16 beans; BAD when there is no such class, the marks are "
                + "not 0 .. 32767 or their digit of kind 1 is above 1, the scope is not 0 .. 2, or the choice is not "
                + "-1 .. 100.");
        int[] classes = {1, 2, 0, 3};
        int[] marks = {0, 32719, -1, 16, 32768};
        int[] scopes = {0, 2, -1, 3};
        int[] choices = {-1, 100, -2, 101};
        for (int which = 0; which < 4; which++) {
            for (int mark = 0; mark < 5; mark++) {
                for (int scope = 0; scope < 4; scope++) {
                    for (int choice = 0; choice < 4; choice++) {
                        boolean bad = which > 1 || mark > 1 || scope > 1 || choice > 1;
                        for (int state = 0; state < 4; state++) {
                            Counted x = withBeans(state);
                            int got = x.manage(classes[which], marks[mark], scopes[scope], choices[choice]);
                            due(got, addedOr(state, bad));
                        }
                    }
                }
            }
        }
    }

    /** Four beans or sixteen (states 1 and 3), building or running (states 2 and 3). */
    private static Counted withBeans(int state) {
        Counted x = new Counted();
        plain(x);
        x.manage(2, mark(0), DEPENDENT, 0);
        x.manage(2, mark(1), REQUEST, 0);
        x.manage(2, mark(2), APPLICATION, 0);
        x.produce(0, 2, mark(3), DEPENDENT, 0);
        for (int bean = 4; state % 2 == 1 && bean < 16; bean++) {
            x.manage(2, mark(bean), DEPENDENT, 0);
        }
        if (state > 1) {
            x.deploy();
        }
        return x;
    }

    private static int addedOr(int state, boolean bad) {
        return state > 1 ? CLOSED : state == 1 ? FULL : bad ? BAD : 4;
    }

    // Promise 4: CLOSED, FULL, BAD

    private static void producing() {
        sentence("CLOSED while running; FULL when there are 16 beans; BAD when home is not -1 and not a managed bean of "
                + "scope DEPENDENT, type is not a product code, or marks, scope or choice are not as for manage.");
        int[] homes = {-1, 0, -2, 1, 2, 3, 16};
        int[] types = {2, 1, 0, 3, 33};
        int[][] traits = {{0, 0, 0}, {32719, 2, 100}, {-1, 0, 0}, {16, 0, 0}, {32768, 0, 0}, {0, -1, 0}, {0, 3, 0},
            {0, 0, -2}, {0, 0, 101}, {-1, 3, 101}};
        for (int home = 0; home < homes.length; home++) {
            for (int type = 0; type < types.length; type++) {
                for (int trait = 0; trait < traits.length; trait++) {
                    boolean bad = home > 1 || type > 1 || trait > 1;
                    for (int state = 0; state < 4; state++) {
                        Counted x = withBeans(state);
                        int[] t = traits[trait];
                        due(x.produce(homes[home], types[type], t[0], t[1], t[2]), addedOr(state, bad));
                    }
                }
            }
        }
    }

    // Promise 5: CLOSED, BAD, FULL

    private static void injecting() {
        sentence("CLOSED while running; BAD when there is no such bean, type is not a required code, or marks are not "
                + "required marks (a digit of kind 1 above 1 is not allowed here either); FULL when the bean has three.");
        int[] beans = {0, 1, -1, 4, 16};
        int[] types = {1, 2, 0, 3, code(2, ANYTHING), code(2, VARIABLE)};
        int[] marks = {-1, 0, 32719, -2, 16, 32768};
        for (boolean running : BOTH) {
            for (int bean = 0; bean < beans.length; bean++) {
                for (int type = 0; type < types.length; type++) {
                    for (int mark = 0; mark < marks.length; mark++) {
                        Counted x = withBeans(0);
                        for (int point = 0; point < 3; point++) {
                            x.inject(1, 2, mark(2));
                        }
                        if (running) {
                            x.deploy();
                        }
                        boolean bad = bean > 1 || type > 1 || mark > 2;
                        int want = running ? CLOSED : bad ? BAD : bean == 1 ? FULL : 0;
                        due(x.inject(beans[bean], types[type], marks[mark]), want);
                    }
                }
            }
        }
    }

    // Promises 6 to 9: BAD, then UNSATISFIED or AMBIGUOUS; while building as while running

    private static void askingForTypes() {
        sentence("BAD when there is no such bean or type is not a required code.");
        for (int state = 0; state < 4; state++) {
            int there = state % 2 == 1 ? 16 : 4;
            for (int bean = -2; bean <= 17; bean++) {
                Counted x = withBeans(state);
                boolean bad = bean < 0 || bean >= there;
                due(x.types(bean), bad ? BAD : 2);
                for (int type : new int[] {1, 2}) {
                    due(x.fits(type, bean), bad ? BAD : 1);
                }
                for (int type : new int[] {0, -1, 3, 33, 34}) {
                    due(x.fits(type, bean), BAD);
                }
            }
        }
    }

    private static void askingForCandidates() {
        sentence("BAD as for candidates; else UNSATISFIED or AMBIGUOUS.");
        int[] types = {1, 2, 0, -1, 3, 33};
        int[] marks = {-1, mark(0), mark(20), -2, 16, 32768};
        int[] found = {AMBIGUOUS, 0, UNSATISFIED};
        int[] counted = {4, 1, 0};
        for (boolean running : BOTH) {
            for (int type = 0; type < types.length; type++) {
                for (int mark = 0; mark < marks.length; mark++) {
                    Counted x = withBeans(running ? 2 : 0);
                    boolean bad = type > 1 || mark > 2;
                    due(x.resolve(types[type], marks[mark]), bad ? BAD : found[mark]);
                    due(x.candidates(types[type], marks[mark]), bad ? BAD : counted[mark]);
                    if (running) {
                        due(x.obtain(0, types[type], marks[mark]), bad ? BAD : mark == 1 ? 1 : found[mark]);
                    }
                }
            }
        }
    }

    // Promises 10 and 11

    private static void deploying() {
        sentence("CLOSED while running.");
        for (int state = 0; state < 4; state++) {
            Counted x = withBeans(state);
            due(x.deploy(), state > 1 ? CLOSED : 0);
            due(x.deploy(), CLOSED);
            due(x.shutdown(), 0);
            due(x.shutdown(), CLOSED);
            due(x.deploy(), 0);
        }
    }

    private static void askingForCosts() {
        sentence("CLOSED while building; BAD when there is no such bean or it is not enabled.");
        for (boolean running : BOTH) {
            Counted x = new Counted();
            x.manage(ROOT, 64, DEPENDENT, 0);
            x.manage(ROOT, 128, DEPENDENT, -1);
            x.produce(1, ROOT, 192, DEPENDENT, 0);
            x.produce(0, ROOT, 256, DEPENDENT, -1);
            x.produce(0, ROOT, 320, DEPENDENT, 0);
            if (running) {
                x.deploy();
            }
            int[] want = {BAD, 1, BAD, BAD, BAD, 2, BAD};
            for (int bean = -1; bean <= 5; bean++) {
                due(x.cost(bean), running ? want[bean + 1] : CLOSED);
            }
            for (int far : FAR_OFF) {
                due(x.cost(far), running ? BAD : CLOSED);
            }
        }
    }

    // Promises 12 and 13

    private static void beginning() {
        sentence("False while building, when there is no such thread, or when it is active already.");
        for (boolean running : BOTH) {
            for (int thread = -2; thread <= 4; thread++) {
                Counted x = withBeans(running ? 2 : 0);
                boolean there = thread >= 0 && thread <= 2;
                due(x.begin(thread), running && there);
                due(x.begin(thread), false);
            }
        }
    }

    private static void ending() {
        sentence("CLOSED while building; BAD when there is no such thread; INACTIVE when it is not active.");
        for (int thread = -2; thread <= 4; thread++) {
            boolean there = thread >= 0 && thread <= 2;
            Counted x = withBeans(0);
            due(x.end(thread), CLOSED);
            x.deploy();
            due(x.end(thread), there ? INACTIVE : BAD);
            x.begin(0);
            due(x.end(thread), thread == 0 ? 0 : there ? INACTIVE : BAD);
            x.shutdown();
            due(x.end(thread), CLOSED);
        }
    }

    // Promise 14: CLOSED, BAD, UNSATISFIED or AMBIGUOUS, UNPROXYABLE, INACTIVE, FULL

    /**
     * The beans 0 .. 10 with the marks of their numbers: 0 costs 1, 1 costs 4, 2 costs 10, 3 costs
     * 11, all DEPENDENT; then REQUEST and APPLICATION beans of the closed class 3 that cost 1 (4, 5)
     * and 11 (6, 7); 8 and 9 share their marks, so that they are ambiguous.
     */
    private static Counted withRefusals() {
        Counted x = new Counted();
        plain(x);
        x.declare(2, 0, false, true);
        int[][] needs = {{}, {0, 0, 0}, {1, 1, 0}, {2}, {}, {}, {2}, {2}};
        for (int bean = 0; bean < 8; bean++) {
            x.manage(bean < 4 ? 2 : 3, mark(bean), bean < 4 ? DEPENDENT : 1 + bean % 2, 0);
            for (int need : needs[bean]) {
                x.inject(bean, 2, mark(need));
            }
        }
        x.manage(2, mark(8), DEPENDENT, 0);
        x.manage(3, mark(8), REQUEST, 0);
        x.manage(2, mark(10), DEPENDENT, 0);
        x.inject(10, 2, mark(6));
        x.inject(10, 2, mark(7));
        x.inject(10, 2, mark(4));
        return x;
    }

    private static final int[] COSTS = {1, 4, 10, 11, 1, 1, 11, 11};

    /** Uses numbers until only so many are left. */
    private static void leave(Counted x, int left, int used) {
        int made = used;
        while (200 - made - 10 >= left) {
            due(x.obtain(0, 2, mark(2)), made + 1);
            made += 10;
        }
        while (200 - made > left) {
            due(x.obtain(0, 2, mark(0)), made + 1);
            made++;
        }
    }

    private static void obtaining() {
        sentence("CLOSED while building; BAD when there is no such thread, or as for candidates; UNSATISFIED or "
                + "AMBIGUOUS; UNPROXYABLE when the bean is of a normal scope and the head of type is closed; INACTIVE; "
                + "FULL.");
        for (int thread : new int[] {-1, 0, 1, 2, 3}) {
            for (int type : new int[] {0, 1, 2, 3, 4, 34}) {
                for (int marks : new int[] {-2, 16, 32768, mark(20), mark(8)}) {
                    obtainedByMarks(thread, type, marks, 200);
                    obtainedByMarks(thread, type, marks, 0);
                }
                for (int bean = 0; bean < 8; bean++) {
                    obtained(thread, type, bean, 200);
                    obtained(thread, type, bean, 9);
                    obtained(thread, type, bean, 1);
                    obtained(thread, type, bean, 0);
                }
            }
        }
    }

    private static boolean isBadType(int type) {
        return type < 1 || type > 3;
    }

    private static void obtainedByMarks(int thread, int type, int marks, int left) {
        Counted x = withRefusals();
        due(x.obtain(thread, type, marks), CLOSED);
        x.deploy();
        x.begin(0);
        leave(x, left, 0);
        boolean bad = thread < 0 || thread > 2 || isBadType(type) || marks == -2 || marks == 16 || marks == 32768;
        // Of the class 3 only one of the two has these marks, and that one is normal.
        int found = marks == mark(20) ? UNSATISFIED : type == 3 ? UNPROXYABLE : AMBIGUOUS;
        due(x.obtain(thread, type, marks), bad ? BAD : found);
        x.shutdown();
        due(x.obtain(thread, type, marks), CLOSED);
    }

    private static void obtained(int thread, int type, int bean, int left) {
        Counted x = withRefusals();
        due(x.obtain(thread, type, mark(bean)), CLOSED);
        x.deploy();
        x.begin(0);
        leave(x, left, 0);
        int scope = bean < 4 ? DEPENDENT : 1 + bean % 2;
        int want = 201 - left;
        if (thread < 0 || thread > 2 || isBadType(type)) {
            want = BAD;
        } else if (bean < 4 && type == 3) {
            want = UNSATISFIED;
        } else if (scope != DEPENDENT && type == 3) {
            want = UNPROXYABLE;
        } else if (scope == REQUEST && thread != 0) {
            want = INACTIVE;
        } else if (COSTS[bean] > 10 || COSTS[bean] > left) {
            want = FULL;
        }
        due(x.obtain(thread, type, mark(bean)), want);
        x.shutdown();
        due(x.obtain(thread, type, mark(bean)), CLOSED);
    }

    // Promise 15: CLOSED, BAD, GONE, BAD, INACTIVE, FULL

    private static void calling() {
        sentence("CLOSED while building; BAD when there is no such thread; GONE when no living instance has that "
                + "number; BAD when its bean has no injection point of that number; INACTIVE; FULL.");
        for (int thread : new int[] {-1, 0, 1, 2, 3}) {
            for (int instance : new int[] {Integer.MIN_VALUE, -1, 0, 1, 2, 3, 201, Integer.MAX_VALUE}) {
                for (int point = -1; point <= 3; point++) {
                    called(thread, instance, point, 190);
                    called(thread, instance, point, 1);
                    called(thread, instance, point, 0);
                }
            }
        }
    }

    /** 1 is living and calls two dear beans and a cheap one; 2 was destroyed; 3 has no points. */
    private static void called(int thread, int instance, int point, int left) {
        Counted x = withRefusals();
        due(x.call(thread, instance, point), CLOSED);
        x.deploy();
        x.begin(0);
        due(x.obtain(0, 2, mark(10)), 1);
        due(x.obtain(0, 2, mark(0)), 2);
        due(x.obtain(0, 2, mark(0)), 3);
        due(x.destroy(2), 1);
        leave(x, left, 3);
        int want = left > 0 ? 201 - left : FULL;
        if (thread < 0 || thread > 2) {
            want = BAD;
        } else if (instance != 1 && instance != 3) {
            want = GONE;
        } else if (instance == 3 || point < 0 || point > 2) {
            want = BAD;
        } else if (point != 1 && thread != 0) {
            want = INACTIVE;
        } else if (point < 2) {
            want = FULL;
        }
        due(x.call(thread, instance, point), want);
        x.shutdown();
        due(x.call(thread, instance, point), CLOSED);
    }

    // Promise 16: CLOSED, GONE, BAD

    private static void destroying() {
        sentence("CLOSED while building; GONE when no living instance has that number; BAD when it has an owner.");
        for (int instance = -1; instance <= 8; instance++) {
            Counted x = withRefusals();
            due(x.destroy(instance), CLOSED);
            x.deploy();
            due(x.destroy(instance), GONE);
            // 1 owns 2, 3 and 4; 5 was destroyed; 6 owns none.
            due(x.obtain(0, 2, mark(1)), 1);
            due(x.obtain(0, 2, mark(0)), 5);
            due(x.obtain(0, 2, mark(0)), 6);
            due(x.destroy(5), 1);
            int want = instance == 1 ? 4 : instance == 6 ? 1 : instance >= 2 && instance <= 4 ? BAD : GONE;
            due(x.destroy(instance), want);
            due(x.live(), want > 0 ? 5 - want : 5);
            x.shutdown();
            due(x.destroy(instance), CLOSED);
        }
    }

    // Promises 18 to 20: GONE or 0, while building as while running

    private static void askingForInstances() {
        sentence("GONE when no living instance has that number.");
        Counted x = withRefusals();
        for (int round = 0; round < 3; round++) {
            for (int instance : new int[] {-1, 0, 1, 2, 200, 201, Integer.MIN_VALUE, Integer.MAX_VALUE}) {
                boolean living = round == 1 && instance == 1;
                due(x.beanOf(instance), living ? 0 : GONE);
                due(x.owner(instance), living ? 0 : GONE);
                due(x.destroyed(instance), round == 2 && instance == 0 ? 1 : 0);
            }
            due(x.live(), round == 1 ? 1 : 0);
            if (round == 0) {
                x.deploy();
                due(x.obtain(0, 2, mark(0)), 1);
            } else {
                due(x.shutdown(), round == 1 ? 1 : CLOSED);
            }
        }
    }
}
