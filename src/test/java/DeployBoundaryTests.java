/**
 * The sentences about problems, deploying and costs that name a boundary case (the document's
 * "Terms", and the promises 10 and 11).
 */
public final class DeployBoundaryTests extends Checks {
    public static void main(String[] args) {
        emptyDeployment();
        openTypes();
        openTypesOfDisabledBeans();
        unsatisfiedPoints();
        ambiguousPoints();
        pointsOfDisabledBeans();
        unproxyablePoints();
        needsOverPoints();
        needsOverHomes();
        needsOverNormalBeans();
        needsOfEveryLength();
        needsOfDisabledBeans();
        namesOfEnabledBeans();
        namesAreNarrowed();
        problemsAreSummed();
        problemsCountOnce();
        problemsOfTheLastBean();
        buildingGoesOn();
        closedWhileRunning();
        costsOfNeeds();
        costsUpToHundred();
        costsOfEachBean();
        costsAreReckonedAnew();
        finish();
    }

    // Terms: PROBLEMS, and promise 10

    private static void emptyDeployment() {
        sentence("When it is 0 the container is running from then on; otherwise it goes on building.");
        Counted x = new Counted();
        due(x.deploy(), 0);
        due(x.deploy(), CLOSED);
        due(x.shutdown(), 0);
        due(x.deploy(), 0);
        due(x.begin(0), true);
    }

    private static void openTypes() {
        sentence("1 an enabled bean of a normal scope whose type contains the VARIABLE");
        int[] open = {code(2, VARIABLE), code(2, 2, VARIABLE), code(2, 2, 2, VARIABLE)};
        int[] shut = {ROOT, 2, 3, code(2, ROOT), code(2, 2), code(2, 3), code(2, 2, 2, 3), code(2, 2, 2, 2)};
        for (int scope = 0; scope <= 2; scope++) {
            for (int type : open) {
                openType(type, scope, scope == DEPENDENT ? 0 : 1);
            }
            for (int type : shut) {
                openType(type, scope, 0);
            }
            Counted x = new Counted();
            generic(x);
            plain(x);
            x.manage(3, 64, scope, 0);
            x.manage(ROOT, 128, scope, 100);
            due(x.deploy(), 0);
            x.shutdown();
            x.manage(2, 192, scope, 0);
            due(x.deploy(), scope == DEPENDENT ? 0 : 1);
        }
    }

    private static void openType(int type, int scope, int want) {
        Counted x = new Counted();
        generic(x);
        plain(x);
        x.produce(-1, type, 0, scope, 0);
        due(x.deploy(), want);
        due(x.begin(0), want == 0);
    }

    private static void openTypesOfDisabledBeans() {
        sentence("1 an enabled bean of a normal scope whose type contains the VARIABLE");
        for (int choice : new int[] {-1, 0, 1, 100}) {
            for (int homeChoice : new int[] {-1, 0, 1}) {
                Counted x = new Counted();
                generic(x);
                x.manage(2, 64, DEPENDENT, homeChoice);
                x.produce(0, code(2, VARIABLE), 128, REQUEST, choice);
                due(x.deploy(), choice == -1 || homeChoice == -1 ? 0 : 1);
            }
            Counted y = new Counted();
            generic(y);
            y.manage(2, 64, APPLICATION, choice);
            due(y.deploy(), choice == -1 ? 0 : 1);
        }
    }

    private static void unsatisfiedPoints() {
        sentence("2 an injection point of an enabled bean is unsatisfied");
        for (int point = 0; point < 3; point++) {
            for (int scope = 0; scope <= 2; scope++) {
                Counted x = new Counted();
                plain(x);
                x.manage(ROOT, 64, APPLICATION, 0);
                x.manage(ROOT, 128, scope, 0);
                for (int i = 0; i < 3; i++) {
                    due(x.inject(1, i == point ? 2 : ROOT, 64), i);
                }
                due(x.deploy(), 2);
                due(x.begin(0), false);
                due(x.produce(-1, 2, 64, REQUEST, 1), 2);
                due(x.deploy(), 0);
            }
        }
    }

    private static void ambiguousPoints() {
        sentence("4 one is ambiguous");
        for (int point = 0; point < 3; point++) {
            for (int scope = 0; scope <= 2; scope++) {
                Counted x = new Counted();
                plain(x);
                x.manage(2, 64, APPLICATION, 0);
                x.manage(2, 64, APPLICATION, 0);
                x.manage(ROOT, 128, APPLICATION, 0);
                x.manage(ROOT, 192, scope, 0);
                for (int i = 0; i < 3; i++) {
                    due(x.inject(3, ROOT, i == point ? 64 : 128), i);
                }
                due(x.deploy(), 4);
                due(x.begin(0), false);
                due(x.manage(2, 64, APPLICATION, 1), 4);
                due(x.deploy(), 0);
            }
        }
    }

    private static void pointsOfDisabledBeans() {
        sentence("2 an injection point of an enabled bean is unsatisfied");
        for (int choice : new int[] {-1, 0, 1}) {
            for (int homeChoice : new int[] {-1, 0, 1}) {
                Counted x = new Counted();
                x.declare(0, 0, false, true);
                x.manage(ROOT, 64, DEPENDENT, homeChoice);
                x.manage(ROOT, 128, DEPENDENT, 0);
                x.manage(ROOT, 128, DEPENDENT, 0);
                x.manage(2, 256, APPLICATION, 0);
                x.produce(0, ROOT, 192, DEPENDENT, choice);
                x.inject(4, ROOT, 320);
                x.inject(4, ROOT, 128);
                x.inject(4, 2, 256);
                due(x.deploy(), choice == -1 || homeChoice == -1 ? 0 : 2 + 4 + 8);
            }
        }
    }

    private static void unproxyablePoints() {
        sentence("8 one resolves to a bean of a normal scope while its required code's head is closed");
        for (int scope = 0; scope <= 2; scope++) {
            for (int head = 2; head <= 5; head++) {
                // 2 open, 3 closed, 4 open and generic, 5 closed and generic; 3 and 5 have 2 over them.
                boolean closed = head == 3 || head == 5;
                int want = closed && scope != DEPENDENT ? 8 : 0;
                unproxyable(head, head, scope, want);
                unproxyable(head, ROOT, scope, 0);
                if (head > 3) {
                    unproxyable(code(head, 3), code(head, ANYTHING), scope, want);
                    unproxyable(code(head, 3), code(head, KIND_OF, 3), scope, want);
                    unproxyable(code(head, 2), code(head, 2), scope, want);
                }
                if (closed) {
                    unproxyable(head, 2, scope, 0);
                }
            }
        }
    }

    private static void unproxyable(int type, int required, int scope, int want) {
        for (int point = 0; point < 3; point++) {
            Counted x = new Counted();
            plain(x);
            x.declare(2, 0, false, true);
            generic(x);
            x.declare(2, 0, true, true);
            x.produce(-1, type, 64, scope, 0);
            x.manage(2, 128, APPLICATION, 0);
            for (int i = 0; i < 3; i++) {
                x.inject(1, i == point ? required : 2, i == point ? 64 : 128);
            }
            due(x.deploy(), want);
        }
    }

    private static void needsOverPoints() {
        sentence("X needs Y when one of X's injection points resolves to Y and Y is DEPENDENT");
        for (int point = 0; point < 3; point++) {
            for (int scope = 0; scope <= 2; scope++) {
                // Itself, at each of its points.
                Counted x = new Counted();
                x.manage(ROOT, 64, APPLICATION, 0);
                x.manage(ROOT, 128, scope, 0);
                for (int i = 0; i < 3; i++) {
                    x.inject(1, ROOT, i == point ? 128 : 64);
                }
                due(x.deploy(), scope == DEPENDENT ? 16 : 0);
                // Over another one that is DEPENDENT.
                Counted y = new Counted();
                y.manage(ROOT, 64, APPLICATION, 0);
                y.manage(ROOT, 128, scope, 0);
                y.manage(ROOT, 192, DEPENDENT, 0);
                for (int i = 0; i < 3; i++) {
                    y.inject(1, ROOT, i == point ? 192 : 64);
                }
                y.inject(2, ROOT, 128);
                due(y.deploy(), scope == DEPENDENT ? 16 : 0);
            }
        }
        sentence("one of X's injection points resolves to Y");
        // A candidate that narrowing leaves out is not needed.
        Counted z = new Counted();
        z.manage(ROOT, 64, DEPENDENT, 0);
        z.inject(0, ROOT, 64);
        due(z.deploy(), 16);
        z.manage(ROOT, 64, DEPENDENT, 1);
        due(z.deploy(), 0);
        due(z.cost(0), 2);
        // Nor is one of two that it might be.
        Counted u = new Counted();
        u.manage(ROOT, 64, DEPENDENT, 0);
        u.manage(ROOT, 64, DEPENDENT, 0);
        u.inject(0, ROOT, 64);
        due(u.deploy(), 4);
    }

    private static void needsOverHomes() {
        sentence("or Y is X's home");
        for (int scope = 0; scope <= 2; scope++) {
            // The home injects its product.
            Counted x = new Counted();
            x.manage(ROOT, 64, DEPENDENT, 0);
            x.produce(0, ROOT, 128, scope, 0);
            due(x.deploy(), 0);
            x.shutdown();
            x.inject(0, ROOT, 128);
            due(x.deploy(), scope == DEPENDENT ? 16 : 0);
            // The home injects what injects the product.
            Counted y = new Counted();
            y.manage(ROOT, 64, DEPENDENT, 0);
            y.produce(0, ROOT, 128, scope, 0);
            y.manage(ROOT, 192, DEPENDENT, 0);
            y.inject(0, ROOT, 192);
            y.inject(2, ROOT, 128);
            due(y.deploy(), scope == DEPENDENT ? 16 : 0);
            // The product injects its own home: each is there once more, and no circle.
            Counted z = new Counted();
            z.manage(ROOT, 64, DEPENDENT, 0);
            z.produce(0, ROOT, 128, scope, 0);
            z.inject(1, ROOT, 64);
            due(z.deploy(), 0);
            due(z.cost(1), 3);
        }
        // A circle over two homes.
        Counted u = new Counted();
        u.manage(ROOT, 64, DEPENDENT, 0);
        u.manage(ROOT, 128, DEPENDENT, 0);
        u.produce(0, ROOT, 192, DEPENDENT, 0);
        u.produce(1, ROOT, 256, DEPENDENT, 0);
        u.inject(0, ROOT, 256);
        due(u.deploy(), 0);
        u.shutdown();
        u.inject(1, ROOT, 192);
        due(u.deploy(), 16);
    }

    private static void needsOverNormalBeans() {
        sentence("and Y is DEPENDENT");
        for (int scope = 1; scope <= 2; scope++) {
            Counted x = new Counted();
            x.manage(ROOT, 64, scope, 0);
            x.manage(ROOT, 128, scope, 0);
            x.inject(0, ROOT, 64);
            x.inject(0, ROOT, 128);
            x.inject(1, ROOT, 64);
            due(x.deploy(), 0);
            x.shutdown();
            // A circle of those that a normal bean needs is one all the same.
            x.manage(ROOT, 192, DEPENDENT, 0);
            x.inject(2, ROOT, 192);
            x.inject(1, ROOT, 192);
            due(x.deploy(), 16);
        }
    }

    private static void needsOfEveryLength() {
        sentence("16 an enabled bean NEEDS itself over one or more steps");
        for (int length = 1; length <= 16; length++) {
            for (int stride : new int[] {1, 3, 5, 15}) {
                Counted x = new Counted();
                for (int bean = 0; bean < 16; bean++) {
                    x.manage(ROOT, mark(bean), DEPENDENT, 0);
                }
                for (int i = 0; i + 1 < length; i++) {
                    x.inject(i * stride % 16, ROOT, mark((i + 1) * stride % 16));
                }
                due(x.deploy(), 0);
                due(x.cost(0), length);
                x.shutdown();
                due(x.inject((length - 1) * stride % 16, ROOT, mark(0)), 0);
                due(x.deploy(), 16);
            }
        }
        // The circle need not lead through the bean from which it is reached.
        Counted y = new Counted();
        for (int bean = 0; bean < 4; bean++) {
            y.manage(ROOT, mark(bean), DEPENDENT, 0);
        }
        y.inject(0, ROOT, mark(1));
        y.inject(1, ROOT, mark(2));
        y.inject(2, ROOT, mark(3));
        y.inject(0, ROOT, mark(3));
        y.inject(1, ROOT, mark(3));
        due(y.deploy(), 0);
        y.shutdown();
        y.inject(3, ROOT, mark(2));
        due(y.deploy(), 16);
    }

    private static void needsOfDisabledBeans() {
        sentence("16 an enabled bean NEEDS itself over one or more steps");
        for (int choice : new int[] {-1, 0}) {
            Counted x = new Counted();
            x.manage(ROOT, 64, DEPENDENT, choice);
            x.produce(0, ROOT, 128, DEPENDENT, 0);
            x.manage(ROOT, 192, APPLICATION, 0);
            x.inject(0, ROOT, choice == -1 ? 192 : 128);
            x.inject(1, ROOT, choice == -1 ? 192 : 64);
            due(x.deploy(), choice == -1 ? 0 : 16);
        }
        // A product that is not enabled needs its home, but the home does not need the product.
        Counted y = new Counted();
        y.manage(ROOT, 64, DEPENDENT, 0);
        y.produce(0, ROOT, 128, DEPENDENT, -1);
        y.produce(-1, ROOT, 128, DEPENDENT, 0);
        y.inject(0, ROOT, 128);
        due(y.deploy(), 0);
    }

    private static void namesOfEnabledBeans() {
        sentence("32 there is a value of the NAME that more than one enabled bean has");
        for (int name = 0; name <= 7; name++) {
            for (int other = 0; other <= 7; other++) {
                Counted x = new Counted();
                x.manage(ROOT, name, DEPENDENT, 0);
                due(x.deploy(), 0);
                x.shutdown();
                x.produce(-1, ROOT, other + 64, APPLICATION, 0);
                due(x.deploy(), name != 0 && name == other ? 32 : 0);
            }
        }
        Counted y = new Counted();
        for (int name = 1; name <= 7; name++) {
            y.manage(ROOT, name, DEPENDENT, 0);
            y.manage(ROOT, name, DEPENDENT, -1);
        }
        due(y.deploy(), 0);
        y.shutdown();
        y.manage(ROOT, 64, DEPENDENT, -1);
        y.produce(14, ROOT, 7, DEPENDENT, 0);
        due(y.deploy(), 0);
    }

    private static void namesAreNarrowed() {
        sentence("and narrowing these leaves more than one");
        named(0, 0);
        named(32, 0, 0);
        named(0, 0, 1);
        named(0, 100, 0);
        named(32, 1, 1);
        named(32, 100, 0, 100);
        named(0, 100, 99, 99);
        named(32, 0, 0, -1);
        named(0, 0, -1, -1);
        named(32, 1, 2, 2, 1);
        named(0, 1, 2, 3, 2);
        sentence("otherwise the rank of its home");
        Counted x = new Counted();
        x.manage(ROOT, 64, DEPENDENT, 7);
        x.produce(0, ROOT, 5, DEPENDENT, 0);
        x.manage(ROOT, 5, DEPENDENT, 6);
        due(x.deploy(), 0);
        x.shutdown();
        x.manage(ROOT, 5, DEPENDENT, 7);
        due(x.deploy(), 32);
        // A rank that does not bear the name does not narrow those that do.
        Counted y = new Counted();
        y.manage(ROOT, 3, DEPENDENT, 0);
        y.manage(ROOT, 3, DEPENDENT, 0);
        y.manage(ROOT, 4, DEPENDENT, 9);
        y.manage(ROOT, 0, DEPENDENT, 9);
        due(y.deploy(), 32);
    }

    private static void named(int want, int... choices) {
        for (int name : new int[] {1, 4, 7}) {
            Counted x = new Counted();
            for (int choice : choices) {
                x.manage(ROOT, name, DEPENDENT, choice);
            }
            due(x.deploy(), want);
        }
    }

    private static void problemsAreSummed() {
        sentence("the sum of the numbers of those problems that are present (each once)");
        for (int problems = 0; problems < 64; problems++) {
            Counted x = withProblems(problems);
            due(x.deploy(), problems);
            due(x.begin(0), problems == 0);
        }
    }

    /** A deployment that has these problems and no other. */
    private static Counted withProblems(int problems) {
        Counted x = new Counted();
        generic(x);
        x.declare(0, 0, false, true);
        x.manage(2, 64, (problems & 1) != 0 ? REQUEST : DEPENDENT, 0);
        x.manage(3, 128, APPLICATION, 0);
        x.manage(ROOT, 192, DEPENDENT, 0);
        x.manage(ROOT, 192, DEPENDENT, (problems & 4) != 0 ? 0 : 1);
        x.manage(ROOT, 256, DEPENDENT, 0);
        x.inject(4, ROOT, (problems & 2) != 0 ? 320 : 128);
        x.inject(4, ROOT, 192);
        x.inject(4, (problems & 8) != 0 ? 3 : ROOT, 128);
        x.manage(ROOT, 384 + 2, DEPENDENT, 0);
        x.inject(5, ROOT, (problems & 16) != 0 ? 384 : 256);
        x.manage(ROOT, 448 + ((problems & 32) != 0 ? 2 : 1), DEPENDENT, 0);
        return x;
    }

    private static void problemsCountOnce() {
        sentence("(each once)");
        for (int problem = 1; problem < 64; problem *= 2) {
            Counted x = withProblems(problem);
            x.manage(2, 512, (problem & 1) != 0 ? APPLICATION : DEPENDENT, 0);
            x.manage(ROOT, 1024, DEPENDENT, 0);
            x.inject(8, ROOT, (problem & 2) != 0 ? 320 : 128);
            x.inject(8, ROOT, 192);
            x.inject(8, (problem & 8) != 0 ? 3 : ROOT, 128);
            x.manage(ROOT, 1536 + ((problem & 32) != 0 ? 2 : 3), DEPENDENT, 0);
            x.inject(9, ROOT, (problem & 16) != 0 ? 1536 : 1024);
            x.manage(ROOT, 2048 + ((problem & 32) != 0 ? 4 : 5), DEPENDENT, 0);
            x.manage(ROOT, 2560 + ((problem & 32) != 0 ? 4 : 6), DEPENDENT, 0);
            due(x.deploy(), problem);
            due(x.deploy(), problem);
        }
    }

    private static void problemsOfTheLastBean() {
        sentence("the sum of the numbers of those problems that are present (each once)");
        for (int problem = 0; problem < 64; problem = problem == 0 ? 1 : problem * 2) {
            Counted x = new Counted();
            generic(x);
            for (int number = 3; number <= 13; number++) {
                x.declare(0, 0, false, number == 13);
            }
            for (int bean = 0; bean < 13; bean++) {
                x.manage(3, mark(bean) + (bean == 0 ? 7 : 0), DEPENDENT, 0);
            }
            due(x.manage(13, mark(13), APPLICATION, 0), 13);
            due(x.manage(3, mark(problem == 4 ? 15 : 14), DEPENDENT, 0), 14);
            int type = problem == 1 ? code(2, VARIABLE) : 3;
            int name = problem == 32 ? 7 : 6;
            due(x.produce(-1, type, mark(15) + name, problem == 1 ? REQUEST : DEPENDENT, 0), 15);
            due(x.inject(15, ROOT, mark(12)), 0);
            due(x.inject(15, ROOT, mark(12)), 1);
            int wanted = problem == 2 ? 20 : problem == 4 || problem == 16 ? 15 : 13;
            due(x.inject(15, problem == 8 ? 13 : ROOT, mark(wanted)), 2);
            due(x.deploy(), problem);
        }
    }

    private static void buildingGoesOn() {
        sentence("otherwise it goes on building");
        for (int problem = 1; problem < 64; problem *= 2) {
            Counted x = withProblems(problem);
            due(x.deploy(), problem);
            due(x.begin(0), false);
            due(x.end(0), CLOSED);
            due(x.obtain(0, ROOT, 256), CLOSED);
            due(x.cost(4), CLOSED);
            due(x.shutdown(), CLOSED);
            due(x.destroy(1), CLOSED);
            due(x.call(0, 1, 0), CLOSED);
            due(x.live(), 0);
            due(plain(x), 4);
            due(x.manage(4, 0, 0, 0), 7);
            due(x.produce(7, 4, 512, 0, 0), 8);
            due(x.inject(8, 4, 0), 0);
            due(x.deploy(), problem);
        }
    }

    private static void closedWhileRunning() {
        sentence("Classes, beans and injection points can be added while it is building");
        Counted x = new Counted();
        generic(x);
        x.manage(ROOT, 64, DEPENDENT, 0);
        due(x.deploy(), 0);
        due(x.deploy(), CLOSED);
        due(plain(x), CLOSED);
        due(x.manage(ROOT, 64, 0, 0), CLOSED);
        due(x.produce(0, ROOT, 64, 0, 0), CLOSED);
        due(x.inject(0, ROOT, 64), CLOSED);
        due(x.deploy(), CLOSED);
        due(x.candidates(3, -1), BAD);
        due(x.candidates(ROOT, -1), 1);
        due(x.types(1), BAD);
        due(x.obtain(0, ROOT, 64), 1);
        due(x.call(0, 1, 0), BAD);
        due(x.shutdown(), 1);
        due(plain(x), 3);
        due(x.manage(3, 128, 0, 0), 1);
        due(x.produce(0, 3, 192, 0, 0), 2);
        due(x.inject(0, 3, 128), 0);
        due(x.deploy(), 0);
        due(x.cost(2), 3);
    }

    // Terms: COST, and promise 11

    private static void costsOfNeeds() {
        sentence("1, and the costs of all beans that it needs, once for each injection point that resolves to a "
                + "DEPENDENT bean and once for its home");
        Counted x = new Counted();
        x.manage(ROOT, mark(0), DEPENDENT, 0);
        x.manage(ROOT, mark(1), REQUEST, 0);
        x.manage(ROOT, mark(2), APPLICATION, 0);
        x.manage(ROOT, mark(3), DEPENDENT, 0);
        x.manage(ROOT, mark(4), DEPENDENT, 0);
        x.manage(ROOT, mark(5), DEPENDENT, 0);
        x.produce(5, ROOT, mark(6), DEPENDENT, 0);
        x.produce(5, ROOT, mark(7), APPLICATION, 0);
        x.manage(ROOT, mark(8), APPLICATION, 0);
        x.inject(3, ROOT, mark(1));
        x.inject(3, ROOT, mark(2));
        x.inject(3, ROOT, mark(0));
        x.inject(4, ROOT, mark(0));
        x.inject(4, ROOT, mark(0));
        x.inject(4, ROOT, mark(0));
        x.inject(5, ROOT, mark(3));
        x.inject(6, ROOT, mark(5));
        x.inject(7, ROOT, mark(4));
        x.inject(7, ROOT, mark(7));
        x.inject(8, ROOT, mark(6));
        x.inject(8, ROOT, mark(6));
        due(x.cost(0), CLOSED);
        due(x.deploy(), 0);
        int[] want = {1, 1, 1, 2, 4, 3, 7, 8, 15};
        for (int bean = 0; bean < want.length; bean++) {
            due(x.cost(bean), want[bean]);
        }
        sentence("BAD when there is no such bean or it is not enabled.");
        due(x.cost(9), BAD);
        due(x.cost(-1), BAD);
        due(x.cost(15), BAD);
        due(x.cost(16), BAD);
        for (int far : FAR_OFF) {
            due(x.cost(far), BAD);
        }
    }

    private static void costsUpToHundred() {
        sentence("The cost of an enabled bean; 100 when it is above 100.");
        // Each row: the needs of one bean. Their costs are 1, 4, 13, 40 and then those looked for.
        int[][] needs = {{}, {0, 0, 0}, {1, 1, 1}, {2, 2, 2}, {3, 3, 2}, {4, 1}, {5}, {6}, {7}, {3, 3, 3}, {9}};
        int[] want = {1, 4, 13, 40, 94, 99, 100, 100, 100, 100, 100};
        Counted x = new Counted();
        for (int bean = 0; bean < needs.length; bean++) {
            x.manage(ROOT, mark(bean), DEPENDENT, 0);
        }
        for (int bean = 0; bean < needs.length; bean++) {
            for (int need : needs[bean]) {
                x.inject(bean, ROOT, mark(need));
            }
        }
        // The home's cost counts too: 1 + 99, 1 + 100, 1 + 99 + 1.
        x.produce(5, ROOT, mark(11), APPLICATION, 0);
        x.produce(6, ROOT, mark(12), APPLICATION, 0);
        x.produce(5, ROOT, mark(13), APPLICATION, 0);
        x.inject(13, ROOT, mark(0));
        due(x.deploy(), 0);
        for (int bean = 0; bean < needs.length; bean++) {
            due(x.cost(bean), want[bean]);
        }
        due(x.cost(11), 100);
        due(x.cost(12), 100);
        due(x.cost(13), 100);
        // The dearest of all: three needs in each of fifteen steps.
        Counted y = new Counted();
        for (int bean = 0; bean < 16; bean++) {
            y.manage(ROOT, mark(bean), DEPENDENT, 0);
        }
        for (int bean = 1; bean < 16; bean++) {
            for (int point = 0; point < 3; point++) {
                y.inject(bean, ROOT, mark(bean - 1));
            }
        }
        due(y.deploy(), 0);
        int cost = 1;
        for (int bean = 0; bean < 16; bean++) {
            due(y.cost(bean), Math.min(cost, 100));
            cost = Math.min(1 + 3 * cost, 1000);
        }
    }

    private static void costsOfEachBean() {
        sentence("1, and the costs of all beans that it needs");
        // The chain may lead up or down the numbers; each cost is right in both.
        for (int way = 0; way < 2; way++) {
            Counted x = new Counted();
            for (int bean = 0; bean < 16; bean++) {
                x.manage(ROOT, mark(bean), DEPENDENT, 0);
            }
            for (int i = 1; i < 16; i++) {
                int bean = way == 0 ? i : 15 - i;
                int need = way == 0 ? i - 1 : 16 - i;
                due(x.inject(bean, ROOT, mark(need)), 0);
            }
            due(x.deploy(), 0);
            for (int i = 0; i < 16; i++) {
                due(x.cost(way == 0 ? i : 15 - i), i + 1);
            }
        }
    }

    private static void costsAreReckonedAnew() {
        sentence("The COST of an enabled bean, while running");
        Counted x = new Counted();
        x.manage(ROOT, 64, DEPENDENT, 0);
        x.manage(ROOT, 128, DEPENDENT, 0);
        x.manage(ROOT, 192, DEPENDENT, -1);
        x.inject(1, ROOT, 64);
        x.deploy();
        due(x.cost(0), 1);
        due(x.cost(1), 2);
        due(x.cost(2), BAD);
        x.shutdown();
        due(x.cost(1), CLOSED);
        due(x.cost(2), CLOSED);
        due(x.cost(-1), CLOSED);
        // The point resolves to this one now, which is dearer; then to one that is normal.
        x.manage(ROOT, 64, DEPENDENT, 1);
        x.manage(ROOT, 256, DEPENDENT, 0);
        x.inject(3, ROOT, 256);
        due(x.deploy(), 0);
        due(x.cost(1), 3);
        due(x.cost(0), 1);
        x.shutdown();
        x.manage(ROOT, 64, REQUEST, 2);
        due(x.deploy(), 0);
        due(x.cost(1), 1);
        due(x.cost(3), 2);
    }
}
