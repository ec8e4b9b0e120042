/**
 * The sentences about marks, beans, injection points and resolving that name a boundary case
 * (the document's "Terms", and the promises 3, 4, 5, 8 and 9).
 */
public final class BeanBoundaryTests extends Checks {
    public static void main(String[] args) {
        marksOfBeans();
        requiredMarks();
        marksAreCompared();
        digitsOfMarks();
        marksOfSeveralKinds();
        defaultMark();
        requiredNothing();
        managedClasses();
        managedTypes();
        scopes();
        choices();
        sixteenBeans();
        homes();
        homesOfAnySort();
        enabledBeans();
        ranks();
        plainAndNotSelected();
        ranksOverTheirRange();
        injectionPoints();
        injectionPointsOfAll();
        injectionPointsAreKept();
        candidatesInEveryRespect();
        candidatesBeforeNarrowing();
        noCandidates();
        narrowing();
        resolvingToEachBean();
        resolvingWhileRunning();
        finish();
    }

    // Terms: MARKS

    private static boolean areMarks(int number) {
        return number >= 0 && number <= 32767 && number / 8 % 8 <= 1;
    }

    private static void marksOfBeans() {
        sentence("the marks are not 0 .. 32767 or their digit of kind 1 is above 1");
        Counted x = new Counted();
        int bean = 0;
        for (int marks = -70; marks <= 32768 + 70; marks++) {
            boolean taken = areMarks(marks);
            int got = marks % 2 == 0 ? x.manage(ROOT, marks, 0, 0) : x.produce(-1, ROOT, marks, 0, 0);
            due(got, taken ? bean : BAD);
            bean += taken ? 1 : 0;
            if (bean == 16 || x.callsLeft() == 0) {
                x = new Counted();
                bean = 0;
            }
        }
        Counted y = new Counted();
        for (int marks : new int[] {-1, 16, 56, 32767, 32768, 65536, 1 << 20, Integer.MIN_VALUE, Integer.MAX_VALUE}) {
            due(y.manage(ROOT, marks, 0, 0), BAD);
            due(y.produce(-1, ROOT, marks, 0, 0), BAD);
        }
        due(y.manage(ROOT, 32719, 0, 0), 0);
        due(y.produce(-1, ROOT, 32719, 0, 0), 1);
        due(y.manage(ROOT, 0, 0, 0), 2);
        due(y.produce(-1, ROOT, 0, 0, 0), 3);
    }

    private static void requiredMarks() {
        sentence("marks are not required marks (a digit of kind 1 above 1 is not allowed here either)");
        Counted x = new Counted();
        for (int marks = -70; marks <= 32768 + 70; marks++) {
            due(x.candidates(ROOT, marks), marks == -1 || areMarks(marks) ? 0 : BAD);
            if (x.callsLeft() == 0) {
                x = new Counted();
            }
        }
        int[] edges = {
            Integer.MIN_VALUE, -32768, -3, -2, -1, 0, 7, 8, 15, 16, 23, 24, 31, 56, 63, 64, 79, 80, 32704, 32719, 32720,
            32759, 32760, 32767, 32768, 32776, 65535, 1 << 30, Integer.MAX_VALUE,
        };
        for (int marks : edges) {
            boolean taken = marks == -1 || areMarks(marks);
            Counted y = new Counted();
            due(y.candidates(ROOT, marks), taken ? 0 : BAD);
            due(y.resolve(ROOT, marks), taken ? UNSATISFIED : BAD);
            due(y.manage(ROOT, 0, 0, -1), 0);
            due(y.inject(0, ROOT, marks), taken ? 0 : BAD);
            due(y.deploy(), 0);
            due(y.obtain(0, ROOT, marks), taken ? UNSATISFIED : BAD);
        }
    }

    private static void marksAreCompared() {
        sentence("A bean CARRIES required marks when of each kind that is there in them it has a mark, with the same "
                + "value unless the kind is 4.");
        int weight = 1;
        for (int kind = 0; kind < 5; kind++) {
            int most = kind == 1 ? 1 : 7;
            for (int own = 0; own <= most; own++) {
                // Kind 2 or 3 keeps DEFAULT away, so that the kind that is looked at stands alone.
                int other = kind == 2 ? 512 : 64;
                Counted x = new Counted();
                due(x.manage(ROOT, own * weight + other, 0, 0), 0);
                for (int wanted = 1; wanted <= most; wanted++) {
                    boolean carried = own != 0 && (kind == 4 || own == wanted);
                    due(x.candidates(ROOT, wanted * weight), carried ? 1 : 0);
                    due(x.resolve(ROOT, wanted * weight + other), carried ? 0 : UNSATISFIED);
                }
                due(x.candidates(ROOT, other), 1);
            }
            weight *= 8;
        }
    }

    private static void digitsOfMarks() {
        sentence("The digit 0 says that a mark of that kind is not there; 1 .. 7 that it is there, with that value.");
        for (int kind = 0; kind < 5; kind++) {
            int weight = 1 << (3 * kind);
            int most = kind == 1 ? 1 : 7;
            Counted x = new Counted();
            x.manage(ROOT, kind == 2 ? 512 : 64, 0, 0);
            for (int value = 1; value <= most; value++) {
                due(x.manage(ROOT, value * weight, 0, 0), value);
            }
            for (int value = 1; value <= most; value++) {
                sentence(kind == 4 ? "kind 4 is LOOSE: its value is never compared"
                        : "1 .. 7 that it is there, with that value");
                due(x.resolve(ROOT, value * weight), kind == 4 ? AMBIGUOUS : value);
                due(x.candidates(ROOT, value * weight), kind == 4 ? 7 : 1);
            }
        }
        sentence("kind 1 is DEFAULT, whose digit is 0 or 1");
        for (int value = 0; value <= 7; value++) {
            Counted y = new Counted();
            int want = value > 1 ? BAD : 0;
            due(y.manage(ROOT, value * 8, 0, 0), want);
            due(y.manage(ROOT, 7 + 64 + value * 8, 0, 0), value > 1 ? BAD : 1);
            due(y.candidates(ROOT, 64 + value * 8), value > 1 ? BAD : 1);
            due(y.candidates(ROOT, value * 8), value > 1 ? BAD : 1 + value);
        }
    }

    private static void marksOfSeveralKinds() {
        sentence("of each kind that is there in them it has a mark");
        int full = 3 + 8 + 2 * 64 + 5 * 512 + 7 * 4096;
        int[] parts = {3, 8, 2 * 64, 5 * 512, 7 * 4096};
        for (int lacking = 0; lacking < 5; lacking++) {
            Counted x = new Counted();
            x.manage(ROOT, full, 0, 0);
            x.manage(ROOT, full - parts[lacking], 0, 0);
            due(x.candidates(ROOT, full), 1);
            due(x.resolve(ROOT, full), 0);
            due(x.candidates(ROOT, full - parts[lacking]), 2);
            for (int kind = 0; kind < 5; kind++) {
                due(x.candidates(ROOT, parts[kind]), kind == lacking ? 1 : 2);
                due(x.candidates(ROOT, full - parts[kind]), kind == lacking ? 2 : 1);
            }
        }
    }

    private static void defaultMark() {
        sentence("A bean for which the digits of the kinds 1 to 4 are all 0 gets DEFAULT with value 1.");
        int[] with = {0, 1, 7, 8, 8 + 64, 8 + 512, 8 + 4096, 9, 32719};
        int[] without = {64, 512, 4096, 7 * 64, 7 * 512, 7 * 4096, 64 + 1, 512 + 7, 4096 + 7};
        for (int marks : with) {
            Counted x = new Counted();
            x.manage(ROOT, marks, 0, 0);
            due(x.candidates(ROOT, 8), 1);
            x.produce(-1, ROOT, marks, 0, 0);
            due(x.candidates(ROOT, 8), 2);
            due(x.candidates(ROOT, 0), 2);
            due(x.candidates(ROOT, 64 + 8), marks >= 64 && marks / 64 % 8 == 1 ? 2 : 0);
        }
        for (int marks : without) {
            Counted y = new Counted();
            y.manage(ROOT, marks, 0, 0);
            y.produce(-1, ROOT, marks, 0, 0);
            due(y.candidates(ROOT, 8), 0);
            due(y.candidates(ROOT, 0), 0);
            due(y.candidates(ROOT, marks), 2);
        }
        sentence("Kind 0 is the NAME");
        Counted u = new Counted();
        for (int name = 1; name <= 7; name++) {
            due(u.manage(ROOT, name, 0, 0), name - 1);
        }
        due(u.candidates(ROOT, 0), 7);
        for (int name = 1; name <= 7; name++) {
            due(u.resolve(ROOT, name), name - 1);
            due(u.resolve(ROOT, name + 8), name - 1);
            due(u.resolve(ROOT, name + 64), UNSATISFIED);
        }
    }

    private static void requiredNothing() {
        sentence("REQUIRED MARKS are such a number, where 0 stands for DEFAULT with value 1 alone; or -1: no mark is "
                + "required.");
        Counted x = new Counted();
        x.manage(ROOT, 0, 0, 0);
        x.manage(ROOT, 64, 0, 0);
        x.manage(ROOT, 8 + 64, 0, 0);
        x.manage(ROOT, 3, 0, 0);
        x.manage(ROOT, 4096 + 3, 0, 0);
        due(x.candidates(ROOT, -1), 5);
        due(x.candidates(ROOT, 0), 3);
        due(x.candidates(ROOT, 8), 3);
        // A number that is not 0 stands for itself, with DEFAULT or without.
        due(x.candidates(ROOT, 3), 2);
        due(x.candidates(ROOT, 3 + 8), 1);
        due(x.candidates(ROOT, 64), 2);
        due(x.candidates(ROOT, 64 + 8), 1);
        due(x.resolve(ROOT, 4096), 4);
        due(x.resolve(ROOT, 4096 + 8), UNSATISFIED);
    }

    // Terms: BEANS, and promises 3 and 4

    private static void managedClasses() {
        sentence("BAD when there is no such class");
        Counted x = new Counted();
        for (int last = 1; last <= 13; last++) {
            due(x.manage(0, 0, 0, 0), BAD);
            due(x.manage(-1, 0, 0, 0), BAD);
            due(x.manage(last + 1, 0, 0, 0), BAD);
            due(x.manage(last, 0, 0, 0), last - 1);
            if (last < 13) {
                due(x.declare(0, 0, last % 2 == 0, last % 3 == 0), last + 1);
            }
        }
        for (int which = 14; which <= 70; which++) {
            due(x.manage(which, 0, 0, 0), BAD);
        }
        for (int far : FAR_OFF) {
            due(x.manage(far, 0, 0, 0), BAD);
        }
        due(x.types(12), 2);
        due(x.types(13), BAD);
    }

    private static void managedTypes() {
        sentence("A MANAGED bean is of a class: its type is that class, with the VARIABLE as its argument when it is "
                + "generic.");
        Counted x = new Counted();
        generic(x);
        plain(x);
        x.declare(0, 0, true, true);
        due(x.manage(2, 0, 0, 0), 0);
        due(x.manage(3, 0, 0, 0), 1);
        due(x.manage(4, 0, 0, 0), 2);
        due(x.manage(ROOT, 0, 0, 0), 3);
        // No other argument than the VARIABLE would meet all three.
        due(x.fits(code(2, 3), 0), 1);
        due(x.fits(code(2, 2, ROOT), 0), 1);
        due(x.fits(2, 0), 1);
        due(x.fits(code(4, 3), 2), 1);
        due(x.fits(code(4, ANYTHING), 2), 1);
        due(x.fits(3, 1), 1);
        due(x.types(1), 2);
        due(x.types(3), 1);
        due(x.fits(2, 3), 0);
    }

    private static void scopes() {
        sentence("SCOPES: 0 DEPENDENT; 1 REQUEST and 2 APPLICATION, which are the NORMAL ones.");
        Counted x = new Counted();
        due(x.manage(ROOT, 64, DEPENDENT, 0), 0);
        due(x.manage(ROOT, 128, REQUEST, 0), 1);
        due(x.manage(ROOT, 192, APPLICATION, 0), 2);
        due(x.produce(-1, ROOT, 256, DEPENDENT, 0), 3);
        due(x.produce(0, ROOT, 320, REQUEST, 0), 4);
        due(x.produce(0, ROOT, 384, APPLICATION, 0), 5);
        for (int scope : new int[] {-2, -1, 3, 4, 8, 256, Integer.MIN_VALUE, Integer.MAX_VALUE}) {
            due(x.manage(ROOT, 0, scope, 0), BAD);
            due(x.produce(-1, ROOT, 0, scope, 0), BAD);
            due(x.produce(0, ROOT, 0, scope, 0), BAD);
        }
        due(x.types(6), BAD);
        due(x.deploy(), 0);
        due(x.obtain(0, ROOT, 64), 1);
        due(x.obtain(0, ROOT, 64), 2);
        due(x.obtain(0, ROOT, 128), INACTIVE);
        due(x.obtain(0, ROOT, 192), 3);
        due(x.obtain(1, ROOT, 192), 3);
        due(x.obtain(0, ROOT, 256), 4);
        due(x.obtain(0, ROOT, 256), 5);
        due(x.obtain(0, ROOT, 320), INACTIVE);
        due(x.obtain(0, ROOT, 384), 7);
        due(x.obtain(2, ROOT, 384), 7);
    }

    private static void choices() {
        sentence("the choice is not -1 .. 100");
        Counted x = new Counted();
        int bean = 0;
        for (int choice = -300; choice <= 400; choice++) {
            boolean taken = choice >= -1 && choice <= 100;
            int got = choice % 2 == 0 ? x.manage(ROOT, 0, 0, choice) : x.produce(-1, ROOT, 0, 0, choice);
            due(got, taken ? bean : BAD);
            bean += taken ? 1 : 0;
            if (bean == 16 || x.callsLeft() == 0) {
                x = new Counted();
                bean = 0;
            }
        }
        Counted y = new Counted();
        for (int choice : new int[] {-2, 101, Integer.MIN_VALUE, Integer.MAX_VALUE}) {
            due(y.manage(ROOT, 0, 0, choice), BAD);
            due(y.produce(-1, ROOT, 0, 0, choice), BAD);
        }
        due(y.manage(ROOT, 0, 0, -1), 0);
        due(y.manage(ROOT, 0, 0, 100), 1);
        due(y.produce(-1, ROOT, 0, 0, -1), 2);
        due(y.produce(-1, ROOT, 0, 0, 100), 3);
    }

    private static void sixteenBeans() {
        for (int way = 0; way < 3; way++) {
            sentence("BEANS are numbered 0, 1, .. 15.");
            Counted x = new Counted();
            for (int bean = 0; bean < 16; bean++) {
                boolean product = way == 1 || way == 2 && bean % 2 == 1;
                due(x.types(bean), BAD);
                due(product ? x.produce(-1, ROOT, mark(bean), 0, 0) : x.manage(ROOT, mark(bean), 0, 0), bean);
                due(x.types(bean), 1);
            }
            sentence("FULL when there are 16 beans");
            due(x.manage(ROOT, 0, 0, 0), FULL);
            due(x.produce(-1, ROOT, 0, 0, 0), FULL);
            due(x.manage(ROOT, 0, 0, 0), FULL);
            due(x.types(16), BAD);
            due(x.candidates(ROOT, -1), 16);
            for (int bean = 0; bean < 16; bean++) {
                due(x.resolve(ROOT, mark(bean)), bean);
            }
            due(x.deploy(), 0);
            due(x.shutdown(), 0);
            due(x.manage(ROOT, 0, 0, 0), FULL);
            due(x.produce(-1, ROOT, 0, 0, 0), FULL);
        }
    }

    private static void homes() {
        sentence("home is a bean, or -1 for none");
        Counted x = new Counted();
        due(x.produce(0, ROOT, 0, 0, 0), BAD);
        due(x.produce(-1, ROOT, 64, 0, 0), 0);
        due(x.produce(0, ROOT, 0, 0, 0), BAD);
        due(x.manage(ROOT, 128, 0, 0), 1);
        due(x.produce(2, ROOT, 0, 0, 0), BAD);
        due(x.produce(-2, ROOT, 0, 0, 0), BAD);
        due(x.produce(1, ROOT, 192, 0, 0), 2);
        // The bean that is being added is none yet, and a product is no home.
        due(x.produce(3, ROOT, 0, 0, 0), BAD);
        due(x.produce(2, ROOT, 0, 0, 0), BAD);
        for (int far : FAR_OFF) {
            due(x.produce(far, ROOT, 0, 0, 0), BAD);
        }
        for (int home = 3; home <= 40; home++) {
            due(x.produce(home, ROOT, 0, 0, 0), BAD);
        }
        for (int bean = 3; bean < 15; bean++) {
            due(x.manage(ROOT, mark(bean), 0, 0), bean);
        }
        due(x.produce(14, ROOT, mark(15), 0, 0), 15);
        due(x.deploy(), 0);
        due(x.cost(0), 1);
        due(x.cost(2), 2);
        due(x.cost(15), 2);
    }

    private static void homesOfAnySort() {
        sentence("BAD when home is not -1 and not a managed bean of scope DEPENDENT");
        for (int scope = 0; scope <= 2; scope++) {
            for (int choice : new int[] {-1, 0, 1, 100}) {
                Counted x = new Counted();
                x.manage(ROOT, 0, 0, 0);
                due(x.manage(ROOT, 0, scope, choice), 1);
                due(x.produce(-1, ROOT, 0, scope, choice), 2);
                due(x.produce(0, ROOT, 0, scope, choice), 3);
                due(x.produce(2, ROOT, 0, 0, 0), BAD);
                due(x.produce(3, ROOT, 0, 0, 0), BAD);
                due(x.produce(1, ROOT, 0, 0, 0), scope == DEPENDENT ? 4 : BAD);
                due(x.produce(1, ROOT, 0, 2, 7), scope == DEPENDENT ? 5 : BAD);
            }
        }
    }

    private static void enabledBeans() {
        sentence("A bean is ENABLED when its choice is not -1 and its home, if it has one, is enabled.");
        int[] choices = {-1, 0, 1, 100};
        for (int choice : choices) {
            Counted x = new Counted();
            x.manage(ROOT, 64, 0, choice);
            due(x.candidates(ROOT, 64), choice == -1 ? 0 : 1);
            x.produce(-1, ROOT, 128, 0, choice);
            due(x.candidates(ROOT, 128), choice == -1 ? 0 : 1);
            due(x.deploy(), 0);
            due(x.cost(0), choice == -1 ? BAD : 1);
            due(x.cost(1), choice == -1 ? BAD : 1);
            for (int homeChoice : choices) {
                Counted y = new Counted();
                boolean enabled = choice != -1 && homeChoice != -1;
                y.manage(ROOT, 64, 0, homeChoice);
                due(y.produce(0, ROOT, 128, 0, choice), 1);
                due(y.candidates(ROOT, 128), enabled ? 1 : 0);
                due(y.resolve(ROOT, 128), enabled ? 1 : UNSATISFIED);
                due(y.candidates(ROOT, 64), homeChoice == -1 ? 0 : 1);
                due(y.fits(ROOT, 1), 1);
                due(y.deploy(), 0);
                due(y.cost(1), enabled ? 2 : BAD);
                due(y.cost(0), homeChoice == -1 ? BAD : 1);
                due(y.obtain(0, ROOT, 128), enabled ? 2 : UNSATISFIED);
            }
        }
    }

    private static void ranks() {
        sentence("Its RANK is its choice when that is above 0; otherwise the rank of its home, if it has one; "
                + "otherwise 0.");
        int[] choices = {0, 1, 2, 50, 99, 100};
        int[] homeChoices = {0, 1, 2, 49, 50, 51, 99, 100};
        for (int choice : choices) {
            rankIs(choice, -1, choice);
            for (int homeChoice : homeChoices) {
                rankIs(choice, homeChoice, choice > 0 ? choice : homeChoice);
            }
        }
    }

    /** Compares the rank of a product (with a home, unless that one's choice is -1) with rivals. */
    private static void rankIs(int choice, int homeChoice, int rank) {
        for (int rival : new int[] {0, 1, 2, 3, 48, 49, 50, 51, 98, 99, 100}) {
            Counted x = new Counted();
            int home = homeChoice == -1 ? -1 : x.manage(ROOT, 64, 0, homeChoice);
            int bean = x.produce(home, ROOT, 128, 0, choice);
            int other = x.manage(ROOT, 128, 0, rival);
            int want = rank > rival ? bean : rank < rival ? other : AMBIGUOUS;
            due(x.resolve(ROOT, 128), want);
            due(x.candidates(ROOT, 128), 2);
        }
    }

    private static void plainAndNotSelected() {
        sentence("The choice is 0: plain; -1: an alternative that was not selected");
        Counted x = new Counted();
        x.manage(ROOT, 0, 0, -1);
        due(x.resolve(ROOT, 0), UNSATISFIED);
        x.manage(ROOT, 0, 0, 0);
        due(x.resolve(ROOT, 0), 1);
        x.manage(ROOT, 0, 0, 0);
        due(x.resolve(ROOT, 0), AMBIGUOUS);
        x.manage(ROOT, 0, 0, 1);
        due(x.resolve(ROOT, 0), 3);
        due(x.candidates(ROOT, 0), 3);
    }

    private static void ranksOverTheirRange() {
        sentence("1 .. 100: an alternative that was selected, with that priority");
        for (int choice = 1; choice <= 100; choice++) {
            Counted x = new Counted();
            x.manage(ROOT, 0, 0, choice - 1);
            x.manage(ROOT, 0, 0, choice);
            due(x.resolve(ROOT, 0), 1);
            x.manage(ROOT, 0, 0, choice);
            due(x.resolve(ROOT, 0), AMBIGUOUS);
        }
    }

    // Terms: injection points, and promise 5

    private static void injectionPoints() {
        sentence("A bean has up to three INJECTION POINTS 0, 1, 2");
        Counted x = new Counted();
        due(x.inject(0, ROOT, 0), BAD);
        x.manage(ROOT, 64, 0, 0);
        x.manage(ROOT, 128, 2, 0);
        x.produce(0, ROOT, 192, 1, -1);
        for (int bean = 0; bean < 3; bean++) {
            due(x.inject(bean, ROOT, 128), 0);
        }
        for (int bean = 2; bean >= 0; bean--) {
            due(x.inject(bean, ROOT, 128), 1);
            due(x.inject(bean, ROOT, -1), 2);
            sentence("FULL when the bean has three.");
            due(x.inject(bean, ROOT, 128), FULL);
            due(x.inject(bean, ROOT, -1), FULL);
            sentence("A bean has up to three INJECTION POINTS 0, 1, 2");
        }
        sentence("BAD when there is no such bean");
        due(x.inject(-1, ROOT, 0), BAD);
        due(x.inject(3, ROOT, 0), BAD);
        due(x.inject(15, ROOT, 0), BAD);
        due(x.inject(16, ROOT, 0), BAD);
        for (int far : FAR_OFF) {
            due(x.inject(far, ROOT, 0), BAD);
        }
        due(x.manage(ROOT, 256, 0, 0), 3);
        due(x.inject(3, ROOT, 0), 0);
    }

    private static void injectionPointsOfAll() {
        sentence("FULL when the bean has three.");
        Counted x = new Counted();
        for (int bean = 0; bean < 16; bean++) {
            x.manage(ROOT, mark(bean), APPLICATION, 0);
        }
        for (int point = 0; point < 3; point++) {
            for (int bean = 0; bean < 16; bean++) {
                due(x.inject(bean, ROOT, mark((bean * 5 + point * 3) % 16)), point);
            }
        }
        for (int bean = 0; bean < 16; bean++) {
            due(x.inject(bean, ROOT, 0), FULL);
        }
        due(x.inject(16, ROOT, 0), BAD);
        due(x.deploy(), 0);
        for (int bean = 0; bean < 16; bean++) {
            due(x.obtain(0, ROOT, mark(bean)), bean + 1);
        }
        for (int bean = 0; bean < 16; bean++) {
            for (int point = 0; point < 3; point++) {
                due(x.call(0, bean + 1, point), (bean * 5 + point * 3) % 16 + 1);
            }
            due(x.call(0, bean + 1, 3), BAD);
            due(x.call(0, bean + 1, -1), BAD);
        }
    }

    private static void injectionPointsAreKept() {
        sentence("each with a required code and required marks");
        Counted x = new Counted();
        generic(x);
        plain(x);
        x.produce(-1, code(2, 3), mark(1), APPLICATION, 0);
        x.produce(-1, 3, 0, APPLICATION, 0);
        x.produce(-1, code(2, 2, 2, 2), 32719, APPLICATION, 0);
        x.manage(ROOT, mark(3), DEPENDENT, 0);
        due(x.inject(3, code(2, KIND_OF, 3), -1), 0);
        due(x.inject(3, code(2, 2, 2, KIND_OF, 2), 32719), 1);
        due(x.inject(3, 3, 0), 2);
        due(x.deploy(), 0);
        due(x.obtain(0, ROOT, mark(3)), 1);
        due(x.call(0, 1, 0), 2);
        due(x.call(0, 1, 1), 3);
        due(x.call(0, 1, 2), 4);
        due(x.beanOf(2), 0);
        due(x.beanOf(3), 2);
        due(x.beanOf(4), 1);
    }

    // Terms: RESOLVING, and promises 8 and 9

    private static void candidatesInEveryRespect() {
        sentence("The CANDIDATES are the enabled beans that have a supertype of their type by which the required type "
                + "is met, and that carry the marks.");
        Counted x = new Counted();
        plain(x);
        x.declare(2, 0, false, false);
        x.manage(2, 64, 0, 0);
        x.manage(2, 64, 0, -1);
        x.produce(1, 2, 64, 0, 3);
        x.manage(ROOT, 64, 0, 0);
        x.manage(2, 128, 0, 0);
        due(x.candidates(2, 64), 1);
        due(x.resolve(2, 64), 0);
        due(x.candidates(3, 64), 0);
        due(x.candidates(ROOT, 64), 2);
        due(x.candidates(2, -1), 2);
        x.manage(3, 64, 0, 0);
        due(x.candidates(2, 64), 2);
        due(x.candidates(3, 64), 1);
        due(x.resolve(3, 64), 5);
    }

    private static void candidatesBeforeNarrowing() {
        sentence("How many candidates there are for a required code and required marks (before narrowing).");
        Counted x = new Counted();
        plain(x);
        x.declare(2, 0, false, false);
        due(x.candidates(2, 0), 0);
        for (int bean = 0; bean < 16; bean++) {
            due(x.candidates(2, 0), bean);
            due(x.candidates(3, -1), bean / 2);
            x.manage(bean % 2 == 0 ? 2 : 3, 0, bean % 3, bean * 6);
        }
        due(x.candidates(2, 0), 16);
        due(x.candidates(ROOT, -1), 16);
        due(x.candidates(3, 8), 8);
        due(x.candidates(2, 64), 0);
        due(x.resolve(2, 0), 15);
    }

    private static void noCandidates() {
        sentence("it is UNSATISFIED when there are no candidates; otherwise it is AMBIGUOUS.");
        Counted x = new Counted();
        plain(x);
        plain(x);
        due(x.resolve(2, -1), UNSATISFIED);
        x.manage(3, 0, 0, 100);
        due(x.resolve(2, -1), UNSATISFIED);
        x.manage(2, 0, 0, -1);
        due(x.resolve(2, -1), UNSATISFIED);
        x.produce(1, 2, 0, 0, 100);
        due(x.resolve(2, -1), UNSATISFIED);
        x.manage(2, 64, 0, 0);
        due(x.resolve(2, 0), UNSATISFIED);
        due(x.resolve(2, 128), UNSATISFIED);
        due(x.resolve(2, -1), 3);
        x.manage(2, 64, 0, 0);
        due(x.resolve(2, 64), AMBIGUOUS);
        due(x.resolve(2, 65), UNSATISFIED);
    }

    private static void narrowing() {
        sentence("NARROWING beans: when some have a rank above 0, only those with the highest rank stay.");
        resolves(0, 0);
        resolves(AMBIGUOUS, 0, 0);
        resolves(1, 0, 1);
        resolves(0, 1, 0);
        resolves(AMBIGUOUS, 1, 1);
        resolves(AMBIGUOUS, 1, 0, 1);
        resolves(2, 1, 1, 2);
        resolves(0, 2, 1, 1);
        resolves(AMBIGUOUS, 2, 1, 2, 1);
        resolves(3, 0, 99, 99, 100, 0);
        resolves(AMBIGUOUS, 100, 99, 100);
        resolves(2, -1, -1, 0, -1);
        resolves(AMBIGUOUS, 0, 0, 0, 0, 0, 0, 0, 0, 0, 0, 0, 0, 0, 0, 0, 0);
        resolves(15, 0, 0, 0, 0, 0, 0, 0, 0, 0, 0, 0, 0, 0, 0, 0, 1);
        resolves(0, 1, 0, 0, 0, 0, 0, 0, 0, 0, 0, 0, 0, 0, 0, 0);
        resolves(AMBIGUOUS, 1, 0, 0, 0, 0, 0, 0, 0, 0, 0, 0, 0, 0, 0, 1);
        resolves(UNSATISFIED, -1, -1, -1, -1, -1, -1, -1, -1, -1, -1, -1, -1, -1, -1, -1, -1);
    }

    private static void resolves(int want, int... choices) {
        Counted x = new Counted();
        for (int choice : choices) {
            x.manage(ROOT, 0, 0, choice);
        }
        due(x.resolve(ROOT, 0), want);
        due(x.resolve(ROOT, -1), want);
        due(x.deploy(), 0);
        due(x.obtain(0, ROOT, 0), want < 0 ? want : 1);
    }

    private static void resolvingToEachBean() {
        sentence("It resolves to a bean when narrowing the candidates leaves exactly that one");
        for (int selected = 0; selected < 16; selected++) {
            Counted x = new Counted();
            for (int bean = 0; bean < 16; bean++) {
                x.manage(ROOT, mark(bean), bean % 3, bean == selected ? 1 : 0);
            }
            due(x.resolve(ROOT, -1), selected);
            for (int bean = 0; bean < 16; bean++) {
                due(x.resolve(ROOT, mark(bean)), bean);
            }
        }
    }

    private static void resolvingWhileRunning() {
        sentence("among the beans that are there now, while building as while running");
        Counted x = new Counted();
        plain(x);
        due(x.resolve(2, 0), UNSATISFIED);
        x.manage(2, 0, 0, 0);
        due(x.resolve(2, 0), 0);
        due(x.deploy(), 0);
        due(x.resolve(2, 0), 0);
        due(x.candidates(2, 0), 1);
        due(x.resolve(2, 64), UNSATISFIED);
        due(x.resolve(3, 0), BAD);
        due(x.resolve(2, -2), BAD);
        due(x.candidates(3, 0), BAD);
        due(x.candidates(2, -2), BAD);
        due(x.manage(2, 0, 0, 1), CLOSED);
        due(x.resolve(2, 0), 0);
        due(x.shutdown(), 0);
        due(x.manage(2, 0, 0, 0), 1);
        due(x.resolve(2, 0), AMBIGUOUS);
        due(x.deploy(), 0);
        due(x.resolve(2, 0), AMBIGUOUS);
    }
}
