/**
 * The sentences that say what things are, and name no boundary: each word that the document
 * explains is shown by ordinary calls. (The boundary tests have the other sentences.)
 */
public final class SentenceTests extends Checks {
    public static void main(String[] args) {
        numberedClasses();
        genericOrNot();
        parentsAreTypes();
        lowestDigitFirst();
        threeSortsOfCodes();
        whatParentsBecome();
        bothHaveArguments();
        fiveOctalDigits();
        plainAndLooseKinds();
        whatABeanHas();
        productsAndHomes();
        buildingAtFirst();
        problemsAndJudging();
        theConstants();
        resolvingAsSaid();
        lookingUp();
        callsToWhatWasInjected();
        finish();
    }

    private static void numberedClasses() {
        sentence("CLASSES are numbered.");
        Counted x = new Counted();
        due(plain(x), 2);
        due(generic(x), 3);
        due(closed(x), 4);
        due(x.manage(2, 0, DEPENDENT, 0), 0);
        due(x.manage(4, 0, DEPENDENT, 0), 1);
        due(x.resolve(2, 0), 0);
        due(x.resolve(4, 0), 1);

        sentence("Declares the next class; first and second are its parents:");
        due(x.declare(2, code(3, 2), false, false), 5);
        due(x.manage(5, 64, DEPENDENT, 0), 2);
        due(x.types(2), 4);
        due(x.fits(2, 2), 1);
        due(x.fits(code(3, 2), 2), 1);
        due(x.fits(5, 0), 0);
        due(x.fits(4, 2), 0);
        due(x.declare(code(3, 2), 2, false, false), 6);
        due(x.manage(6, 128, DEPENDENT, 0), 3);
        due(x.types(3), 4);
        due(x.fits(2, 3), 1);
        due(x.fits(code(3, 2), 3), 1);
        due(x.fits(5, 3), 0);
        sentence("each a parent code, or 0 for none (both may be the same code). Answers its number.");
        due(x.declare(2, 2, false, false), 7);
        due(x.declare(5, 5, false, false), 8);
        due(x.manage(8, 192, DEPENDENT, 0), 4);
        due(x.types(4), 5);
    }

    private static void genericOrNot() {
        sentence("A class is GENERIC (it has one variable) or not;");
        Counted x = new Counted();
        due(generic(x), 2);
        due(plain(x), 3);
        due(x.produce(-1, code(2, 3), 0, DEPENDENT, 0), 0);
        due(x.produce(-1, code(2, VARIABLE), 0, DEPENDENT, 0), 1);
        due(x.produce(-1, code(3, 3), 0, DEPENDENT, 0), BAD);
        due(x.produce(-1, code(3, VARIABLE), 0, DEPENDENT, 0), BAD);
        // One variable: behind an argument that is whole no second one stands.
        due(x.produce(-1, code(2, 3, 3), 0, DEPENDENT, 0), BAD);
        due(x.produce(-1, code(2, VARIABLE, VARIABLE), 0, DEPENDENT, 0), BAD);
        due(x.manage(2, 0, DEPENDENT, 0), 2);
        due(x.fits(code(2, 2, 3), 2), 1);
        due(x.manage(3, 0, DEPENDENT, 0), 3);
        due(x.fits(3, 3), 1);
    }

    private static void parentsAreTypes() {
        sentence("and it has up to two PARENTS, which are types.");
        Counted x = new Counted();
        due(generic(x), 2);
        due(plain(x), 3);
        due(plain(x), 4);
        due(x.declare(code(2, 3), 0, false, false), 5);
        due(x.declare(code(2, 3), code(2, 4), false, false), 6);
        due(x.declare(code(2, 2, 3), 4, false, false), 7);
        due(x.manage(5, 0, DEPENDENT, 0), 0);
        due(x.manage(6, 0, DEPENDENT, 0), 1);
        due(x.manage(7, 0, DEPENDENT, 0), 2);
        due(x.types(0), 3);
        due(x.types(1), 4);
        due(x.types(2), 4);
        int[] required = {code(2, 3), code(2, 4), code(2, 2, 3), 4, 2};
        int[][] due = {{1, 0, 0, 0, 0}, {1, 1, 0, 0, 0}, {0, 0, 1, 1, 0}};
        for (int bean = 0; bean < due.length; bean++) {
            for (int i = 0; i < required.length; i++) {
                due(x.fits(required[i], bean), due[bean][i]);
            }
        }
    }

    private static void lowestDigitFirst() {
        sentence("TYPES are written as codes: the digits of a number in base 32, the lowest digit first, up to the "
                + "highest digit that is not 0.");
        Counted x = new Counted();
        due(generic(x), 2);
        due(generic(x), 3);
        due(plain(x), 4);
        due(x.produce(-1, 2 + 32 * (3 + 32 * 4), 0, DEPENDENT, 0), 0);
        due(x.produce(-1, 3 + 32 * (2 + 32 * 4), 0, DEPENDENT, 0), 1);
        due(x.produce(-1, 4 + 32 * (3 + 32 * 2), 0, DEPENDENT, 0), BAD);
        due(x.resolve(2 + 32 * 3 + 1024 * 4, 0), 0);
        due(x.resolve(3 + 32 * 2 + 1024 * 4, 0), 1);
        due(x.resolve(2 + 32 * (3 + 32 * 30), 0), 0);
        due(x.resolve(2 + 32 * 30, 0), 0);
        due(x.resolve(3 + 32 * 30, 0), 1);
        due(x.fits(2, 0), 0);
        due(x.fits(2 + 32 * 3, 0), 0);
        due(x.fits(4, 0), 0);
        due(x.fits(4 + 32 * 3, 0), BAD);
    }

    private static void threeSortsOfCodes() {
        sentence("Three sorts of codes are taken.");
        // With 2 generic, 3 not: whether a generic class takes it as a parent, one that is not
        // generic does, a product is of it, it is required.
        int[][] codes = {
            {3, 1, 1, 1, 1},
            {2, 1, 1, 1, 1},
            {ROOT, 0, 0, 1, 1},
            {4, 0, 0, 1, 1},
            {code(2, 3), 1, 1, 1, 1},
            {code(2, ROOT), 1, 1, 1, 1},
            {code(2, 4), 1, 1, 1, 1},
            {code(2, VARIABLE), 1, 0, 1, 0},
            {code(2, ANYTHING), 0, 0, 0, 1},
            {code(2, KIND_OF, 3), 0, 0, 0, 1},
            {code(2, 2, 3), 1, 1, 1, 1},
            {code(2, 2, VARIABLE), 1, 0, 1, 0},
            {code(2, 2, ANYTHING), 0, 0, 0, 1},
            {code(2, 2, 2, 3), 0, 0, 1, 1},
            {code(2, 2, 2, VARIABLE), 0, 0, 1, 0},
            {code(2, 2, KIND_OF, 3), 0, 0, 0, 1},
            {code(2, 2, 2, 2, 3), 0, 0, 0, 1},
            {code(2, 2, 2, 2, VARIABLE), 0, 0, 0, 0},
            {code(2, 2, 2, 2, 2, 3), 0, 0, 0, 1},
            {code(2, KIND_OF, 2, KIND_OF, 2, ANYTHING), 0, 0, 0, 1},
            {KIND_OF, 0, 0, 0, 0},
            {ANYTHING, 0, 0, 0, 0},
            {VARIABLE, 0, 0, 0, 0},
        };
        for (int[] row : codes) {
            due(twoThreeFour().declare(row[0], 0, true, false), row[1] == 1 ? 5 : BAD);
            due(twoThreeFour().declare(0, row[0], true, false), row[1] == 1 ? 5 : BAD);
            due(twoThreeFour().declare(row[0], 0, false, false), row[2] == 1 ? 5 : BAD);
            due(twoThreeFour().declare(0, row[0], false, false), row[2] == 1 ? 5 : BAD);
            due(twoThreeFour().produce(-1, row[0], 0, DEPENDENT, 0), row[3] == 1 ? 0 : BAD);
            Counted x = twoThreeFour();
            due(x.candidates(row[0], 0), row[4] == 1 ? 0 : BAD);
            due(x.manage(ROOT, 0, DEPENDENT, 0), 0);
            due(x.fits(row[0], 0), row[4] == 0 ? BAD : row[0] == ROOT ? 1 : 0);
            due(x.inject(0, row[0], 0), row[4] == 1 ? 0 : BAD);
        }
    }

    /** Classes 2, generic, 3, and 4, closed. */
    private static Counted twoThreeFour() {
        Counted x = new Counted();
        generic(x);
        plain(x);
        closed(x);
        return x;
    }

    private static void whatParentsBecome() {
        Counted x = new Counted();
        due(generic(x), 2);
        due(plain(x), 3);
        due(x.declare(code(2, VARIABLE), 0, true, false), 4);
        due(x.declare(code(2, 2, VARIABLE), code(2, 3), true, false), 5);
        due(x.declare(2, 3, true, false), 6);

        sentence("What P becomes: when the head is generic and X is raw, the head of P alone, without argument");
        due(x.produce(-1, 4, 0, DEPENDENT, 0), 0);
        due(x.produce(-1, 5, 0, DEPENDENT, 0), 1);
        for (int bean = 0; bean <= 1; bean++) {
            due(x.types(bean), 3);
            due(x.fits(2, bean), 1);
            due(x.fits(code(2, ROOT), bean), 1);
            due(x.fits(code(2, 3), bean), 0);
            due(x.fits(code(2, 2, ROOT), bean), 0);
            due(x.fits(code(2, ANYTHING), bean), 0);
        }

        sentence("otherwise P with X's argument in the place of the VARIABLE, if P has it");
        due(x.produce(-1, code(4, 3), 0, DEPENDENT, 0), 2);
        due(x.types(2), 3);
        due(x.fits(code(2, 3), 2), 1);
        due(x.fits(code(2, ROOT), 2), 0);
        due(x.fits(2, 2), 0);
        due(x.produce(-1, code(5, ROOT), 0, DEPENDENT, 0), 3);
        due(x.types(3), 4);
        due(x.fits(code(2, 2, ROOT), 3), 1);
        due(x.fits(code(2, 2, 3), 3), 0);
        due(x.fits(code(2, 3), 3), 1);
        due(x.fits(code(2, ROOT), 3), 0);
        due(x.produce(-1, code(6, 3), 0, DEPENDENT, 0), 4);
        due(x.types(4), 4);
        due(x.fits(2, 4), 1);
        due(x.fits(3, 4), 1);
        due(x.fits(code(2, 3), 4), 0);

        sentence("(X's argument may itself be or contain the VARIABLE)");
        due(x.produce(-1, code(5, VARIABLE), 0, DEPENDENT, 0), 5);
        due(x.fits(code(2, 2, 3), 5), 1);
        due(x.fits(code(2, 2, 2, 3), 5), 1);
        due(x.produce(-1, code(5, 2, VARIABLE), 0, DEPENDENT, 0), 6);
        due(x.fits(code(2, 2, 3), 6), 0);
        due(x.fits(code(2, 2, 2, 3), 6), 1);
    }

    private static void bothHaveArguments() {
        sentence("or both have one, r and b, and: b is the VARIABLE, or r is ANYTHING, or r is KIND OF u and u is met by "
                + "some supertype of b, or r is a type that is met by b.");
        Counted x = new Counted();
        due(generic(x), 2);
        due(plain(x), 3);
        due(x.declare(3, 0, false, false), 4);
        due(x.declare(code(2, VARIABLE), 0, true, false), 5);
        int[] given = {
            code(2, VARIABLE), code(2, ROOT), code(2, 3), code(2, 4), code(2, 2, 3), code(2, 5, 4), code(2, 5, VARIABLE),
        };
        for (int i = 0; i < given.length; i++) {
            due(x.produce(-1, given[i], 0, DEPENDENT, 0), i);
        }
        int[][] required = {
            {code(2, ANYTHING), 1, 1, 1, 1, 1, 1, 1},
            {code(2, ROOT), 1, 1, 0, 0, 0, 0, 0},
            {code(2, 3), 1, 0, 1, 0, 0, 0, 0},
            {code(2, 4), 1, 0, 0, 1, 0, 0, 0},
            {code(2, KIND_OF, ROOT), 1, 1, 1, 1, 1, 1, 1},
            {code(2, KIND_OF, 3), 1, 0, 1, 1, 0, 0, 0},
            {code(2, KIND_OF, 4), 1, 0, 0, 1, 0, 0, 0},
            {code(2, 2, 3), 1, 0, 0, 0, 1, 0, 0},
            {code(2, 2, ANYTHING), 1, 0, 0, 0, 1, 0, 0},
            {code(2, 5, ANYTHING), 1, 0, 0, 0, 0, 1, 1},
            {code(2, 5, 4), 1, 0, 0, 0, 0, 1, 1},
            {code(2, 5, 3), 1, 0, 0, 0, 0, 0, 1},
            {code(2, 5), 1, 0, 0, 0, 0, 0, 1},
            {code(2, KIND_OF, 2, ANYTHING), 1, 0, 0, 0, 1, 1, 1},
            {code(2, KIND_OF, 2, 4), 1, 0, 0, 0, 0, 1, 1},
            {code(2, KIND_OF, 2, KIND_OF, 3), 1, 0, 0, 0, 1, 1, 1},
            {code(2, KIND_OF, 2), 1, 0, 0, 0, 0, 0, 1},
        };
        for (int[] row : required) {
            for (int bean = 0; bean < given.length; bean++) {
                due(x.fits(row[0], bean), row[bean + 1]);
            }
        }
    }

    private static void fiveOctalDigits() {
        sentence("MARKS are written as numbers 0 .. 32767: five octal digits, those of the kinds 0 (the lowest) to 4.");
        int[] weight = {1, 8, 64, 512, 4096};
        for (int kind = 0; kind < weight.length; kind++) {
            for (int value = 1; value <= (kind == 1 ? 1 : 7); value++) {
                Counted x = new Counted();
                due(x.manage(ROOT, value * weight[kind], DEPENDENT, 0), 0);
                for (int other = 0; other < weight.length; other++) {
                    // A NAME alone leaves room for DEFAULT, which the bean gets.
                    boolean carried = other == kind || (kind == 0 && other == 1);
                    int asked = other == kind ? value : 1;
                    due(x.candidates(ROOT, asked * weight[other]), carried ? 1 : 0);
                }
                due(x.candidates(ROOT, -1), 1);
            }
        }
        Counted x = new Counted();
        due(x.manage(ROOT, 5 + 8 + 6 * 64 + 512 + 2 * 4096, DEPENDENT, 0), 0);
        due(x.resolve(ROOT, 5 + 8 + 6 * 64 + 512 + 2 * 4096), 0);
        due(x.resolve(ROOT, 5), 0);
        due(x.resolve(ROOT, 8 + 512), 0);
        due(x.resolve(ROOT, 6 + 8), UNSATISFIED);
        due(x.resolve(ROOT, 2 * 512), UNSATISFIED);
    }

    private static void plainAndLooseKinds() {
        sentence("kinds 2 and 3 are plain; kind 4 is LOOSE: its value is never compared.");
        for (int have = 1; have <= 7; have++) {
            Counted x = new Counted();
            due(x.manage(ROOT, have * 64, DEPENDENT, 0), 0);
            due(x.manage(ROOT, have * 512, DEPENDENT, 0), 1);
            due(x.manage(ROOT, have * 4096, DEPENDENT, 0), 2);
            for (int ask = 1; ask <= 7; ask++) {
                due(x.resolve(ROOT, ask * 64), ask == have ? 0 : UNSATISFIED);
                due(x.resolve(ROOT, ask * 512), ask == have ? 1 : UNSATISFIED);
                due(x.resolve(ROOT, ask * 4096), 2);
                due(x.resolve(ROOT, ask * 4096 + have * 64), UNSATISFIED);
            }
        }
    }

    private static void whatABeanHas() {
        sentence("A bean has a type, marks, a scope and a CHOICE.");
        Counted x = new Counted();
        due(plain(x), 2);
        due(plain(x), 3);
        due(x.manage(2, 64, DEPENDENT, 0), 0);
        due(x.manage(3, 64, DEPENDENT, 0), 1);
        due(x.manage(2, 128, DEPENDENT, 0), 2);
        due(x.manage(2, 192, APPLICATION, 0), 3);
        due(x.manage(2, 256, DEPENDENT, -1), 4);
        due(x.manage(2, 320, DEPENDENT, 0), 5);
        due(x.manage(2, 320, DEPENDENT, 1), 6);
        due(x.resolve(2, 64), 0);
        due(x.resolve(3, 64), 1);
        due(x.resolve(2, 128), 2);
        due(x.resolve(2, 192), 3);
        due(x.resolve(2, 256), UNSATISFIED);
        due(x.resolve(2, 320), 6);
        due(x.deploy(), 0);
        due(x.obtain(0, 2, 128), 1);
        due(x.obtain(0, 2, 128), 2);
        due(x.obtain(0, 2, 192), 3);
        due(x.obtain(0, 2, 192), 3);
        sentence("Adds a managed bean of the class with the number which (a declared one, or the ROOT). Answers its number.");
        due(x.shutdown(), 3);
        due(x.manage(ROOT, 384, DEPENDENT, 0), 7);
        due(x.types(7), 1);
        due(x.fits(2, 7), 0);
        due(x.manage(3, 384, DEPENDENT, 0), 8);
        due(x.types(8), 2);
        due(x.fits(3, 8), 1);
        due(x.fits(2, 8), 0);
    }

    private static void productsAndHomes() {
        sentence("A PRODUCT is made by another bean, its HOME (a managed bean of scope DEPENDENT), or by none.");
        Counted x = new Counted();
        due(plain(x), 2);
        due(plain(x), 3);
        due(x.manage(2, 64, DEPENDENT, 0), 0);
        due(x.manage(2, 128, REQUEST, 0), 1);
        due(x.produce(0, 3, 64, DEPENDENT, 0), 2);
        due(x.produce(-1, 3, 128, DEPENDENT, 0), 3);
        due(x.produce(1, 3, 192, DEPENDENT, 0), BAD);
        due(x.produce(2, 3, 192, DEPENDENT, 0), BAD);
        due(x.deploy(), 0);
        due(x.cost(2), 2);
        due(x.cost(3), 1);
        due(x.obtain(0, 3, 64), 2);
        due(x.obtain(0, 3, 128), 3);
        order(x, 1);
        due(x.live(), 2);
        sentence("Adds a product with a product code as its type; home is a bean, or -1 for none. Answers its number.");
        due(x.shutdown(), 2);
        due(x.produce(0, 2, 192, DEPENDENT, 0), 4);
        due(x.produce(-1, ROOT, 192, DEPENDENT, 0), 5);
        due(x.types(4), 2);
        due(x.fits(2, 4), 1);
        due(x.types(5), 1);
        due(x.fits(2, 5), 0);
        due(x.resolve(2, 192), 4);
    }

    private static void buildingAtFirst() {
        sentence("The container is building at first.");
        Counted x = new Counted();
        due(x.shutdown(), CLOSED);
        due(x.obtain(0, ROOT, -1), CLOSED);
        sentence("Classes, beans and injection points can be added while it is building; instances are made while it is "
                + "running.");
        due(plain(x), 2);
        due(x.manage(2, 0, DEPENDENT, 0), 0);
        due(x.produce(-1, 2, 64, APPLICATION, 0), 1);
        due(x.inject(0, 2, 64), 0);
        due(x.obtain(0, 2, 0), CLOSED);
        due(x.call(0, 1, 0), CLOSED);
        due(x.live(), 0);
        due(x.deploy(), 0);
        due(plain(x), CLOSED);
        due(x.manage(2, 0, DEPENDENT, 0), CLOSED);
        due(x.produce(-1, 2, 0, DEPENDENT, 0), CLOSED);
        due(x.inject(0, 2, 0), CLOSED);
        due(x.obtain(0, 2, 0), 1);
        due(x.call(0, 1, 0), 2);
        due(x.live(), 2);
        due(x.shutdown(), 2);
        sentence("Adds the next injection point to a bean. Answers its number within the bean.");
        due(x.inject(0, ROOT, 64), 1);
        due(x.inject(1, 2, 64), 0);
        due(x.inject(0, 2, 64), 2);
        due(x.inject(1, 2, 64), 1);
        due(x.deploy(), 0);
        due(x.obtain(0, 2, 0), 3);
        due(x.call(0, 3, 2), 4);
        due(x.call(0, 4, 1), 4);
        due(x.call(0, 4, 2), BAD);
        due(plain(x), CLOSED);
    }

    private static void problemsAndJudging() {
        sentence("Judges the deployment: the sum of the numbers of those problems that are present (each once).");
        Counted x = new Counted();
        due(x.deploy(), 0);
        due(x.shutdown(), 0);
        due(closed(x), 2);
        due(generic(x), 3);
        due(x.manage(3, 64, REQUEST, 0), 0);
        due(x.deploy(), 1);
        due(x.manage(2, 128, DEPENDENT, 0), 1);
        due(x.inject(1, ROOT, 192), 0);
        due(x.deploy(), 1 + 2);
        due(x.inject(1, ROOT, -1), 1);
        due(x.deploy(), 1 + 2 + 4);
        due(x.manage(2, 256, APPLICATION, 0), 2);
        due(x.inject(2, 2, 256), 0);
        due(x.deploy(), 1 + 2 + 4 + 8);
        due(x.inject(1, 2, 128), 2);
        due(x.deploy(), 1 + 2 + 4 + 8 + 16);
        due(x.manage(ROOT, 320 + 7, DEPENDENT, 0), 3);
        due(x.deploy(), 1 + 2 + 4 + 8 + 16);
        due(x.manage(ROOT, 384 + 7, DEPENDENT, 0), 4);
        due(x.deploy(), 1 + 2 + 4 + 8 + 16 + 32);
    }

    private static void theConstants() {
        Counted x = new Counted();
        sentence("BAD = -1: An argument is not as said, or what it names does not exist.");
        due(x.manage(2, 0, DEPENDENT, 0), WiringContainer.BAD);
        due(x.manage(ROOT, 0, 3, 0), WiringContainer.BAD);
        due(x.types(0), WiringContainer.BAD);
        due("BAD", WiringContainer.BAD, -1);

        sentence("CLOSED = -3: The container is running where it should be building, or building where it should be "
                + "running.");
        due(x.shutdown(), WiringContainer.CLOSED);
        due(x.manage(ROOT, 64, DEPENDENT, 0), 0);
        due(closed(x), 2);
        due(x.manage(2, 128, APPLICATION, 0), 1);
        due(x.manage(ROOT, 192, REQUEST, 0), 2);
        due(x.inject(0, ROOT, 192), 0);
        due(x.deploy(), 0);
        due(x.deploy(), WiringContainer.CLOSED);
        due("CLOSED", WiringContainer.CLOSED, -3);

        sentence("UNSATISFIED = -4: There are no candidates.");
        due(x.candidates(ROOT, 256), 0);
        due(x.resolve(ROOT, 256), WiringContainer.UNSATISFIED);
        due("UNSATISFIED", WiringContainer.UNSATISFIED, -4);

        sentence("AMBIGUOUS = -5: Candidates there are, but narrowing does not leave one alone.");
        due(x.candidates(ROOT, -1), 3);
        due(x.resolve(ROOT, -1), WiringContainer.AMBIGUOUS);
        due("AMBIGUOUS", WiringContainer.AMBIGUOUS, -5);

        sentence("UNPROXYABLE = -6: No proxy can stand for the required type.");
        due(x.obtain(0, 2, 128), WiringContainer.UNPROXYABLE);
        due("UNPROXYABLE", WiringContainer.UNPROXYABLE, -6);

        sentence("GONE = -8: No living instance has that number.");
        due(x.beanOf(1), WiringContainer.GONE);
        due(x.obtain(0, ROOT, 64), 1);
        due(x.beanOf(1), 0);
        due("GONE", WiringContainer.GONE, -8);

        sentence("INACTIVE = -7: The context is not active on the thread.");
        due(x.call(0, 1, 0), WiringContainer.INACTIVE);
        due(x.begin(1), true);
        due(x.call(0, 1, 0), WiringContainer.INACTIVE);
        due(x.call(1, 1, 0), 2);
        due("INACTIVE", WiringContainer.INACTIVE, -7);

        sentence("FULL = -2: No more can be added or made.");
        for (int i = 3; i <= 200; i++) {
            due(x.obtain(0, ROOT, 64), i);
        }
        due(x.obtain(0, ROOT, 64), WiringContainer.FULL);
        due(x.shutdown(), 200);
        for (int i = 3; i <= 13; i++) {
            due(plain(x), i);
        }
        due(plain(x), WiringContainer.FULL);
        due("FULL", WiringContainer.FULL, -2);
    }

    private static void resolvingAsSaid() {
        sentence("RESOLVING a required code with required marks. The CANDIDATES are the enabled beans that have a supertype "
                + "of their type by which the required type is met, and that carry the marks.");
        Counted x = new Counted();
        due(plain(x), 2);
        due(x.declare(2, 0, false, false), 3);
        due(x.manage(3, 64, DEPENDENT, 0), 0);
        due(x.manage(3, 64, DEPENDENT, -1), 1);
        due(x.manage(ROOT, 64, DEPENDENT, 0), 2);
        due(x.manage(3, 128, DEPENDENT, 0), 3);
        due(x.candidates(2, 64), 1);
        due(x.resolve(2, 64), 0);
        sentence("How many candidates there are for a required code and required marks (before narrowing).");
        due(x.candidates(2, -1), 2);
        due(x.candidates(ROOT, 64), 2);
        due(x.candidates(ROOT, -1), 3);
        due(x.manage(2, 64, DEPENDENT, 4), 4);
        due(x.candidates(2, 64), 2);
        sentence("BAD when type is not a required code or marks are not required marks.");
        int[][] wrong = {{4, 64}, {0, 64}, {-2, 64}, {code(2, 3), 64}, {2, -2}, {2, 32768}, {2, 16}, {4, -2}};
        for (int[] row : wrong) {
            due(x.candidates(row[0], row[1]), BAD);
            due(x.resolve(row[0], row[1]), BAD);
        }
        sentence("The bean to which a required code with required marks resolves, among the beans that are there now");
        due(x.resolve(2, 64), 4);
        due(x.resolve(3, 64), 0);
        due(x.resolve(2, 128), 3);
        due(x.resolve(ROOT, -1), 4);
    }

    private static void lookingUp() {
        sentence("Looks up a bean for a required code and required marks, on a thread, and answers the number of an "
                + "instance:");
        Counted x = new Counted();
        due(plain(x), 2);
        due(x.declare(2, 0, false, false), 3);
        due(x.manage(3, 64, DEPENDENT, 0), 0);
        due(x.manage(3, 128, REQUEST, 0), 1);
        due(x.manage(3, 192, APPLICATION, 0), 2);
        due(x.deploy(), 0);
        due(x.begin(0), true);
        due(x.begin(2), true);
        due(x.obtain(0, 2, 128), 1);
        due(x.obtain(2, 2, 128), 2);
        due(x.obtain(1, 2, 128), INACTIVE);
        due(x.obtain(1, 2, 192), 3);
        due(x.obtain(2, 3, 192), 3);
        due(x.obtain(1, 2, 64), 4);
        due(x.obtain(1, 3, 64), 5);
        due(x.obtain(0, ROOT, 128), 1);
        sentence("The bean of a living instance;");
        int[] bean = {1, 1, 2, 0, 0};
        for (int i = 0; i < bean.length; i++) {
            due(x.beanOf(i + 1), bean[i]);
            due(x.owner(i + 1), 0);
        }
    }

    private static void callsToWhatWasInjected() {
        sentence("A call, on a thread, from a living instance to what was injected at one of the injection points of its "
                + "bean; answers the number of the instance on which the call runs:");
        Counted x = new Counted();
        due(x.manage(ROOT, 64, DEPENDENT, 0), 0);
        due(x.manage(ROOT, 128, REQUEST, 0), 1);
        due(x.manage(ROOT, 192, APPLICATION, 0), 2);
        due(x.manage(ROOT, 256, DEPENDENT, 0), 3);
        due(x.inject(0, ROOT, 256), 0);
        due(x.inject(0, ROOT, 128), 1);
        due(x.inject(0, ROOT, 192), 2);
        due(x.inject(3, ROOT, 192), 0);
        due(x.deploy(), 0);
        due(x.begin(0), true);
        due(x.begin(1), true);
        due(x.obtain(2, ROOT, 64), 1);
        due(x.obtain(2, ROOT, 64), 3);
        due(x.call(2, 1, 0), 2);
        due(x.call(0, 3, 0), 4);
        due(x.call(0, 1, 1), 5);
        due(x.call(1, 1, 1), 6);
        due(x.call(0, 3, 1), 5);
        due(x.call(2, 3, 1), INACTIVE);
        due(x.call(2, 3, 2), 7);
        due(x.call(0, 2, 0), 7);
        due(x.call(1, 4, 0), 7);
        due(x.call(1, 7, 0), BAD);
        due(x.destroy(1), 2);
        due(x.call(0, 1, 1), GONE);
        due(x.call(0, 2, 0), GONE);
        due(x.call(0, 3, 1), 5);
    }
}
