/** Each promise by hand: ordinary inputs, the edges that the document names, wrong inputs. */
public final class PromiseTests {
    private static final int BAD = -1;
    private static final int FULL = -2;
    private static final int CLOSED = -3;
    private static final int UNSATISFIED = -4;
    private static final int AMBIGUOUS = -5;
    private static final int UNPROXYABLE = -6;
    private static final int INACTIVE = -7;
    private static final int GONE = -8;
    private static final int KIND_OF = 29;
    private static final int ANYTHING = 30;
    private static final int VARIABLE = 31;

    private static int wrong = 0;
    private static int checked = 0;

    private static void due(String what, int got, int want) {
        checked++;
        if (got != want) {
            wrong++;
            System.out.println(what + ": answered " + got + ", due is " + want);
        }
    }

    private static void due(String what, boolean got, boolean want) {
        due(what, got ? 1 : 0, want ? 1 : 0);
    }

    /** The code with these digits, the lowest first. */
    private static int code(int... digits) {
        int code = 0;
        for (int i = digits.length - 1; i >= 0; i--) {
            code = code * 32 + digits[i];
        }
        return code;
    }

    private static int plain(WiringContainer x) {
        return x.declare(0, 0, false, false);
    }

    private static int generic(WiringContainer x) {
        return x.declare(0, 0, true, false);
    }

    public static void main(String[] args) {
        newObject();
        declareOrder();
        declareParentCodes();
        declareLevels();
        manageArguments();
        manageRootAndFull();
        produceHomes();
        produceCodes();
        injectArguments();
        typesCounted();
        typesMostOfAll();
        fitsMeeting();
        fitsKindOf();
        fitsDeep();
        fitsRaw();
        candidatesMarks();
        candidatesEnabled();
        resolveNarrowing();
        deployOpenType();
        deployPoints();
        deployProxies();
        deployCircles();
        deployNames();
        deployAgain();
        costSums();
        costAboveHundred();
        beginAndEnd();
        endOrder();
        endSixteen();
        obtainRefusals();
        obtainScopes();
        obtainHomes();
        obtainNestedHomes();
        obtainFull();
        obtainNumbersRunOut();
        callPoints();
        callRefusals();
        destroyTrees();
        destroyHeld();
        shutdownOrder();
        shutdownThenBuild();
        queriesWhileBuilding();
        System.out.println(wrong == 0 ? checked + " answers are as due" : wrong + " answers are not as due");
        if (wrong != 0) {
            System.exit(1);
        }
    }

    // Promise 1

    private static void newObject() {
        WiringContainer x = new WiringContainer();
        due("new: shutdown", x.shutdown(), CLOSED);
        due("new: end", x.end(0), CLOSED);
        due("new: begin", x.begin(0), false);
        due("new: types", x.types(0), BAD);
        due("new: live", x.live(), 0);
        due("new: destroyed", x.destroyed(0), 0);
        due("new: beanOf", x.beanOf(1), GONE);
        due("new: class 2", x.manage(2, 0, 0, 0), BAD);
        due("new: candidates for the ROOT", x.candidates(1, -1), 0);
        due("new: candidates for class 2", x.candidates(2, -1), BAD);
        due("new: deploy", x.deploy(), 0);
        due("new: no request is active on 0", x.end(0), INACTIVE);
        due("new: no request is active on 1", x.end(1), INACTIVE);
        due("new: no request is active on 2", x.end(2), INACTIVE);
        due("new: obtain", x.obtain(0, 1, -1), UNSATISFIED);
        WiringContainer y = new WiringContainer();
        due("new: objects share nothing", plain(y), 2);
    }

    // Promise 2

    private static void declareOrder() {
        WiringContainer x = new WiringContainer();
        for (int i = 2; i <= 13; i++) {
            due("declare: number " + i, x.declare(0, 0, i % 2 == 0, i % 3 == 0), i);
        }
        due("declare: full", plain(x), FULL);
        due("declare: full comes before bad", x.declare(-5, 0, false, false), FULL);
        due("declare: deploy", x.deploy(), 0);
        due("declare: closed comes before full", plain(x), CLOSED);
        due("declare: closed comes before bad", x.declare(-5, 0, false, false), CLOSED);
        x.shutdown();
        due("declare: still full", plain(x), FULL);
        due("declare: 13 is a class", x.manage(13, 0, 0, 0), 0);
        due("declare: 14 is none", x.manage(14, 0, 0, 0), BAD);
    }

    private static void declareParentCodes() {
        WiringContainer x = new WiringContainer();
        due("parents: 2", generic(x), 2);
        due("parents: 3", plain(x), 3);
        due("parents: 4", x.declare(0, 0, true, true), 4);
        int[] bad = {
            -1, 1, 5, 14, 28, 29, 30, 31, 32, 1 << 5, Integer.MIN_VALUE, Integer.MAX_VALUE,
            code(4), code(4, 3), code(3, 2), code(3, 31), code(2, 0, 3), code(2, 29), code(2, 30),
            code(2, 29, 3), code(2, 2, 30), code(2, 2, 2, 3), code(2, 2, 2, 31), code(2, 5),
            code(2, 14), code(2, 31, 3), code(2, 3, 3), code(1, 3), code(2, 2, 3, 0, 0, 1),
        };
        for (int wrongCode : bad) {
            due("parents: first " + wrongCode, x.declare(wrongCode, 0, true, false), BAD);
            due("parents: second " + wrongCode, x.declare(0, wrongCode, true, false), BAD);
        }
        due("parents: VARIABLE without being generic", x.declare(code(2, 31), 0, false, false), BAD);
        due("parents: VARIABLE below without being generic", x.declare(0, code(2, 2, 31), false, false), BAD);
        due("parents: both bad", x.declare(-1, -1, true, false), BAD);
        due("parents: none was declared", x.manage(5, 0, 0, 0), BAD);
        due("parents: raw", x.declare(2, 0, false, false), 5);
        due("parents: argument", x.declare(code(2, 3), code(2, 2), false, false), 6);
        due("parents: three digits", x.declare(code(2, 2, 3), 0, false, false), 7);
        due("parents: VARIABLE", x.declare(code(2, 31), code(2, 2, 31), true, false), 8);
        due("parents: twice the same", x.declare(3, 3, false, false), 9);
        due("parents: second alone", x.declare(0, 3, false, false), 10);
        due("parents: ROOT as argument", x.declare(code(2, 1), 0, false, false), 11);
        due("parents: closed as argument", x.declare(code(2, 4), code(2, 4, 31), true, true), 12);
        due("parents: itself is none yet", x.declare(code(2, 13), 0, true, false), BAD);
        x.manage(10, 0, 0, 0);
        due("parents: second counts", x.types(0), 3);
    }

    private static void declareLevels() {
        WiringContainer x = new WiringContainer();
        due("levels: 0", generic(x), 2);
        due("levels: 1", x.declare(code(2, 31), 0, true, false), 3);
        due("levels: 2", x.declare(0, code(3, 31), true, false), 4);
        due("levels: 3", x.declare(2, code(4, 31), true, false), 5);
        due("levels: 4 over first", x.declare(5, 0, false, false), BAD);
        due("levels: 4 over second", x.declare(2, code(5, 2), false, false), BAD);
        due("levels: arguments don't count", x.declare(code(2, 5), code(4, 5), false, false), 6);
        due("levels: 3 again", x.declare(6, 0, false, false), BAD);
        due("levels: arguments don't count, alone", x.declare(code(2, 5), 0, false, false), 7);
        due("levels: 2 again", x.declare(7, 0, false, false), 8);
    }

    // Promise 3

    private static void manageArguments() {
        WiringContainer x = new WiringContainer();
        plain(x);
        due("manage: class 0", x.manage(0, 0, 0, 0), BAD);
        due("manage: class -1", x.manage(-1, 0, 0, 0), BAD);
        due("manage: class 3", x.manage(3, 0, 0, 0), BAD);
        due("manage: a code is no class", x.manage(34, 0, 0, 0), BAD);
        due("manage: huge class", x.manage(Integer.MAX_VALUE, 0, 0, 0), BAD);
        due("manage: marks -1", x.manage(2, -1, 0, 0), BAD);
        due("manage: marks 32768", x.manage(2, 32768, 0, 0), BAD);
        due("manage: DEFAULT 2", x.manage(2, 16, 0, 0), BAD);
        due("manage: DEFAULT 7", x.manage(2, 32767, 0, 0), BAD);
        due("manage: scope -1", x.manage(2, 0, -1, 0), BAD);
        due("manage: scope 3", x.manage(2, 0, 3, 0), BAD);
        due("manage: choice -2", x.manage(2, 0, 0, -2), BAD);
        due("manage: choice 101", x.manage(2, 0, 0, 101), BAD);
        due("manage: nothing was added", x.types(0), BAD);
        due("manage: first", x.manage(2, 32767 - 6 * 8, 2, 100), 0);
        due("manage: second", x.manage(2, 8, 1, -1), 1);
        due("manage: third", x.manage(1, 0, 0, 0), 2);
        due("manage: types", x.types(0), 2);
        due("manage: types of the ROOT", x.types(2), 1);
    }

    private static void manageRootAndFull() {
        WiringContainer x = new WiringContainer();
        for (int i = 0; i < 16; i++) {
            due("manage: bean " + i, x.manage(1, i * 64, 0, 0), i);
        }
        due("manage: full", x.manage(1, 0, 0, 0), FULL);
        due("manage: full comes before bad", x.manage(0, 0, 0, 0), FULL);
        due("produce: full", x.produce(-1, 1, 0, 0, 0), FULL);
        due("produce: full comes before bad", x.produce(-2, 1, 0, 0, 0), FULL);
        due("manage: deploy", x.deploy(), 0);
        due("manage: closed comes first", x.manage(0, 0, 0, 0), CLOSED);
        due("produce: closed comes first", x.produce(-2, 0, 0, 0, 0), CLOSED);
        due("manage: all there", x.candidates(1, -1), 16);
        WiringContainer y = new WiringContainer();
        generic(y);
        y.manage(2, 0, 0, 0);
        due("manage: a generic one has the VARIABLE", y.fits(code(2, 1), 0), 1);
        due("manage: a generic one is not raw", y.fits(code(2, ANYTHING), 0), 1);
    }

    // Promise 4

    private static void produceHomes() {
        WiringContainer x = new WiringContainer();
        plain(x);
        due("produce: no bean yet", x.produce(0, 2, 0, 0, 0), BAD);
        x.manage(2, 0, 0, 0);
        x.manage(2, 0, 1, 0);
        x.manage(2, 0, 2, 0);
        due("produce: home of its own", x.produce(0, 2, 0, 0, 0), 3);
        due("produce: no home", x.produce(-1, 2, 0, 0, 0), 4);
        due("produce: home REQUEST", x.produce(1, 2, 0, 0, 0), BAD);
        due("produce: home APPLICATION", x.produce(2, 2, 0, 0, 0), BAD);
        due("produce: home a product with home", x.produce(3, 2, 0, 0, 0), BAD);
        due("produce: home a product", x.produce(4, 2, 0, 0, 0), BAD);
        due("produce: home not there", x.produce(5, 2, 0, 0, 0), BAD);
        due("produce: home -2", x.produce(-2, 2, 0, 0, 0), BAD);
        due("produce: home 16", x.produce(16, 2, 0, 0, 0), BAD);
        due("produce: home huge", x.produce(Integer.MAX_VALUE, 2, 0, 0, 0), BAD);
        x.manage(2, 0, 0, -1);
        due("produce: a home may be not selected", x.produce(5, 2, 64, 1, 3), 6);
        due("produce: then it is not enabled", x.candidates(2, 64), 0);
        due("produce: marks -1", x.produce(-1, 2, -1, 0, 0), BAD);
        due("produce: DEFAULT 3", x.produce(-1, 2, 24, 0, 0), BAD);
        due("produce: marks too many", x.produce(-1, 2, 32768, 0, 0), BAD);
        due("produce: scope", x.produce(-1, 2, 0, 3, 0), BAD);
        due("produce: scope below", x.produce(-1, 2, 0, -1, 0), BAD);
        due("produce: choice", x.produce(-1, 2, 0, 0, 101), BAD);
        due("produce: choice below", x.produce(-1, 2, 0, 0, -2), BAD);
        due("produce: none was added", x.types(7), BAD);
    }

    private static void produceCodes() {
        WiringContainer x = new WiringContainer();
        generic(x);
        plain(x);
        x.declare(0, 0, true, true);
        int[] bad = {
            0, -1, -2, 5, 14, 29, 30, 31, 32, code(3, 3), code(1, 3), code(3, 31), code(2, 30),
            code(2, 29, 3), code(2, 29), code(2, 2, 30), code(2, 0, 3), code(2, 31, 2), code(2, 5),
            code(2, 2, 2, 2, 3), code(2, 2, 2, 2, 31), Integer.MAX_VALUE, Integer.MIN_VALUE,
        };
        for (int wrongCode : bad) {
            due("produce: type " + wrongCode, x.produce(-1, wrongCode, 0, 0, 0), BAD);
        }
        int[] good = {
            1, 2, 3, 4, code(2, 1), code(2, 3), code(2, 4), code(2, 31), code(4, 4, 31),
            code(2, 2, 2), code(2, 2, 2, 3), code(2, 2, 2, 2), code(2, 2, 2, 31), code(4, 2, 4, 1),
        };
        for (int i = 0; i < good.length; i++) {
            due("produce: type " + good[i], x.produce(-1, good[i], 0, 0, 0), i);
        }
    }

    // Promise 5

    private static void injectArguments() {
        WiringContainer x = new WiringContainer();
        generic(x);
        plain(x);
        x.declare(0, 0, true, true);
        due("inject: no bean", x.inject(0, 2, 0), BAD);
        x.manage(3, 0, 0, 0);
        due("inject: bean -1", x.inject(-1, 2, 0), BAD);
        due("inject: bean 1", x.inject(1, 2, 0), BAD);
        due("inject: bean 16", x.inject(16, 2, 0), BAD);
        int[] bad = {
            0, -1, 5, 14, 29, 30, 31, 32, code(3, 3), code(3, 30), code(1, 30), code(2, 31), code(2, 2, 31),
            code(2, 29), code(2, 29, 30), code(2, 29, 29, 3), code(2, 29, 31), code(2, 29, 3, 3),
            code(2, 30, 3), code(2, 30, 30), code(2, 0, 3), code(2, 5), code(2, 2, 2, 2, 2, 29),
            code(2, 2, 2, 2, 2, 2) + (1 << 30), code(2, 2, 2, 2, 2, 30) + (1 << 30),
            Integer.MAX_VALUE, Integer.MIN_VALUE, code(2, 3) | Integer.MIN_VALUE,
        };
        for (int wrongCode : bad) {
            due("inject: type " + wrongCode, x.inject(0, wrongCode, 0), BAD);
            due("candidates: type " + wrongCode, x.candidates(wrongCode, 0), BAD);
            due("resolve: type " + wrongCode, x.resolve(wrongCode, 0), BAD);
            due("fits: type " + wrongCode, x.fits(wrongCode, 0), BAD);
        }
        int[] badMarks = {-2, 16, 24, 56, 32768, 32767, Integer.MIN_VALUE, Integer.MAX_VALUE};
        for (int marks : badMarks) {
            due("inject: marks " + marks, x.inject(0, 2, marks), BAD);
            due("candidates: marks " + marks, x.candidates(2, marks), BAD);
            due("resolve: marks " + marks, x.resolve(2, marks), BAD);
        }
        int[] good = {
            1, 2, 3, 4, code(2, 30), code(2, 29, 3), code(2, 29, 1), code(2, 29, 2, 29, 2, 30),
            code(2, 2, 2, 2, 2, 30), code(2, 2, 2, 2, 29, 3), code(2, 2, 2, 2, 2, 3), code(4, 4, 4, 4, 4, 4),
        };
        for (int type : good) {
            due("candidates: a required code " + type, x.candidates(type, 32767 - 6 * 8), 0);
        }
        due("inject: 0", x.inject(0, code(2, 2, 2, 2, 2, 30), -1), 0);
        due("inject: 1", x.inject(0, 3, 0), 1);
        due("inject: 2", x.inject(0, 3, 32767 - 6 * 8), 2);
        due("inject: full", x.inject(0, 3, 0), FULL);
        due("inject: bad comes before full", x.inject(0, 31, 0), BAD);
        due("inject: bad marks come before full", x.inject(0, 3, 16), BAD);
        x.manage(3, 0, 0, 0);
        due("inject: numbers are the bean's own", x.inject(1, 3, 0), 0);
        WiringContainer y = new WiringContainer();
        y.manage(1, 0, 0, 0);
        y.deploy();
        due("inject: closed comes first", y.inject(9, 0, 0), CLOSED);
        due("inject: closed", y.inject(0, 1, 0), CLOSED);
        due("inject: nothing was added", y.call(0, y.obtain(0, 1, 0), 0), BAD);
    }

    // Promise 6

    private static void typesCounted() {
        WiringContainer x = new WiringContainer();
        generic(x);
        plain(x);
        x.declare(code(2, 31), 3, true, false);              // 4: 2<V>, 3
        x.declare(code(4, 2, 31), code(2, 3), true, false);  // 5: 4<2<V>>, 2<3>
        x.declare(code(2, 3), 0, false, false);              // 6: 2<3>
        x.declare(6, code(2, 3), true, false);               // 7: 6, 2<3>
        int[] types = {3, code(4, 3), 4, code(5, 3), 5, code(5, 31), 6, 7, code(7, 3), 1, code(2, 4, 3)};
        // 4 raw: 4, 2, 3, 1. 5<3>: itself, 4<2<3>>, 2<2<3>>, 3, 2<3>, 1. 5 raw: 5, 4, 2, 3, 1.
        // 7 raw: 7, 6, 2<3> over 6, 2, 1. 7<3>: itself, 6, 2<3>, 1.
        int[] counts = {2, 4, 4, 6, 5, 6, 3, 5, 4, 1, 2};
        for (int i = 0; i < types.length; i++) {
            x.produce(-1, types[i], 0, 0, i % 2 == 0 ? 0 : -1);
            due("types: of " + types[i], x.types(i), counts[i]);
        }
        due("types: -1", x.types(-1), BAD);
        due("types: the next bean", x.types(types.length), BAD);
        due("types: 16", x.types(16), BAD);
        due("types: huge", x.types(Integer.MAX_VALUE), BAD);
        due("types: deploy", x.deploy(), 0);
        due("types: while running", x.types(3), 6);
    }

    private static void typesMostOfAll() {
        WiringContainer x = new WiringContainer();
        generic(x);
        plain(x);
        x.declare(code(2, 31), code(2, 2, 31), true, false);
        x.declare(code(4, 31), code(4, 2, 31), true, false);
        x.declare(code(5, 31), code(5, 3), true, false);
        x.declare(code(5, 31), code(5, 4, 31), true, false);
        // 7<a>: 5<a>, 5<4<a>>; 4 of a, 2a, 4a, 24a; 2 of a, 2a, 22a, 4a, 24a, 224a.
        x.produce(-1, code(6, 3), 0, 0, 0);
        x.produce(-1, code(7, 3), 0, 0, 0);
        // 6<3>: 5<3>; 4<3>, 4<2<3>>; 2 of 3, 23, 223.
        due("types: 6<3>", x.types(0), 1 + 1 + 2 + 3 + 1);
        due("types: 7<3>", x.types(1), 1 + 2 + 4 + 6 + 1);
        WiringContainer y = new WiringContainer();
        generic(y);
        plain(y);
        y.declare(code(2, 31), code(2, 2, 31), true, false);
        y.declare(0, 0, true, false);
        y.declare(code(4, 31), code(4, 5, 31), true, false);
        y.declare(0, 0, true, false);
        y.declare(code(6, 31), code(6, 7, 31), true, false);
        y.produce(-1, code(8, 3), 0, 0, 0);
        // All fifteen ways are different here, and the ROOT.
        due("types: sixteen", y.types(0), 16);
    }

    // Promise 7

    private static void fitsMeeting() {
        WiringContainer x = new WiringContainer();
        generic(x);
        plain(x);
        x.declare(3, 0, false, false);
        x.manage(2, 0, 0, 0);                        // 0: 2<V>
        x.produce(-1, 2, 0, 0, 0);                   // 1: 2 raw
        x.produce(-1, code(2, 1), 0, 0, 0);          // 2: 2<ROOT>
        x.produce(-1, code(2, 4), 0, 0, -1);         // 3: 2<4>, not enabled
        x.produce(-1, code(2, 2, 31), 0, 0, 0);      // 4: 2<2<V>>
        x.produce(-1, code(2, 2), 0, 0, 0);          // 5: 2<2>
        x.manage(4, 0, 0, 0);                        // 6: 4
        int[] required = {
            1, 2, code(2, 1), code(2, 3), code(2, 4), code(2, ANYTHING), code(2, KIND_OF, 1),
            code(2, KIND_OF, 3), code(2, 2), code(2, 2, 1), code(2, 2, 3), code(2, 2, ANYTHING), 3, 4,
            code(2, KIND_OF, 2), code(2, KIND_OF, 2, 4), code(2, 2, KIND_OF, 3),
        };
        int[][] fits = {
            // 1  2 2R 23 24 2* 2k1 2k3 22 221 223 22* 3  4 2k2 2k24 22k3
            {1, 1, 1, 1, 1, 1, 1, 1, 1, 1, 1, 1, 0, 0, 1, 1, 1},
            {1, 1, 1, 0, 0, 0, 0, 0, 0, 0, 0, 0, 0, 0, 0, 0, 0},
            {1, 1, 1, 0, 0, 1, 1, 0, 0, 0, 0, 0, 0, 0, 0, 0, 0},
            {1, 0, 0, 0, 1, 1, 1, 1, 0, 0, 0, 0, 0, 0, 0, 0, 0},
            {1, 0, 0, 0, 0, 1, 1, 0, 1, 1, 1, 1, 0, 0, 1, 1, 1},
            {1, 0, 0, 0, 0, 1, 1, 0, 1, 1, 0, 0, 0, 0, 1, 0, 0},
            {1, 0, 0, 0, 0, 0, 0, 0, 0, 0, 0, 0, 1, 1, 0, 0, 0},
        };
        for (int bean = 0; bean < fits.length; bean++) {
            for (int i = 0; i < required.length; i++) {
                due("fits: " + required[i] + " by bean " + bean, x.fits(required[i], bean), fits[bean][i]);
            }
        }
        due("fits: bean -1", x.fits(1, -1), BAD);
        due("fits: bean 7", x.fits(1, 7), BAD);
        due("fits: bean 16", x.fits(1, 16), BAD);
        due("fits: type 0", x.fits(0, 0), BAD);
        due("fits: VARIABLE", x.fits(code(2, VARIABLE), 0), BAD);
    }

    private static void fitsKindOf() {
        WiringContainer x = new WiringContainer();
        generic(x);                                          // 2
        plain(x);                                            // 3
        x.declare(code(2, 31), 0, true, false);              // 4<V>: 2<V>
        x.declare(0, code(4, 2, 31), true, false);           // 5<V>: 4<2<V>>
        x.declare(3, code(5, 3), false, false);              // 6: 3, 5<3>
        x.manage(6, 0, 0, 0);
        due("kinds: 6 is a 3", x.fits(3, 0), 1);
        due("kinds: 6 is a 5<3>", x.fits(code(5, 3), 0), 1);
        due("kinds: 6 is no 5<6>", x.fits(code(5, 6), 0), 0);
        due("kinds: 6 is a 4<2<3>>", x.fits(code(4, 2, 3), 0), 1);
        due("kinds: 6 is a 2<2<3>>", x.fits(code(2, 2, 3), 0), 1);
        due("kinds: 6 is no 2<3>", x.fits(code(2, 3), 0), 0);
        due("kinds: 6 is a 2<?>", x.fits(code(2, ANYTHING), 0), 1);
        due("kinds: 6 is a 2<? 2<? 3>>", x.fits(code(2, KIND_OF, 2, KIND_OF, 3), 0), 1);
        due("kinds: 6 is no 2<? 4<?>>", x.fits(code(2, KIND_OF, 4, ANYTHING), 0), 0);
        x.produce(-1, code(2, 6), 0, 0, 0);
        due("kinds: 2<6> is a 2<? 3>", x.fits(code(2, KIND_OF, 3), 1), 1);
        due("kinds: 2<6> is a 2<? 2<2<3>>>", x.fits(code(2, KIND_OF, 2, 2, 3), 1), 1);
        due("kinds: 2<6> is a 2<? 2<? 2<3>>>", x.fits(code(2, KIND_OF, 2, KIND_OF, 2, 3), 1), 1);
        due("kinds: 2<6> is no 2<? 2<3>>", x.fits(code(2, KIND_OF, 2, 3), 1), 0);
        due("kinds: 2<6> is no 2<3>", x.fits(code(2, 3), 1), 0);
        due("kinds: 2<6> is no 2<5<3>>", x.fits(code(2, 5, 3), 1), 0);
        due("kinds: 2<6> is a 2<? 5<? 3>>", x.fits(code(2, KIND_OF, 5, KIND_OF, 3), 1), 1);
        due("kinds: 2<6> is no 2<? 2>", x.fits(code(2, KIND_OF, 2), 1), 0);
    }

    private static void fitsDeep() {
        WiringContainer x = new WiringContainer();
        generic(x);                                          // 2
        x.declare(code(2, 2, 31), 0, true, false);           // 3
        x.declare(code(3, 3, 31), 0, true, false);           // 4
        x.declare(code(4, 4, 31), 0, true, false);           // 5
        x.declare(code(2, 5, 31), 0, true, false);           // 6
        x.declare(code(6, 5, 31), 0, true, false);           // 7
        x.declare(code(7, 5, 31), 0, true, false);           // 8
        plain(x);                                            // 9
        x.produce(-1, code(8, 5, 5, 9), 0, 0, 0);
        // Over 2 5 5 5 5 5 9, then 2 2 3 4 .. of its argument, then the argument of that.
        due("deep: three kinds", x.fits(code(2, KIND_OF, 2, KIND_OF, 2, ANYTHING), 0), 1);
        due("deep: 4 below", x.fits(code(2, KIND_OF, 4, KIND_OF, 4, ANYTHING), 0), 1);
        due("deep: 3 below", x.fits(code(2, KIND_OF, 3, KIND_OF, 2, ANYTHING), 0), 1);
        due("deep: 6 is not below", x.fits(code(2, KIND_OF, 2, KIND_OF, 6, ANYTHING), 0), 0);
        due("deep: types", x.types(0), 5);
    }

    private static void fitsRaw() {
        WiringContainer x = new WiringContainer();
        generic(x);                                          // 2
        plain(x);                                            // 3
        x.declare(code(2, 3), code(2, 2, 31), true, false);  // 4<V>: 2<3>, 2<2<V>>
        x.declare(code(4, 3), 0, false, false);              // 5: 4<3>
        x.declare(5, 0, true, false);                        // 6<V>: 5
        x.produce(-1, 4, 0, 0, 0);
        due("raw: 4 is a 2", x.fits(2, 0), 1);
        due("raw: 4 is no 2<3>", x.fits(code(2, 3), 0), 0);
        due("raw: 4 is a 2<ROOT>", x.fits(code(2, 1), 0), 1);
        due("raw: 4 is no 2<?>", x.fits(code(2, ANYTHING), 0), 0);
        due("raw: 4 is no 2<? ROOT>", x.fits(code(2, KIND_OF, 1), 0), 0);
        x.produce(-1, 6, 0, 0, 0);
        due("raw: 6 is a 5 and so a 2<3>", x.fits(code(2, 3), 1), 1);
        due("raw: 6 is a 5 and so a 2<2<3>>", x.fits(code(2, 2, 3), 1), 1);
        due("raw: 6 is no 2", x.fits(2, 1), 0);
        due("raw: 6 is a 6<ROOT>", x.fits(code(6, 1), 1), 1);
    }

    // Promise 8

    private static void candidatesMarks() {
        WiringContainer x = new WiringContainer();
        plain(x);
        int[] marks = {0, 3, 8, 64, 64 + 3, 64 + 8, 128, 512, 4096, 5 * 4096, 4096 + 512};
        for (int i = 0; i < marks.length; i++) {
            x.manage(2, marks[i], i % 3, 0);
        }
        due("marks: none", x.candidates(2, -1), 11);
        due("marks: 0 is DEFAULT", x.candidates(2, 0), 4);
        due("marks: DEFAULT", x.candidates(2, 8), 4);
        due("marks: NAME 3", x.candidates(2, 3), 2);
        due("marks: NAME 3 and DEFAULT", x.candidates(2, 11), 1);
        due("marks: NAME 2", x.candidates(2, 2), 0);
        due("marks: kind 2 is 1", x.candidates(2, 64), 3);
        due("marks: kind 2 is 2", x.candidates(2, 128), 1);
        due("marks: kind 2 is 3", x.candidates(2, 192), 0);
        due("marks: kind 2 and NAME", x.candidates(2, 67), 1);
        due("marks: kind 2 and DEFAULT", x.candidates(2, 72), 1);
        due("marks: kind 3 is 1", x.candidates(2, 512), 2);
        due("marks: kind 3 is 2", x.candidates(2, 1024), 0);
        due("marks: LOOSE is not compared", x.candidates(2, 7 * 4096), 3);
        due("marks: LOOSE and kind 3", x.candidates(2, 2 * 4096 + 512), 1);
        due("marks: LOOSE and kind 3 with another value", x.candidates(2, 4096 + 1024), 0);
        due("marks: other type", x.candidates(1, 512), 2);
    }

    private static void candidatesEnabled() {
        WiringContainer x = new WiringContainer();
        plain(x);
        plain(x);
        x.manage(2, 0, 0, 0);
        x.manage(2, 0, 0, -1);
        x.produce(0, 2, 0, 0, 0);
        x.produce(0, 2, 0, 0, -1);
        x.produce(1, 2, 0, 0, 0);
        x.produce(1, 2, 0, 0, 7);
        x.manage(3, 0, 0, 9);
        due("candidates: enabled ones", x.candidates(2, 0), 2);
        due("candidates: before narrowing", x.candidates(1, 0), 3);
        due("candidates: fits without being enabled", x.fits(2, 5), 1);
    }

    // Promise 9

    private static void resolveNarrowing() {
        WiringContainer x = new WiringContainer();
        plain(x);
        plain(x);
        due("resolve: none", x.resolve(2, 0), UNSATISFIED);
        x.manage(2, 0, 0, -1);
        due("resolve: not selected", x.resolve(2, 0), UNSATISFIED);
        x.manage(2, 0, 0, 0);
        due("resolve: one", x.resolve(2, 0), 1);
        x.manage(2, 0, 1, 0);
        due("resolve: two plain ones", x.resolve(2, 0), AMBIGUOUS);
        x.manage(2, 0, 2, 1);
        due("resolve: the selected one", x.resolve(2, 0), 3);
        x.manage(2, 0, 0, 1);
        due("resolve: two of the same rank", x.resolve(2, 0), AMBIGUOUS);
        x.manage(3, 0, 0, 100);
        due("resolve: others don't narrow", x.resolve(2, 0), AMBIGUOUS);
        x.manage(3, 0, 0, 99);
        due("resolve: highest first", x.resolve(3, 0), 5);
        x.produce(5, 2, 0, 0, 0);
        due("resolve: rank of the home", x.resolve(2, 0), 7);
        x.produce(5, 2, 64, 0, 2);
        due("resolve: own choice comes before the home's", x.resolve(2, -1), 7);
        due("resolve: own choice alone", x.resolve(2, 64), 8);
        x.produce(5, 2, 64, 0, -1);
        due("resolve: not selected in spite of its home", x.resolve(2, 64), 8);
        x.produce(1, 2, 64, 0, 0);
        due("resolve: rank 0 of the home", x.resolve(2, 64), 8);
        due("resolve: the ROOT", x.resolve(1, 0), AMBIGUOUS);
        due("resolve: bean 15 of 16", fillAndResolveLast(), 15);
        WiringContainer y = new WiringContainer();
        y.manage(1, 64, 0, 100);
        y.produce(0, 1, 128, 0, 1);
        y.manage(1, 128, 0, 2);
        due("resolve: own choice 1 counts, not the home's 100", y.resolve(1, 128), 2);
        y.manage(1, 64, 0, 0);
        y.produce(3, 1, 192, 0, 0);
        y.manage(1, 192, 0, 0);
        due("resolve: a plain home gives no rank", y.resolve(1, 192), AMBIGUOUS);
        y.manage(1, 192, 0, 1);
        due("resolve: rank 1 stands above it", y.resolve(1, 192), 6);
    }

    private static int fillAndResolveLast() {
        WiringContainer x = new WiringContainer();
        for (int i = 0; i < 15; i++) {
            x.manage(1, 0, 0, i);
        }
        x.manage(1, 0, 0, 15);
        return x.resolve(1, 0);
    }

    // Promise 10

    private static void deployOpenType() {
        WiringContainer x = new WiringContainer();
        generic(x);
        x.produce(-1, code(2, 2, 31), 64, 0, 0);
        x.manage(2, 128, 2, -1);
        x.produce(-1, code(2, 2), 192, 2, 0);
        x.produce(-1, 2, 256, 1, 0);
        due("deploy: open types of no enabled normal bean", x.deploy(), 0);
        x.shutdown();
        x.produce(-1, code(2, 2, 2, 31), 320, 1, 0);
        due("deploy: open type", x.deploy(), 1);
        due("deploy: it goes on building", plain(x), 3);
        WiringContainer y = new WiringContainer();
        generic(y);
        y.manage(2, 0, 2, 5);
        y.manage(2, 0, 1, 5);
        due("deploy: counted once", y.deploy(), 1);
        WiringContainer z = new WiringContainer();
        generic(z);
        z.manage(2, 0, 0, -1);
        z.produce(0, code(2, 31), 0, 2, 0);
        due("deploy: open type below a home that is not enabled", z.deploy(), 0);
    }

    private static void deployPoints() {
        WiringContainer x = new WiringContainer();
        plain(x);
        plain(x);
        x.manage(2, 0, 0, 0);
        x.manage(2, 0, 0, -1);
        x.inject(1, 3, 0);
        due("deploy: points of a bean that is not enabled", x.deploy(), 0);
        x.shutdown();
        x.inject(0, 3, 0);
        due("deploy: unsatisfied", x.deploy(), 2);
        x.manage(3, 0, 0, 0);
        due("deploy: satisfied", x.deploy(), 0);
        x.shutdown();
        x.manage(3, 0, 1, 0);
        due("deploy: ambiguous", x.deploy(), 4);
        x.inject(0, 3, 64);
        due("deploy: both", x.deploy(), 6);
        x.inject(0, 3, 128);
        due("deploy: each once", x.deploy(), 6);
        WiringContainer y = new WiringContainer();
        plain(y);
        y.manage(1, 64, 0, -1);
        y.produce(0, 1, 64, 0, 4);
        y.inject(1, 2, 0);
        due("deploy: points below a home that is not enabled", y.deploy(), 0);
    }

    private static void deployProxies() {
        WiringContainer x = new WiringContainer();
        plain(x);
        x.declare(2, 0, true, true);
        x.produce(-1, code(3, 2), 64, 2, 0);
        x.manage(2, 128, 0, 0);
        x.inject(1, 2, 64);
        due("deploy: proxy for the open parent", x.deploy(), 0);
        x.shutdown();
        x.inject(1, code(3, ANYTHING), 64);
        due("deploy: no proxy for a closed head", x.deploy(), 8);
        WiringContainer y = new WiringContainer();
        y.declare(0, 0, false, true);
        generic(y);
        y.manage(2, 64, 0, 0);
        y.produce(-1, code(3, 2), 128, 1, 0);
        y.manage(1, 192, 1, 0);
        y.inject(2, 2, 64);
        y.inject(2, code(3, 2), 128);
        due("deploy: DEPENDENT, or closed in an argument alone", y.deploy(), 0);
        y.shutdown();
        y.produce(-1, 2, 256, 1, 0);
        y.inject(2, 2, 256);
        due("deploy: closed and REQUEST", y.deploy(), 8);
    }

    private static void deployCircles() {
        WiringContainer x = new WiringContainer();
        x.manage(1, 64, 0, 0);
        x.manage(1, 128, 0, 0);
        x.manage(1, 192, 2, 0);
        x.inject(0, 1, 128);
        x.inject(1, 1, 192);
        x.inject(2, 1, 64);
        x.inject(2, 1, 192);
        due("deploy: a circle over a normal bean is none", x.deploy(), 0);
        due("deploy: cost in it", x.cost(2), 3);
        x.shutdown();
        x.inject(1, 1, 64);
        due("deploy: circle of two", x.deploy(), 16);
        WiringContainer y = new WiringContainer();
        y.manage(1, 64, 0, 0);
        y.inject(0, 1, 64);
        due("deploy: circle of one", y.deploy(), 16);
        y.manage(1, 64, 0, 5);
        due("deploy: the circle is gone", y.deploy(), 0);
        WiringContainer z = new WiringContainer();
        z.manage(1, 64, 0, 0);
        z.produce(0, 1, 128, 0, 0);
        due("deploy: home alone", z.deploy(), 0);
        z.shutdown();
        z.inject(0, 1, 128);
        due("deploy: circle over the home", z.deploy(), 16);
        WiringContainer u = new WiringContainer();
        u.manage(1, 64, 0, 0);
        u.produce(0, 1, 128, 1, 0);
        u.inject(0, 1, 128);
        due("deploy: the home's own product in REQUEST", u.deploy(), 0);
        longCircle();
    }

    private static void longCircle() {
        WiringContainer x = new WiringContainer();
        for (int i = 0; i < 16; i++) {
            x.manage(1, (i % 7 + 1) * 64 + (i / 7 + 1) * 512, 0, 0);
        }
        for (int i = 0; i < 15; i++) {
            int to = (i * 5 + 5) % 16;
            x.inject((i * 5) % 16, 1, (to % 7 + 1) * 64 + (to / 7 + 1) * 512);
        }
        due("deploy: chain of sixteen", x.deploy(), 0);
        due("deploy: its cost", x.cost(0), 16);
        due("deploy: too dear to make", x.obtain(0, 1, 64 + 512), FULL);
        x.shutdown();
        x.inject((15 * 5) % 16, 1, 64 + 512);
        due("deploy: circle of sixteen", x.deploy(), 16);
    }

    private static void deployNames() {
        WiringContainer x = new WiringContainer();
        x.manage(1, 1, 0, 0);
        x.manage(1, 2, 0, 0);
        x.manage(1, 1, 0, -1);
        x.manage(1, 64, 0, 0);
        x.manage(1, 64, 0, 0);
        due("deploy: names apart", x.deploy(), 0);
        x.shutdown();
        x.manage(1, 2 + 64, 0, 0);
        due("deploy: name twice", x.deploy(), 32);
        x.manage(1, 2 + 128, 0, 5);
        due("deploy: narrowed", x.deploy(), 0);
        x.shutdown();
        x.manage(1, 2, 0, 5);
        due("deploy: not narrowed", x.deploy(), 32);
        WiringContainer y = new WiringContainer();
        y.manage(1, 7, 0, 0);
        y.manage(1, 7, 0, 0);
        y.manage(1, 6, 0, 100);
        due("deploy: name 7", y.deploy(), 32);
        WiringContainer z = new WiringContainer();
        generic(z);
        z.declare(0, 0, false, true);
        z.manage(2, 1, 1, 0);
        z.manage(2, 1, 1, 0);
        z.manage(3, 64, 2, 0);
        z.manage(1, 128, 0, 0);
        z.inject(3, 3, 64);
        z.inject(3, 1, 128);
        z.inject(3, 1, 192);
        z.inject(0, 2, 0);
        due("deploy: all at once", z.deploy(), 63);
    }

    private static void deployAgain() {
        WiringContainer x = new WiringContainer();
        due("deploy: empty", x.deploy(), 0);
        due("deploy: closed", x.deploy(), CLOSED);
        due("deploy: shutdown", x.shutdown(), 0);
        due("deploy: again", x.deploy(), 0);
        due("deploy: the application context is active", x.end(0), INACTIVE);
    }

    // Promise 11

    private static void costSums() {
        WiringContainer x = new WiringContainer();
        x.manage(1, 64, 0, 0);
        x.manage(1, 128, 0, 0);
        x.manage(1, 192, 1, 0);
        x.manage(1, 256, 0, -1);
        x.produce(1, 1, 320, 0, 0);
        x.inject(1, 1, 64);
        x.inject(1, 1, 64);
        x.inject(2, 1, 128);
        x.inject(2, 1, 320);
        x.inject(0, 1, 192);
        due("cost: closed", x.cost(0), CLOSED);
        due("cost: closed comes first", x.cost(-1), CLOSED);
        due("cost: deploy", x.deploy(), 0);
        due("cost: alone", x.cost(0), 1);
        due("cost: twice the same", x.cost(1), 3);
        due("cost: of a normal bean", x.cost(2), 8);
        due("cost: not enabled", x.cost(3), BAD);
        due("cost: with the home", x.cost(4), 4);
        due("cost: no such bean", x.cost(5), BAD);
        due("cost: bean -1", x.cost(-1), BAD);
        due("cost: bean 16", x.cost(16), BAD);
        x.shutdown();
        x.inject(0, 1, 192);
        x.manage(1, 384, 0, 0);
        x.inject(0, 1, 384);
        due("cost: closed again", x.cost(0), CLOSED);
        due("cost: deploy again", x.deploy(), 0);
        due("cost: reckoned anew", x.cost(1), 5);
    }

    private static void costAboveHundred() {
        WiringContainer x = new WiringContainer();
        int[] cost = new int[16];
        for (int i = 0; i < 16; i++) {
            x.manage(1, mark(i), 0, 0);
        }
        // The later beans are needed by the earlier ones.
        for (int i = 0; i < 15; i++) {
            x.inject(i, 1, mark(i + 1));
            x.inject(i, 1, mark(i + 1));
            x.inject(i, 1, mark(i + 1));
        }
        due("cost: deploy threes", x.deploy(), 0);
        due("cost: chain of sixteen", chainCost(), 16);
        cost[15] = 1;
        for (int i = 15; i >= 0; i--) {
            due("cost: of threes " + i, x.cost(i), Math.min(cost[i], 100));
            if (i > 0) {
                cost[i - 1] = Math.min(1 + 3 * cost[i], 1000);
            }
        }
        WiringContainer y = new WiringContainer();
        // 1, 4, 13, 33, 99, 100, 101
        for (int i = 0; i < 8; i++) {
            y.manage(1, mark(i), 0, 0);
        }
        int[][] needs = {{}, {0, 0, 0}, {1, 1, 1}, {2, 2, 1}, {3, 3, 3}, {3, 3, 2}, {4}, {6}};
        int[] due = {1, 4, 13, 31, 94, 76, 95, 96};
        for (int i = 0; i < needs.length; i++) {
            for (int to : needs[i]) {
                y.inject(i, 1, mark(to));
            }
        }
        y.manage(1, mark(8), 0, 0);
        y.inject(8, 1, mark(1));
        y.inject(8, 1, mark(6));
        y.manage(1, mark(9), 0, 0);
        y.inject(9, 1, mark(0));
        y.inject(9, 1, mark(0));
        y.inject(9, 1, mark(7));
        y.manage(1, mark(10), 0, 0);
        y.inject(10, 1, mark(9));
        y.manage(1, mark(11), 0, 0);
        y.inject(11, 1, mark(10));
        due("cost: deploy near hundred", y.deploy(), 0);
        for (int i = 0; i < due.length; i++) {
            due("cost: near hundred " + i, y.cost(i), due[i]);
        }
        due("cost: hundred", y.cost(8), 100);
        due("cost: 99", y.cost(9), 99);
        due("cost: 100", y.cost(10), 100);
        due("cost: 101", y.cost(11), 100);
    }

    private static int chainCost() {
        WiringContainer x = new WiringContainer();
        for (int i = 0; i < 16; i++) {
            x.manage(1, mark(i), 0, 0);
        }
        for (int i = 0; i < 15; i++) {
            x.inject(i, 1, mark(i + 1));
        }
        return x.deploy() == 0 ? x.cost(0) : -100;
    }

    /** Marks that differ from bean to bean. */
    private static int mark(int bean) {
        return (bean % 7 + 1) * 64 + (bean / 7 + 1) * 512;
    }

    // Promises 12 and 13

    private static void beginAndEnd() {
        WiringContainer x = new WiringContainer();
        x.manage(1, 0, 1, 0);
        due("begin: building", x.begin(0), false);
        due("end: building", x.end(0), CLOSED);
        due("end: closed comes first", x.end(3), CLOSED);
        x.deploy();
        due("begin: 0", x.begin(0), true);
        due("begin: again", x.begin(0), false);
        due("begin: 2", x.begin(2), true);
        due("begin: 3", x.begin(3), false);
        due("begin: -1", x.begin(-1), false);
        due("end: 3", x.end(3), BAD);
        due("end: -1", x.end(-1), BAD);
        due("end: huge", x.end(Integer.MAX_VALUE), BAD);
        due("end: not active", x.end(1), INACTIVE);
        due("end: the others are on", x.obtain(0, 1, 0), 1);
        due("end: each thread has its own", x.obtain(2, 1, 0), 2);
        due("end: 1 is not on", x.obtain(1, 1, 0), INACTIVE);
        due("begin: active, holding", x.begin(0), false);
        due("begin: it goes on holding", x.obtain(0, 1, 0), 1);
        due("end: 0", x.end(0), 1);
        due("end: 0 again", x.end(0), INACTIVE);
        due("begin: anew", x.begin(0), true);
        due("begin: it holds nothing", x.obtain(0, 1, 0), 3);
        due("end: thread 2 is untouched", x.obtain(2, 1, 0), 2);
        due("end: 0 once more", x.end(0), 1);
        due("begin: empty", x.begin(0), true);
        due("end: empty", x.end(0), 0);
        due("end: live", x.live(), 1);
    }

    private static void endOrder() {
        WiringContainer x = new WiringContainer();
        x.manage(1, 64, 1, 0);
        x.manage(1, 128, 1, 0);
        x.manage(1, 192, 1, 0);
        x.manage(1, 256, 0, 0);
        x.manage(1, 320, 2, 0);
        x.inject(1, 1, 256);
        x.inject(1, 1, 256);
        x.deploy();
        x.begin(1);
        due("end: second bean first", x.obtain(1, 1, 128), 1);
        due("end: third bean", x.obtain(1, 1, 192), 4);
        due("end: application", x.obtain(1, 1, 320), 5);
        due("end: obtained", x.obtain(1, 1, 256), 6);
        due("end: first bean last", x.obtain(1, 1, 64), 7);
        due("end: how many", x.end(1), 5);
        order("end", x, 7, 4, 1, 3, 2);
        due("end: live", x.live(), 2);
        due("end: application stays", x.beanOf(5), 4);
        due("end: obtained stays", x.beanOf(6), 3);
    }

    private static void endSixteen() {
        WiringContainer x = new WiringContainer();
        for (int i = 0; i < 16; i++) {
            x.manage(1, mark(i), 1, 0);
        }
        x.deploy();
        x.begin(2);
        for (int i = 0; i < 16; i++) {
            due("end: held " + i, x.obtain(2, 1, mark((i * 5) % 16)), i + 1);
        }
        due("end: sixteen", x.end(2), 16);
        order("end, sixteen", x, 16, 15, 14, 13, 12, 11, 10, 9, 8, 7, 6, 5, 4, 3, 2, 1);
    }

    /** These alone were destroyed, in this order. */
    private static void order(String what, WiringContainer x, int... numbers) {
        for (int i = 0; i < numbers.length; i++) {
            due(what + ": destroyed " + i, x.destroyed(i), numbers[i]);
            due(what + ": gone " + numbers[i], x.beanOf(numbers[i]), GONE);
        }
        due(what + ": no more destroyed", x.destroyed(numbers.length), 0);
    }

    // Promise 14

    private static void obtainRefusals() {
        WiringContainer x = new WiringContainer();
        plain(x);
        x.declare(2, 0, false, true);
        x.manage(3, 64, 1, 0);
        x.manage(2, 128, 0, 0);
        x.manage(3, 192, 0, 0);
        x.manage(3, 256, 2, 0);
        due("obtain: closed", x.obtain(0, 2, 64), CLOSED);
        due("obtain: closed comes first", x.obtain(9, 0, 64), CLOSED);
        x.deploy();
        due("obtain: thread 3", x.obtain(3, 2, 64), BAD);
        due("obtain: thread -1", x.obtain(-1, 2, 64), BAD);
        due("obtain: bad code", x.obtain(0, 34, 64), BAD);
        due("obtain: bad marks", x.obtain(0, 2, -2), BAD);
        due("obtain: bad DEFAULT", x.obtain(0, 2, 16), BAD);
        due("obtain: unsatisfied", x.obtain(0, 2, 0), UNSATISFIED);
        due("obtain: ambiguous", x.obtain(0, 2, -1), AMBIGUOUS);
        due("obtain: unproxyable comes before inactive", x.obtain(0, 3, 64), UNPROXYABLE);
        due("obtain: unproxyable in APPLICATION", x.obtain(0, 3, 256), UNPROXYABLE);
        due("obtain: inactive", x.obtain(0, 2, 64), INACTIVE);
        due("obtain: nothing was made", x.live(), 0);
        due("obtain: closed head of DEPENDENT", x.obtain(0, 3, 192), 1);
        due("obtain: open head of a closed bean", x.obtain(0, 2, 256), 2);
        x.begin(0);
        due("obtain: unproxyable", x.obtain(0, 3, 64), UNPROXYABLE);
        due("obtain: active", x.obtain(0, 2, 64), 3);
        due("obtain: inactive elsewhere", x.obtain(1, 2, 64), INACTIVE);
        due("obtain: unproxyable though held", x.obtain(0, 3, 64), UNPROXYABLE);
    }

    private static void obtainScopes() {
        WiringContainer x = new WiringContainer();
        x.manage(1, 64, 0, 0);
        x.manage(1, 128, 1, 0);
        x.manage(1, 192, 2, 0);
        x.deploy();
        due("obtain: DEPENDENT", x.obtain(0, 1, 64), 1);
        due("obtain: DEPENDENT again", x.obtain(0, 1, 64), 2);
        due("obtain: APPLICATION", x.obtain(1, 1, 192), 3);
        due("obtain: APPLICATION again", x.obtain(2, 1, 192), 3);
        x.begin(0);
        x.begin(1);
        due("obtain: REQUEST", x.obtain(0, 1, 128), 4);
        due("obtain: REQUEST again", x.obtain(0, 1, 128), 4);
        due("obtain: REQUEST elsewhere", x.obtain(1, 1, 128), 5);
        due("obtain: bean of 4", x.beanOf(4), 1);
        due("obtain: owner of 4", x.owner(4), 0);
        due("obtain: owner of 1", x.owner(1), 0);
        due("obtain: live", x.live(), 5);
    }

    private static void obtainHomes() {
        WiringContainer x = new WiringContainer();
        x.manage(1, 64, 0, 0);
        x.manage(1, 128, 0, 0);
        x.inject(1, 1, 64);
        x.inject(1, 1, 64);
        x.produce(1, 1, 192, 1, 0);
        x.inject(2, 1, 64);
        x.deploy();
        x.begin(0);
        due("homes: cost", x.cost(2), 5);
        due("homes: number", x.obtain(0, 1, 192), 4);
        due("homes: live", x.live(), 2);
        due("homes: owner of its part", x.owner(5), 4);
        order("homes", x, 1, 3, 2);
        due("homes: held", x.obtain(0, 1, 192), 4);
        due("homes: end", x.end(0), 2);
        order("homes, after end", x, 1, 3, 2, 4, 5);
    }

    private static void obtainNestedHomes() {
        WiringContainer x = new WiringContainer();
        x.manage(1, 64, 0, 0);                // 0: a home
        x.produce(0, 1, 128, 0, 0);           // 1: its product
        x.manage(1, 192, 0, 0);               // 2: a home that needs the product
        x.inject(2, 1, 128);
        x.produce(2, 1, 256, 0, 0);           // 3: a product of that
        x.inject(3, 1, 128);
        x.inject(3, 1, 64);
        x.deploy();
        due("nested: cost", x.cost(3), 7);
        // 1: bean 2; 2: bean 0 as a home; 3: bean 1 for 1; 4: bean 3; 5: home; 6: bean 1; 7: bean 0
        due("nested: number", x.obtain(0, 1, 256), 4);
        order("nested", x, 2, 5, 1, 3);
        due("nested: owner of 6", x.owner(6), 4);
        due("nested: bean of 6", x.beanOf(6), 1);
        due("nested: owner of 7", x.owner(7), 4);
        due("nested: bean of 7", x.beanOf(7), 0);
        due("nested: call 0", x.call(0, 4, 0), 6);
        due("nested: call 1", x.call(0, 4, 1), 7);
        due("nested: destroy", x.destroy(4), 3);
        order("nested, after destroy", x, 2, 5, 1, 3, 4, 7, 6);
    }

    private static void obtainFull() {
        WiringContainer x = new WiringContainer();
        // Bean i costs i + 1: each needs the one before.
        for (int i = 0; i < 11; i++) {
            x.manage(1, mark(i), 0, 0);
            if (i > 0) {
                x.inject(i, 1, mark(i - 1));
            }
        }
        x.manage(1, mark(11), 2, 0);
        x.inject(11, 1, mark(9));
        x.manage(1, mark(12), 1, 0);
        x.inject(12, 1, mark(8));
        x.manage(1, mark(13), 0, 0);
        x.inject(13, 1, mark(11));
        x.deploy();
        due("full: cost 10", x.cost(9), 10);
        due("full: cost 11", x.cost(10), 11);
        due("full: cost 10 is made", x.obtain(0, 1, mark(9)), 1);
        due("full: live", x.live(), 10);
        due("full: cost 11 is not", x.obtain(0, 1, mark(10)), FULL);
        due("full: nor in a context", x.obtain(0, 1, mark(11)), FULL);
        due("full: inactive comes first", x.obtain(0, 1, mark(12)), INACTIVE);
        x.begin(0);
        due("full: cost 10 in a context", x.obtain(0, 1, mark(12)), 11);
        due("full: nothing else was made", x.live(), 20);
        due("full: caller", x.obtain(0, 1, mark(13)), 21);
        due("full: call", x.call(0, 21, 0), FULL);
        due("full: destroyed in depth", x.destroy(1), 10);
        for (int i = 0; i < 10; i++) {
            due("full: destroyed " + i, x.destroyed(i), i + 1);
        }
    }

    private static void obtainNumbersRunOut() {
        WiringContainer x = new WiringContainer();
        x.manage(1, 64, 0, 0);
        x.manage(1, 128, 2, 0);
        x.inject(1, 1, 64);
        x.inject(1, 1, 64);
        x.manage(1, 192, 0, 0);
        x.inject(2, 1, 128);
        x.deploy();
        for (int i = 1; i <= 197; i++) {
            due("numbers: " + i, x.obtain(0, 1, i == 1 ? 192 : 64), i);
            if (i > 1) {
                due("numbers: destroy " + i, x.destroy(i), 1);
            }
        }
        due("numbers: three are left", x.obtain(0, 1, 128), 198);
        due("numbers: held", x.call(2, 1, 0), 198);
        due("numbers: none is left", x.obtain(0, 1, 64), FULL);
        due("numbers: destroy", x.destroy(198), 3);
        due("numbers: the context holds none", x.call(2, 1, 0), FULL);
        due("numbers: none comes again", x.obtain(0, 1, 128), FULL);
        due("numbers: last destroyed", x.destroyed(198), 199);
        due("numbers: no more destroyed", x.destroyed(199), 0);
        due("numbers: 200 is gone", x.beanOf(200), GONE);
        due("numbers: 201 never was", x.beanOf(201), GONE);
        due("numbers: shutdown", x.shutdown(), 1);
        due("numbers: the last one", x.destroyed(199), 1);
        due("numbers: beyond", x.destroyed(200), 0);
        due("numbers: deploy", x.deploy(), 0);
        due("numbers: over the whole life", x.obtain(0, 1, 64), FULL);
        WiringContainer y = new WiringContainer();
        y.manage(1, 64, 0, 0);
        y.manage(1, 128, 0, 0);
        y.inject(1, 1, 64);
        y.deploy();
        for (int i = 0; i < 199; i++) {
            y.obtain(0, 1, 64);
        }
        due("numbers: two are not left", y.obtain(0, 1, 128), FULL);
        due("numbers: one is", y.obtain(0, 1, 64), 200);
        due("numbers: bean of 200", y.beanOf(200), 0);
        due("numbers: all living", y.shutdown(), 200);
        due("numbers: latest first", y.destroyed(0), 200);
        due("numbers: first last", y.destroyed(199), 1);
    }

    // Promise 15

    private static WiringContainer callers() {
        WiringContainer x = new WiringContainer();
        x.manage(1, 64, 0, 0);
        x.manage(1, 128, 1, 0);
        x.manage(1, 192, 2, 0);
        x.manage(1, 256, 0, 0);
        x.inject(3, 1, 128);
        x.inject(3, 1, 64);
        x.inject(3, 1, 192);
        x.manage(1, 320, 0, 0);
        return x;
    }

    private static void callPoints() {
        WiringContainer x = callers();
        x.deploy();
        due("call: caller", x.obtain(0, 1, 256), 1);
        due("call: its own", x.call(0, 1, 1), 2);
        due("call: its own on another thread", x.call(2, 1, 1), 2);
        due("call: inactive", x.call(0, 1, 0), INACTIVE);
        x.begin(1);
        due("call: inactive here", x.call(0, 1, 0), INACTIVE);
        due("call: active there", x.call(1, 1, 0), 3);
        due("call: again", x.call(1, 1, 0), 3);
        due("call: obtain finds it", x.obtain(1, 1, 128), 3);
        due("call: application", x.call(2, 1, 2), 4);
        due("call: application from elsewhere", x.call(0, 1, 2), 4);
        due("call: owner of what is reached", x.owner(3), 0);
        x.begin(0);
        due("call: other request", x.call(0, 1, 0), 5);
        x.end(1);
        due("call: ended", x.call(1, 1, 0), INACTIVE);
        due("call: not ended", x.call(0, 1, 0), 5);
        due("call: second caller", x.obtain(0, 1, 256), 6);
        due("call: has a part of its own", x.call(0, 6, 1), 7);
        due("call: shares the context", x.call(0, 6, 0), 5);
    }

    private static void callRefusals() {
        WiringContainer x = callers();
        due("call: closed", x.call(0, 1, 0), CLOSED);
        due("call: closed comes first", x.call(5, 0, 7), CLOSED);
        x.deploy();
        x.obtain(0, 1, 256);
        due("call: thread 3", x.call(3, 1, 0), BAD);
        due("call: bad thread comes before gone", x.call(-1, 9, 0), BAD);
        due("call: gone", x.call(0, 3, 0), GONE);
        due("call: gone 0", x.call(0, 0, 0), GONE);
        due("call: gone -1", x.call(0, -1, 0), GONE);
        due("call: gone 201", x.call(0, 201, 0), GONE);
        due("call: gone comes before bad point", x.call(0, 3, 9), GONE);
        due("call: point 3", x.call(0, 1, 3), BAD);
        due("call: point -1", x.call(0, 1, -1), BAD);
        due("call: no point", x.call(0, 2, 0), BAD);
        due("call: bad point comes before inactive", x.call(0, 1, 4), BAD);
        x.destroy(1);
        due("call: destroyed", x.call(0, 1, 1), GONE);
        due("call: its part too", x.call(0, 2, 0), GONE);
    }

    // Promise 16

    private static void destroyTrees() {
        WiringContainer x = new WiringContainer();
        x.manage(1, 64, 0, 0);
        x.manage(1, 128, 0, 0);
        x.inject(1, 1, 64);
        x.inject(1, 1, 64);
        x.manage(1, 192, 0, 0);
        x.inject(2, 1, 128);
        x.inject(2, 1, 64);
        x.inject(2, 1, 128);
        due("destroy: closed", x.destroy(1), CLOSED);
        x.deploy();
        // 1: (2: 3, 4), 5, (6: 7, 8)
        due("destroy: obtain", x.obtain(0, 1, 192), 1);
        due("destroy: other", x.obtain(0, 1, 192), 9);
        due("destroy: owned", x.destroy(2), BAD);
        due("destroy: owned below", x.destroy(8), BAD);
        due("destroy: nothing was destroyed", x.live(), 16);
        due("destroy: gone 17", x.destroy(17), GONE);
        due("destroy: gone 0", x.destroy(0), GONE);
        due("destroy: gone -1", x.destroy(-1), GONE);
        due("destroy: gone huge", x.destroy(Integer.MAX_VALUE), GONE);
        due("destroy: owner of 3", x.owner(3), 2);
        due("destroy: owner of 6", x.owner(6), 1);
        due("destroy: 1", x.destroy(1), 8);
        order("destroy", x, 1, 6, 8, 7, 5, 2, 4, 3);
        due("destroy: again", x.destroy(1), GONE);
        due("destroy: a part of it", x.destroy(6), GONE);
        due("destroy: live", x.live(), 8);
        due("destroy: destroyed(-1)", x.destroyed(-1), 0);
        due("destroy: destroyed(huge)", x.destroyed(Integer.MAX_VALUE), 0);
        due("destroy: destroyed(smallest)", x.destroyed(Integer.MIN_VALUE), 0);
    }

    private static void destroyHeld() {
        WiringContainer x = callers();
        x.inject(1, 1, 64);
        x.deploy();
        x.begin(0);
        x.begin(1);
        due("held: 0", x.obtain(0, 1, 128), 1);
        due("held: 1", x.obtain(1, 1, 128), 3);
        due("held: application", x.obtain(0, 1, 192), 5);
        due("held: destroy", x.destroy(1), 2);
        due("held: the other is held", x.obtain(1, 1, 128), 3);
        due("held: made anew", x.obtain(0, 1, 128), 6);
        due("held: destroy application", x.destroy(5), 1);
        due("held: application anew", x.obtain(2, 1, 192), 8);
        due("held: end", x.end(0), 2);
        due("held: destroy in 1", x.destroy(3), 2);
        due("held: end 1", x.end(1), 0);
        due("held: shutdown", x.shutdown(), 1);
        order("held", x, 1, 2, 5, 6, 7, 3, 4, 8);
    }

    // Promise 17

    private static void shutdownOrder() {
        WiringContainer x = callers();
        x.inject(2, 1, 64);
        due("shutdown: closed", x.shutdown(), CLOSED);
        x.deploy();
        due("shutdown: application", x.obtain(0, 1, 192), 1);       // and 2
        due("shutdown: obtained", x.obtain(0, 1, 256), 3);          // and 4
        x.begin(2);
        x.begin(0);
        due("shutdown: request on 0", x.obtain(0, 1, 128), 5);
        due("shutdown: obtained again", x.obtain(1, 1, 64), 6);
        due("shutdown: request on 2", x.obtain(2, 1, 128), 7);
        due("shutdown: gone before", x.obtain(2, 1, 64), 8);
        due("shutdown: destroy", x.destroy(8), 1);
        due("shutdown: obtained last", x.obtain(2, 1, 256), 9);     // and 10
        due("shutdown: how many", x.shutdown(), 9);
        order("shutdown", x, 8, 5, 7, 9, 10, 6, 3, 4, 1, 2);
        due("shutdown: live", x.live(), 0);
        due("shutdown: again", x.shutdown(), CLOSED);
    }

    private static void shutdownThenBuild() {
        WiringContainer x = callers();
        x.deploy();
        x.begin(1);
        x.obtain(1, 1, 128);
        x.obtain(1, 1, 192);
        due("rebuild: shutdown", x.shutdown(), 2);
        due("rebuild: begin", x.begin(0), false);
        due("rebuild: end", x.end(1), CLOSED);
        due("rebuild: obtain", x.obtain(1, 1, 64), CLOSED);
        due("rebuild: call", x.call(1, 1, 0), CLOSED);
        due("rebuild: cost", x.cost(0), CLOSED);
        due("rebuild: destroy", x.destroy(1), CLOSED);
        due("rebuild: beans stay", x.candidates(1, -1), 5);
        due("rebuild: classes are added", plain(x), 2);
        due("rebuild: beans are added", x.manage(2, 384, 2, 0), 5);
        due("rebuild: points are added", x.inject(5, 1, 64), 0);
        due("rebuild: points stay", x.inject(3, 1, 64), FULL);
        due("rebuild: deploy", x.deploy(), 0);
        due("rebuild: no request is active", x.end(1), INACTIVE);
        due("rebuild: request anew", x.begin(1), true);
        due("rebuild: the request holds nothing", x.obtain(1, 1, 128), 3);
        due("rebuild: the application holds nothing", x.obtain(1, 1, 192), 4);
        due("rebuild: the new bean", x.obtain(0, 2, 384), 5);
        due("rebuild: its part", x.call(0, 5, 0), 6);
        due("rebuild: destroyed goes on", x.destroy(3), 1);
        order("rebuild", x, 1, 2, 3);
    }

    // Promises 18 to 21

    private static void queriesWhileBuilding() {
        WiringContainer x = callers();
        x.deploy();
        x.obtain(0, 1, 256);
        due("queries: beanOf 1", x.beanOf(1), 3);
        due("queries: beanOf 2", x.beanOf(2), 0);
        due("queries: beanOf 3", x.beanOf(3), GONE);
        due("queries: beanOf 0", x.beanOf(0), GONE);
        due("queries: beanOf -1", x.beanOf(-1), GONE);
        due("queries: beanOf 201", x.beanOf(201), GONE);
        due("queries: beanOf huge", x.beanOf(Integer.MAX_VALUE), GONE);
        due("queries: owner 1", x.owner(1), 0);
        due("queries: owner 2", x.owner(2), 1);
        due("queries: owner 3", x.owner(3), GONE);
        due("queries: owner 0", x.owner(0), GONE);
        due("queries: owner -1", x.owner(-1), GONE);
        due("queries: owner 201", x.owner(201), GONE);
        due("queries: owner smallest", x.owner(Integer.MIN_VALUE), GONE);
        due("queries: live", x.live(), 2);
        x.shutdown();
        due("queries: building, beanOf", x.beanOf(1), GONE);
        due("queries: building, owner", x.owner(2), GONE);
        due("queries: building, live", x.live(), 0);
        order("queries", x, 1, 2);
    }
}
