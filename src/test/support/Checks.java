/** What the boundary tests share: comparing answers, and writing codes and marks. */
abstract class Checks {
    static final int BAD = -1;
    static final int FULL = -2;
    static final int CLOSED = -3;
    static final int UNSATISFIED = -4;
    static final int AMBIGUOUS = -5;
    static final int UNPROXYABLE = -6;
    static final int INACTIVE = -7;
    static final int GONE = -8;

    static final int ROOT = 1;
    static final int KIND_OF = 29;
    static final int ANYTHING = 30;
    static final int VARIABLE = 31;

    static final int DEPENDENT = 0;
    static final int REQUEST = 1;
    static final int APPLICATION = 2;

    /** Numbers that are never a bean, thread, instance, class, scope or choice. */
    static final int[] FAR_OFF = {
        Integer.MIN_VALUE, Integer.MIN_VALUE + 1, -32769, -1025, -257, -202, -101, -33,
        202, 255, 256, 257, 512, 1 << 16, 1 << 30, Integer.MAX_VALUE - 1, Integer.MAX_VALUE,
    };

    private static final int MOST_TOLD = 40;
    private static String sentence = "";
    private static int wrong = 0;
    private static int checked = 0;

    /** The sentence of the document to which the answers from here on belong. */
    static void sentence(String words) {
        sentence = words;
    }

    /** Compares the answer of the last call. */
    static void due(int got, int want) {
        due(Counted.lastCall(), got, want);
    }

    static void due(boolean got, boolean want) {
        due(Counted.lastCall(), got ? 1 : 0, want ? 1 : 0);
    }

    static void due(String what, int got, int want) {
        checked++;
        if (got != want) {
            wrong++;
            if (wrong <= MOST_TOLD) {
                System.out.println("\"" + sentence + "\": " + what + " answered " + got + ", due is " + want);
            }
        }
    }

    static void finish() {
        System.out.println(wrong == 0 ? checked + " answers are as due" : wrong + " answers are not as due");
        if (wrong != 0) {
            System.exit(1);
        }
    }

    /** The code with these digits, the lowest first. */
    static int code(int... digits) {
        int code = 0;
        for (int i = digits.length - 1; i >= 0; i--) {
            code = code * 32 + digits[i];
        }
        return code;
    }

    /** Marks that differ from bean to bean, for 0 .. 48, without NAME, DEFAULT and LOOSE. */
    static int mark(int bean) {
        return (bean % 7 + 1) * 64 + (bean / 7 + 1) * 512;
    }

    static int plain(Counted x) {
        return x.declare(0, 0, false, false);
    }

    static int generic(Counted x) {
        return x.declare(0, 0, true, false);
    }

    static int closed(Counted x) {
        return x.declare(0, 0, false, true);
    }

    /** These alone were destroyed until now, in this order. */
    static void order(Counted x, int... numbers) {
        for (int i = 0; i < numbers.length; i++) {
            due(x.destroyed(i), numbers[i]);
        }
        due(x.destroyed(numbers.length), 0);
    }
}
