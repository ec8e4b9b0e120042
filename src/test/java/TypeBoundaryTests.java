import java.util.regex.Pattern;

/**
 * The sentences about classes, codes, levels, supertypes and meeting that name a boundary case
 * (the document's "Terms", and the promises 1, 2, 6 and 7).
 */
public final class TypeBoundaryTests extends Checks {
    public static void main(String[] args) {
        newObject();
        rootClass();
        classNumbers();
        lastClasses();
        closedClasses();
        upToTwoParents();
        headsAndArguments();
        argumentsOfEachForm();
        nextClassIsNoneYet();
        examples();
        parentCodes();
        productCodes();
        requiredCodes();
        requiredCodesOfOtherCalls();
        longestCodes();
        numbersThatAreNoCodes();
        levels();
        levelsCountHeadsAlone();
        supertypesOfPlainTypes();
        supertypesOfRawTypes();
        supertypesWithArguments();
        supertypesThatAreTheSame();
        mostSupertypes();
        longSupertypes();
        meeting();
        meetingArguments();
        meetingDeep();
        fitsEveryBean();
        finish();
    }

    // Promise 1

    private static void newObject() {
        sentence("Building; no class but the ROOT, no bean, no instance; no request context is active.");
        Counted x = new Counted();
        due(x.candidates(ROOT, -1), 0);
        for (int head = 2; head < 32; head++) {
            due(x.candidates(head, -1), BAD);
            due(x.manage(head, 0, 0, 0), BAD);
        }
        for (int bean = -1; bean <= 16; bean++) {
            due(x.types(bean), BAD);
        }
        due(x.shutdown(), CLOSED);
        due(x.live(), 0);
        due(x.destroyed(0), 0);
        due(x.beanOf(1), GONE);
        due(x.owner(1), GONE);
        due(x.deploy(), 0);
        for (int thread = 0; thread < 3; thread++) {
            due(x.end(thread), INACTIVE);
        }
        due(x.shutdown(), 0);
        due(x.manage(ROOT, 0, 0, 0), 0);
        due(plain(x), 2);
    }

    // Terms: CLASSES

    private static void rootClass() {
        sentence("Class 1 is the ROOT: not generic, not closed, without parents.");
        Counted x = new Counted();
        due(x.manage(ROOT, 64, APPLICATION, 0), 0);
        due(x.manage(ROOT, 128, DEPENDENT, 0), 1);
        due(x.types(0), 1);
        due(x.produce(-1, code(ROOT, ROOT), 0, 0, 0), BAD);
        due(x.produce(-1, code(ROOT, VARIABLE), 0, 0, 0), BAD);
        due(x.candidates(code(ROOT, ROOT), -1), BAD);
        due(x.candidates(code(ROOT, ANYTHING), -1), BAD);
        due(x.candidates(code(ROOT, KIND_OF, ROOT), -1), BAD);
        due(x.inject(1, ROOT, 64), 0);
        due(x.deploy(), 0);
        due(x.obtain(0, ROOT, 64), 1);
    }

    private static void classNumbers() {
        sentence("The others are declared: 2, 3, .. in this order, at most up to 13.");
        for (int sort = 0; sort < 4; sort++) {
            boolean generic = sort % 2 == 1;
            Counted x = new Counted();
            for (int number = 2; number <= 13; number++) {
                due(x.candidates(number, -1), BAD);
                due(x.manage(number, 0, 0, 0), BAD);
                due(x.declare(0, 0, generic, sort > 1), number);
                due(x.candidates(number, -1), 0);
                due(x.candidates(code(number, ROOT), -1), generic ? 0 : BAD);
            }
            sentence("FULL when class 13 is there");
            due(x.declare(0, 0, generic, sort > 1), FULL);
            due(x.declare(0, 0, !generic, sort < 2), FULL);
            due(x.candidates(14, -1), BAD);
            due(x.manage(14, 0, 0, 0), BAD);
            due(x.manage(13, 0, 0, 0), 0);
            due(x.fits(13, 0), 1);
            due(x.produce(-1, code(13, 13), 0, 0, 0), generic ? 1 : BAD);
            sentence("The others are declared: 2, 3, .. in this order, at most up to 13.");
        }
    }

    private static void lastClasses() {
        sentence("The others are declared: 2, 3, .. in this order, at most up to 13.");
        Counted x = new Counted();
        for (int number = 2; number <= 11; number++) {
            due(plain(x), number);
        }
        due(generic(x), 12);
        due(x.declare(code(12, 12, 11), code(12, VARIABLE), true, true), 13);
        due(x.produce(-1, code(13, 13, 11), 0, 0, 0), 0);
        due(x.types(0), 4);
        due(x.fits(code(12, 12, 11), 0), 1);
        due(x.fits(code(12, 13, 11), 0), 1);
        due(x.fits(code(12, KIND_OF, 12, 11), 0), 1);
        due(x.fits(code(12, KIND_OF, 13, ANYTHING), 0), 1);
        due(x.fits(code(13, KIND_OF, 12, 12, 11), 0), 1);
        due(x.fits(code(13, KIND_OF, 11), 0), 0);
    }

    private static void closedClasses() {
        sentence("it is CLOSED (it is nobody's parent, and no proxy can stand for it) or not");
        Counted x = new Counted();
        due(x.declare(0, 0, false, true), 2);
        due(x.declare(0, 0, true, true), 3);
        due(generic(x), 4);
        for (int parent : new int[] {2, 3, code(3, ROOT), code(3, VARIABLE), code(3, 4, VARIABLE), code(3, 3)}) {
            due(x.declare(parent, 0, true, false), BAD);
            due(x.declare(0, parent, true, false), BAD);
            due(x.declare(4, parent, true, true), BAD);
        }
        due(x.declare(code(4, 2), code(4, 3, VARIABLE), true, true), 5);
        due(x.declare(5, 0, false, false), BAD);
        due(x.produce(-1, 2, mark(0), REQUEST, 0), 0);
        due(x.produce(-1, code(4, 2), mark(1), REQUEST, 0), 1);
        due(x.produce(-1, code(3, ROOT), mark(2), DEPENDENT, 0), 2);
        due(x.deploy(), 0);
        due(x.begin(0), true);
        due(x.obtain(0, 2, mark(0)), UNPROXYABLE);
        due(x.obtain(0, code(4, 2), mark(1)), 1);
        due(x.obtain(0, code(3, ROOT), mark(2)), 2);
        due(x.obtain(0, ROOT, mark(0)), 3);
    }

    private static void upToTwoParents() {
        sentence("each a parent code, or 0 for none (both may be the same code)");
        Counted x = new Counted();
        due(plain(x), 2);
        due(plain(x), 3);
        due(x.declare(2, 0, false, false), 4);
        due(x.declare(0, 3, false, false), 5);
        due(x.declare(2, 3, false, false), 6);
        due(x.declare(3, 2, false, false), 7);
        due(x.declare(3, 3, false, false), 8);
        int[][] due = {{2, 1, 0, 2}, {3, 0, 1, 2}, {4, 1, 0, 3}, {5, 0, 1, 3}, {6, 1, 1, 4}, {7, 1, 1, 4}, {8, 0, 1, 3}};
        for (int i = 0; i < due.length; i++) {
            due(x.manage(due[i][0], 0, 0, 0), i);
            due(x.fits(2, i), due[i][1]);
            due(x.fits(3, i), due[i][2]);
            due(x.types(i), due[i][3]);
        }
    }

    // Terms: TYPES. Codes are written as words here, the first letter being the lowest digit:
    // R the ROOT, G generic, P neither generic nor closed, C generic and closed, U not declared,
    // K KIND OF, A ANYTHING, V the VARIABLE, 0 a digit 0.

    private static final String LETTERS = "0RGPCU";
    private static final String ALL_LETTERS = "0RGPCUKAV";
    private static final Pattern PARENT = Pattern.compile("(?=[GP])[GC]*[RGPC]");
    private static final Pattern GENERIC_PARENT = Pattern.compile("(?=[GP])[GC]*([RGPC]|[GC]V)");
    private static final Pattern PRODUCT = Pattern.compile("[GC]*([RGPC]|[GC]V)");
    private static final Pattern REQUIRED = Pattern.compile("([GC]K?)*([RGPC]|[GC]A)");

    private static Counted withSorts() {
        Counted x = new Counted();
        generic(x);
        plain(x);
        x.declare(0, 0, true, true);
        return x;
    }

    private static int digitOf(char letter) {
        return letter == 'K' ? KIND_OF : letter == 'A' ? ANYTHING : letter == 'V' ? VARIABLE : LETTERS.indexOf(letter);
    }

    private static int codeOf(String word) {
        int code = 0;
        for (int i = word.length() - 1; i >= 0; i--) {
            code = code * 32 + digitOf(word.charAt(i));
        }
        return code;
    }

    private static boolean isCode(Pattern sort, int most, String word) {
        return word.length() <= most && sort.matcher(word).matches();
    }

    /** All words of a length that are the digits of a number: no 0 stands at their end. */
    private static String[] words(String letters, int length) {
        int count = 1;
        for (int i = 0; i < length; i++) {
            count *= letters.length();
        }
        String[] all = new String[count];
        for (int n = 0; n < count; n++) {
            StringBuilder word = new StringBuilder();
            for (int i = 0, rest = n; i < length; i++, rest /= letters.length()) {
                word.append(letters.charAt(rest % letters.length()));
            }
            all[n] = word.toString();
        }
        return java.util.Arrays.stream(all).filter(w -> !w.endsWith("0")).toArray(String[]::new);
    }

    private static void parentCodes() {
        sentence("A PARENT CODE has at most 3 digits, no 29 and no 30, a 31 only when the class that is being "
                + "declared is generic; its head is neither closed nor the ROOT.");
        for (int length = 1; length <= 4; length++) {
            for (String word : words(length < 4 ? ALL_LETTERS : "RGPCV", length)) {
                for (int way = 0; way < 4; way++) {
                    parentCode(word, way % 2 == 1, way > 1);
                }
            }
        }
    }

    private static Counted forParents = withSorts();

    private static void parentCode(String word, boolean generic, boolean second) {
        boolean taken = isCode(generic ? GENERIC_PARENT : PARENT, 3, word);
        int code = codeOf(word);
        due(forParents.declare(second ? 0 : code, second ? code : 0, generic, false), taken ? 5 : BAD);
        // A class more would make U a class.
        if (taken || forParents.callsLeft() == 0) {
            forParents = withSorts();
        }
    }

    private static void productCodes() {
        sentence("A PRODUCT CODE has at most 4 digits, no 29, no 30 (31 is allowed).");
        Counted x = withSorts();
        int bean = 0;
        for (int length = 1; length <= 5; length++) {
            for (String word : words(length < 5 ? ALL_LETTERS : "RGPV", length)) {
                boolean taken = isCode(PRODUCT, 4, word);
                due(x.produce(-1, codeOf(word), 0, 0, 0), taken ? bean : BAD);
                bean += taken ? 1 : 0;
                if (bean == 16 || x.callsLeft() == 0) {
                    x = withSorts();
                    bean = 0;
                }
            }
        }
    }

    private static void requiredCodes() {
        sentence("A REQUIRED CODE has at most 6 digits and no 31.");
        Counted x = withSorts();
        for (int length = 1; length <= 7; length++) {
            for (String word : words(length < 5 ? ALL_LETTERS : "RGKAV", length < 7 ? length : 6)) {
                // No seventh digit but 1 leaves an int positive.
                String whole = length < 7 ? word : word + "R";
                due(x.candidates(codeOf(whole), -1), isCode(REQUIRED, 6, whole) ? 0 : BAD);
                if (x.callsLeft() == 0) {
                    x = withSorts();
                }
            }
        }
    }

    private static void requiredCodesOfOtherCalls() {
        sentence("type is not a required code");
        for (int length = 1; length <= 3; length++) {
            for (String word : words(ALL_LETTERS, length)) {
                requiredCodeOfOtherCalls(codeOf(word), isCode(REQUIRED, 6, word));
            }
        }
        for (String word : words("GKA", 6)) {
            requiredCodeOfOtherCalls(codeOf(word), isCode(REQUIRED, 6, word));
            requiredCodeOfOtherCalls(codeOf(word + "R"), false);
        }
    }

    private static void requiredCodeOfOtherCalls(int code, boolean taken) {
        Counted x = withSorts();
        x.manage(3, 64, 0, 0);
        due(x.fits(code, 0) >= 0, taken);
        due(x.resolve(code, 128), taken ? UNSATISFIED : BAD);
        due(x.inject(0, code, 64), taken ? 0 : BAD);
        Counted y = withSorts();
        y.deploy();
        due(y.obtain(0, code, 64), taken ? UNSATISFIED : BAD);
    }

    private static void headsAndArguments() {
        sentence("The first digit is a declared class (or the ROOT; the one that is being declared is none yet, "
                + "here and in arguments): the HEAD.");
        for (int digit = 0; digit < 32; digit++) {
            boolean declared = digit >= 1 && digit <= 4;
            boolean open = digit == VARIABLE;
            int number = declared ? 0 : BAD;
            Counted x = withSorts();
            due(x.candidates(digit, -1), number);
            due(x.candidates(code(2, digit), -1), declared || digit == ANYTHING || digit == 0 ? 0 : BAD);
            due(x.candidates(code(2, 4, digit), -1), declared || digit == ANYTHING || digit == 0 ? 0 : BAD);
            due(x.candidates(code(2, KIND_OF, digit), -1), number);
            due(x.candidates(code(2, KIND_OF, 2, digit), -1), declared || digit == ANYTHING || digit == 0 ? 0 : BAD);
            due(x.produce(-1, digit, 0, 0, 0), number);
            due(x.produce(-1, code(2, digit), 0, 0, 0) >= 0, declared || open || digit == 0);
            due(x.produce(-1, code(2, 4, digit), 0, 0, 0) >= 0, declared || open || digit == 0);
            boolean parent = digit == 0 || digit == 2 || digit == 3;
            due(withSorts().declare(digit, 0, true, false), parent ? 5 : BAD);
            due(withSorts().declare(0, digit, true, false), parent ? 5 : BAD);
            due(withSorts().declare(code(2, digit), 0, true, false), declared || open || digit == 0 ? 5 : BAD);
            due(withSorts().declare(0, code(2, 4, digit), true, false), declared || open || digit == 0 ? 5 : BAD);
        }
    }

    private static void argumentsOfEachForm() {
        sentence("Behind a class that is not generic no digit stands.");
        for (int head : new int[] {ROOT, 3}) {
            taken(code(head), true, true, head == 3);
            for (int digit = 1; digit < 32; digit++) {
                taken(code(head, digit), false, false, false);
                taken(code(head, KIND_OF, digit), false, false, false);
                taken(code(2, head, digit), false, false, false);
            }
        }
        sentence("Behind a generic class either none stands: the type is RAW; or an ARGUMENT:");
        taken(2, true, true, true);
        taken(4, true, true, false);
        taken(code(2, 4), true, true, true);
        sentence("a type (its digits)");
        taken(code(2, ROOT), true, true, true);
        taken(code(2, 3), true, true, true);
        taken(code(2, 2, 4), true, true, true);
        taken(code(2, 3, 3), false, false, false);
        sentence("or 30, ANYTHING, and no digit behind it");
        taken(code(2, ANYTHING), true, false, false);
        taken(code(2, 2, ANYTHING), true, false, false);
        for (int digit = 1; digit < 32; digit++) {
            taken(code(2, ANYTHING, digit), false, false, false);
        }
        sentence("or 29, KIND OF, and behind it the digits of a type");
        taken(code(2, KIND_OF), false, false, false);
        taken(code(2, KIND_OF, ROOT), true, false, false);
        taken(code(2, KIND_OF, 3), true, false, false);
        taken(code(2, KIND_OF, 2), true, false, false);
        taken(code(2, KIND_OF, 4, ANYTHING), true, false, false);
        taken(code(2, KIND_OF, 4, KIND_OF, 3), true, false, false);
        taken(code(2, KIND_OF, 5), false, false, false);
        taken(code(2, KIND_OF, 3, 3), false, false, false);
        taken(code(2, KIND_OF, KIND_OF, 3), false, false, false);
        taken(code(2, KIND_OF, ANYTHING), false, false, false);
        taken(code(2, KIND_OF, VARIABLE), false, false, false);
        taken(code(2, KIND_OF, 2, VARIABLE), false, false, false);
        sentence("or 31, the VARIABLE, and no digit behind it");
        taken(code(2, VARIABLE), false, true, true);
        taken(code(2, 4, VARIABLE), false, true, true);
        for (int digit = 1; digit < 32; digit++) {
            taken(code(2, VARIABLE, digit), false, false, false);
        }
        taken(VARIABLE, false, false, false);
        taken(ANYTHING, false, false, false);
        taken(code(KIND_OF, 3), false, false, false);
    }

    /** Whether a number is a required code, a product code, and a parent code of a generic class. */
    private static void taken(int code, boolean required, boolean product, boolean parent) {
        Counted x = withSorts();
        due(x.candidates(code, -1), required ? 0 : BAD);
        due(x.produce(-1, code, 0, 0, 0), product ? 0 : BAD);
        due(x.declare(code, 0, true, false), parent ? 5 : BAD);
    }

    private static void nextClassIsNoneYet() {
        sentence("the one that is being declared is none yet, here and in arguments");
        Counted x = new Counted();
        due(x.declare(2, 0, false, false), BAD);
        due(x.declare(code(2, VARIABLE), 0, true, false), BAD);
        due(generic(x), 2);
        for (int next = 3; next <= 13; next++) {
            due(x.declare(next, 0, false, false), BAD);
            due(x.declare(0, next, true, false), BAD);
            due(x.declare(code(next, VARIABLE), 0, true, false), BAD);
            due(x.declare(code(2, next), 0, false, false), BAD);
            due(x.declare(0, code(2, next, VARIABLE), true, false), BAD);
            due(x.declare(0, code(2, 2, next), true, false), BAD);
            // The one before it is there.
            due(x.declare(code(2, next - 1), code(2, 2, next - 1), next % 2 == 0, false), next);
        }
    }

    private static void examples() {
        sentence("For example, with 2 generic and 3 not: 3; 2 (raw); 2 + 32 * 3; 2 + 32 * (2 + 32 * 3); as a required "
                + "code 2 + 32 * 30 and 2 + 32 * (29 + 32 * 3) too.");
        Counted x = withSorts();
        int number = 5;
        for (int good : new int[] {3, 2, 2 + 32 * 3, 2 + 32 * (2 + 32 * 3)}) {
            due(x.candidates(good, -1) >= 0, true);
            due(x.produce(-1, good, 0, 0, 0), number - 5);
            due(x.declare(good, good, false, false), number);
            number++;
        }
        for (int wild : new int[] {2 + 32 * 30, 2 + 32 * (29 + 32 * 3)}) {
            due(x.candidates(wild, -1) >= 0, true);
            due(x.produce(-1, wild, 0, 0, 0), BAD);
            due(x.declare(wild, 0, true, false), BAD);
        }
    }

    private static void longestCodes() {
        sentence("at most 3 digits");
        Counted x = withSorts();
        due(x.declare(code(2, 2, 2, 2), 0, true, false), BAD);
        due(x.declare(0, code(2, 2, 2, VARIABLE), true, false), BAD);
        due(x.declare(code(2, 2, 2), code(2, 2, VARIABLE), true, false), 5);
        sentence("at most 4 digits");
        due(x.produce(-1, code(2, 2, 2, 2, 3), 0, 0, 0), BAD);
        due(x.produce(-1, code(2, 2, 2, 2, VARIABLE), 0, 0, 0), BAD);
        due(x.produce(-1, code(2, 2, 2, 3), 0, 0, 0), 0);
        due(x.produce(-1, code(2, 2, 2, VARIABLE), 0, 0, 0), 1);
        sentence("at most 6 digits");
        due(x.fits(code(2, 2, 2, 2, 2, 2, ROOT), 0), BAD);
        due(x.fits(code(2, KIND_OF, 2, KIND_OF, 2, 2, ROOT), 0), BAD);
        due(x.fits(code(2, 2, 2, 2, 2, KIND_OF, ROOT), 0), BAD);
        due(x.fits(code(2, 2, 2, 2, 2, KIND_OF), 0), BAD);
        due(x.fits(code(2, 2, 2, 2, 2, 2), 0), 0);
        due(x.fits(code(2, 2, 2, 2, KIND_OF, ROOT), 0), 0);
        due(x.fits(code(2, 2, 2, 2, 2, ANYTHING), 1), 1);
        due(x.fits(code(2, 2, 2, 2, 2, ROOT), 1), 1);
    }

    private static void numbersThatAreNoCodes() {
        sentence("Every other number is no such code (0, negative numbers, and numbers with a digit 0 below a higher "
                + "one are none).");
        int[] codes = {1, 2, 3, code(2, 3), code(2, 2), code(2, 2, 3), code(2, 2, 2)};
        for (int good : codes) {
            noCode(-good);
            noCode(~good);
            noCode(good | Integer.MIN_VALUE);
            noCode(good << 5);
            noCode(good << 10);
            // A digit above the type with a 0 between.
            for (int digit = 2; digit <= 6; digit++) {
                if (good >> (5 * (digit - 1)) == 0) {
                    noCode(good + (1 << (5 * digit)));
                }
            }
        }
        noCode(0);
        for (int far : FAR_OFF) {
            noCode(far);
        }
    }

    private static void noCode(int number) {
        Counted x = withSorts();
        x.manage(3, 0, 0, 0);
        // 0 is no parent code either, but stands for none.
        if (number != 0) {
            due(x.declare(number, 0, true, false), BAD);
            due(x.declare(0, number, true, false), BAD);
            due(x.declare(2, number, true, false), BAD);
        }
        due(x.produce(-1, number, 0, 0, 0), BAD);
        due(x.inject(0, number, 0), BAD);
        due(x.fits(number, 0), BAD);
        due(x.candidates(number, 0), BAD);
        due(x.resolve(number, 0), BAD);
        due(x.deploy(), 0);
        due(x.obtain(0, number, 0), BAD);
    }

    // Terms: LEVELS

    /** Classes 2, 4, 6, 8 of the levels 0 .. 3, generic; between them 3, 5, 7 of level 0. */
    private static Counted withLevels() {
        Counted x = new Counted();
        generic(x);
        plain(x);
        x.declare(code(2, VARIABLE), 0, true, false);
        plain(x);
        x.declare(0, code(4, VARIABLE), true, false);
        plain(x);
        x.declare(6, 0, true, false);
        return x;
    }

    /** The level of a class, from how many can be declared in a chain below it. */
    private static int levelOf(Counted x, int number) {
        int below = 0;
        int parent = number;
        for (int next = number + 1; next <= 13; next++) {
            if (x.declare(parent, 0, false, false) != next) {
                break;
            }
            parent = next;
            below++;
        }
        return 3 - below;
    }

    private static void levels() {
        sentence("A class without parents has level 0, another one a level one above the highest level of the heads "
                + "of its parents. No class may have a level above 3.");
        int[] parents = {0, 2, 4, 6, 8};
        for (int first = 0; first < 5; first++) {
            for (int second = 0; second < 5; second++) {
                Counted x = withLevels();
                int level = Math.max(first, second);
                due(x.declare(parents[first], parents[second], false, false), level > 3 ? BAD : 9);
                if (level <= 3) {
                    due("level over " + parents[first] + " and " + parents[second], levelOf(x, 9), level);
                }
            }
        }
        due("level of a class without parents", levelOf(withTwo(), 2), 0);
        sentence("BAD when first or second is neither 0 nor a parent code, or its level would be above 3.");
        Counted x = withLevels();
        due(x.declare(8, 0, true, true), BAD);
        due(x.declare(0, code(8, VARIABLE), true, false), BAD);
        due(x.declare(2, code(8, 2), false, true), BAD);
        due(x.declare(code(8, 2, 2), 2, false, false), BAD);
        due(x.declare(8, 8, false, false), BAD);
        due(x.manage(9, 0, 0, 0), BAD);
        due(x.declare(code(6, 8), 0, false, false), 9);
    }

    private static Counted withTwo() {
        Counted x = new Counted();
        plain(x);
        return x;
    }

    private static void levelsCountHeadsAlone() {
        sentence("the highest level of the heads of its parents");
        Counted x = withLevels();
        due(x.declare(code(2, 8), code(2, 8, 8), false, false), 9);
        due("level over 2<8> and 2<8<8>>", levelOf(x, 9), 1);
        Counted y = withLevels();
        due(y.declare(0, code(2, 8, VARIABLE), true, false), 9);
        due("level over 2<8<V>>", levelOf(y, 9), 1);
        Counted z = withLevels();
        due(z.declare(code(2, ROOT), 0, false, false), 9);
        due("level over 2<ROOT>", levelOf(z, 9), 1);
    }

    // Terms: SUPERTYPES, and promise 6

    private static void typesAre(Counted x, int type, int want) {
        int bean = x.produce(-1, type, 0, 0, 0);
        due(x.types(bean), want);
    }

    private static void supertypesOfPlainTypes() {
        sentence("SUPERTYPES of a type X: X itself, the ROOT, and for each parent P of X's head the type that P "
                + "becomes for X, together with all supertypes of that.");
        Counted x = new Counted();
        generic(x);
        plain(x);
        x.declare(3, 0, false, false);                       // 4: 3
        x.declare(4, 0, false, false);                       // 5: 4
        x.declare(5, 0, false, false);                       // 6: 5
        x.declare(3, 2, false, false);                       // 7: 3, 2 raw
        x.declare(code(2, 4), code(2, 2, 3), false, false);  // 8: 2<4>, 2<2<3>>
        typesAre(x, ROOT, 1);
        typesAre(x, 3, 2);
        typesAre(x, 4, 3);
        typesAre(x, 5, 4);
        typesAre(x, 6, 5);
        typesAre(x, 7, 4);
        typesAre(x, 8, 4);
        typesAre(x, 2, 2);
        typesAre(x, code(2, ROOT), 2);
        typesAre(x, code(2, 6), 2);
        due(x.fits(3, 4), 1);
        due(x.fits(6, 1), 0);
        sentence("BAD when there is no such bean.");
        due(x.types(-1), BAD);
        due(x.types(9), 2);
        due(x.types(10), BAD);
        due(x.types(15), BAD);
        due(x.types(16), BAD);
        for (int far : FAR_OFF) {
            due(x.types(far), BAD);
        }
    }

    private static void supertypesOfRawTypes() {
        sentence("when the head is generic and X is raw, the head of P alone, without argument");
        Counted x = new Counted();
        generic(x);
        plain(x);
        x.declare(code(2, VARIABLE), 0, true, false);        // 4: 2<V>
        x.declare(code(2, 3), 0, true, false);               // 5: 2<3>
        x.declare(0, code(2, 2, VARIABLE), true, false);     // 6: 2<2<V>>
        x.declare(code(2, 3), 0, false, false);              // 7: 2<3>, not generic
        x.declare(code(4, 3), code(2, 3), true, false);      // 8: 4<3>, 2<3>
        x.declare(7, 3, true, false);                        // 9: 7, 3
        for (int type : new int[] {4, 5, 6}) {
            Counted y = x;
            int bean = y.produce(-1, type, 0, 0, 0);
            due(y.types(bean), 3);
            due(y.fits(2, bean), 1);
            due(y.fits(code(2, ROOT), bean), 1);
            due(y.fits(code(2, 3), bean), 0);
            due(y.fits(code(2, 2), bean), 0);
            due(y.fits(code(2, ANYTHING), bean), 0);
        }
        typesAre(x, 8, 4);
        due(x.fits(4, 3), 1);
        due(x.fits(code(4, 3), 3), 0);
        // 7 is not generic, so that 9 raw has 2<3> over it.
        typesAre(x, 9, 5);
        due(x.fits(code(2, 3), 4), 1);
        due(x.fits(2, 4), 0);
        due(x.fits(7, 4), 1);
        due(x.fits(3, 4), 1);
    }

    private static void supertypesWithArguments() {
        sentence("otherwise P with X's argument in the place of the VARIABLE, if P has it (X's argument may itself be "
                + "or contain the VARIABLE)");
        Counted x = new Counted();
        generic(x);
        plain(x);
        x.declare(code(2, VARIABLE), 0, true, false);        // 4: 2<V>
        x.declare(0, code(2, 2, VARIABLE), true, false);     // 5: 2<2<V>>
        x.declare(code(2, 3), 0, true, false);               // 6: 2<3>
        x.declare(2, 0, true, false);                        // 7: 2 raw
        int[][] due = {
            // the bean's type, then a required type and whether it is met, and so on
            {code(4, 3), code(2, 3), 1, code(2, ROOT), 0, 2, 0, code(2, 2), 0},
            {code(4, VARIABLE), code(2, 3), 1, 2, 1, code(2, 2, 3), 1},
            {code(4, 2, VARIABLE), code(2, 2, 3), 1, code(2, 3), 0, code(2, 2), 1},
            {code(5, 3), code(2, 2, 3), 1, code(2, 3), 0, code(2, 2), 0},
            {code(5, VARIABLE), code(2, 2, 3), 1, code(2, 2), 1, code(2, 3), 0},
            {code(5, 2, VARIABLE), code(2, 2, 2, 3), 1, code(2, 2, 3), 0, code(2, 2), 0},
            {code(5, 2, 2, 3), code(2, 2, 2, 2, 3), 1, code(2, 2, 2, 3), 0},
            {code(6, ROOT), code(2, 3), 1, code(2, ROOT), 0, 2, 0},
            {code(6, VARIABLE), code(2, 3), 1, code(2, 2), 0},
            {code(7, 3), 2, 1, code(2, 3), 0, code(2, ROOT), 1, code(2, ANYTHING), 0},
            {code(7, VARIABLE), 2, 1, code(2, 3), 0},
        };
        for (int bean = 0; bean < due.length; bean++) {
            due(x.produce(-1, due[bean][0], 0, 0, 0), bean);
            due(x.types(bean), 3);
            for (int i = 1; i < due[bean].length; i += 2) {
                due(x.fits(due[bean][i], bean), due[bean][i + 1]);
            }
        }
    }

    private static void supertypesThatAreTheSame() {
        sentence("Types are the same when they have the same digits.");
        Counted x = new Counted();
        generic(x);
        plain(x);
        x.declare(code(2, VARIABLE), code(2, VARIABLE), true, false);        // 4
        x.declare(code(2, VARIABLE), code(2, 3), true, false);               // 5
        x.declare(code(4, VARIABLE), code(2, VARIABLE), true, false);        // 6
        x.declare(code(4, 3), code(5, 3), false, false);                     // 7
        x.declare(code(2, VARIABLE), code(2, 2, VARIABLE), true, false);     // 8
        typesAre(x, code(4, 3), 3);
        typesAre(x, code(5, 3), 3);
        typesAre(x, code(5, 2), 4);
        typesAre(x, code(5, VARIABLE), 4);
        typesAre(x, 5, 3);
        typesAre(x, code(6, 3), 4);
        typesAre(x, 7, 5);
        // 2<3> and 2<2<3>>, 2<2> and 2<2<2>>; raw, both become 2.
        typesAre(x, code(8, 3), 4);
        typesAre(x, code(8, 2), 4);
        typesAre(x, 8, 3);
    }

    private static void mostSupertypes() {
        sentence("How many different supertypes the type of a bean has.");
        Counted x = new Counted();
        generic(x);                                                          // 2
        generic(x);                                                          // 3
        generic(x);                                                          // 4
        x.declare(code(2, VARIABLE), code(2, 2, VARIABLE), true, false);     // 5
        x.declare(code(5, VARIABLE), code(5, 3, VARIABLE), true, false);     // 6
        x.declare(code(6, VARIABLE), code(6, 4, VARIABLE), true, false);     // 7
        // 1 + 2 + 4 + 8 ways up, all different, and the ROOT.
        typesAre(x, code(5, 3), 4);
        typesAre(x, code(6, 3), 8);
        typesAre(x, code(7, 3), 16);
        typesAre(x, code(7, 2, 2, 2), 16);
        typesAre(x, 7, 5);
        // With 2 in the place of 3 and 4, some ways lead to the same type.
        x.declare(code(5, VARIABLE), code(5, 2, VARIABLE), true, false);     // 8
        x.declare(code(8, VARIABLE), code(8, 2, VARIABLE), true, false);     // 9
        typesAre(x, code(9, 3), 1 + 2 + 3 + 4 + 1);
    }

    private static void longSupertypes() {
        sentence("(No supertype that can come up below has more than 11 digits.)");
        Counted x = new Counted();
        generic(x);
        x.declare(code(2, 2, VARIABLE), code(2, VARIABLE), true, false);     // 3: 2<2<V>>, 2<V>
        x.declare(code(3, 2, VARIABLE), 0, true, false);                     // 4: 3<2<V>>
        x.declare(code(4, 2, VARIABLE), 0, true, false);                     // 5: 4<2<V>>
        // Seven and six digits 2 are not the same type, though an int can't hold the seventh.
        typesAre(x, code(5, 2, 2, 2), 6);
        typesAre(x, code(4, 2, 2, 2), 5);
    }

    // Terms: MEETING, and promise 7

    /** 2 and 3 stand alone; 4 has the parent 3; 5 the parent 2<V>; 6 the parent 2<3>. */
    private static Counted withMeetings() {
        Counted x = new Counted();
        generic(x);
        plain(x);
        x.declare(3, 0, false, false);
        x.declare(code(2, VARIABLE), 0, true, false);
        x.declare(code(2, 3), 0, true, false);
        int[] types = {
            2, code(2, VARIABLE), code(2, ROOT), code(2, 3), code(2, 4), code(2, 2), code(2, 2, VARIABLE),
            code(2, 2, ROOT), 4, code(5, 4), 5, code(2, 5, 4), code(6, 4), 6, code(2, 2, 4),
        };
        for (int type : types) {
            x.produce(-1, type, 0, 0, 0);
        }
        x.manage(5, 0, 0, 0);
        return x;
    }

    private static void meeting() {
        sentence("A required type R is MET by a type B when both have the same head, and one of these holds");
        //   2  2V 21 23 24 22 22V 221 4 54 5 254 64 6 224 5V
        meets("1  1  1  1  1  1  1  1  1  1  1  1  1  1  1  1", ROOT);
        meets("0  0  0  0  0  0  0  0  1  0  0  0  0  0  0  0", 3);
        meets("0  0  0  0  0  0  0  0  1  0  0  0  0  0  0  0", 4);
        sentence("neither has an argument; R has none and B's argument is the VARIABLE or the ROOT");
        meets("1  1  1  0  0  0  0  0  0  0  1  0  0  1  0  1", 2);
        meets("0  0  0  0  0  0  0  0  0  0  1  0  0  0  0  1", 5);
        meets("0  0  0  0  0  0  0  0  0  0  0  0  0  1  0  0", 6);
        meets("0  1  0  0  0  1  1  1  0  0  0  0  0  0  0  1", 2, 2);
        sentence("B has none and R's argument is the ROOT");
        meets("1  1  1  0  0  0  0  0  0  0  1  0  0  1  0  1", 2, ROOT);
        meets("0  0  0  0  0  0  0  0  0  0  1  0  0  0  0  1", 5, ROOT);
        meets("0  0  0  0  0  0  0  0  0  0  0  0  0  1  0  0", 6, ROOT);
        meets("0  1  0  0  0  1  1  1  0  0  0  0  0  0  0  1", 2, 2, ROOT);
        meets("0  1  0  0  0  1  1  1  0  0  0  0  0  0  0  1", 2, KIND_OF, 2, ROOT);
        sentence("b is the VARIABLE, or r is ANYTHING");
        meets("0  1  1  1  1  1  1  1  0  1  0  1  1  0  1  1", 2, ANYTHING);
        meets("0  1  0  0  0  0  1  1  0  0  0  0  0  0  1  1", 2, 2, ANYTHING);
        meets("0  1  0  0  0  0  0  0  0  0  0  1  0  0  0  1", 2, 5, ANYTHING);
        meets("0  0  0  0  0  0  0  0  0  1  0  0  0  0  0  1", 5, ANYTHING);
        sentence("r is KIND OF u and u is met by some supertype of b");
        meets("0  1  1  1  1  1  1  1  0  1  0  1  1  0  1  1", 2, KIND_OF, ROOT);
        meets("0  1  0  1  1  0  0  0  0  1  0  0  1  0  0  1", 2, KIND_OF, 3);
        meets("0  1  0  0  1  0  0  0  0  1  0  0  0  0  0  1", 2, KIND_OF, 4);
        meets("0  1  0  0  0  1  1  1  0  0  0  0  0  0  0  1", 2, KIND_OF, 2);
        meets("0  1  0  0  0  0  1  0  0  0  0  1  0  0  1  1", 2, KIND_OF, 2, 4);
        meets("0  1  0  0  0  0  1  0  0  0  0  1  0  0  1  1", 2, KIND_OF, 2, KIND_OF, 3);
        meets("0  1  0  0  0  0  1  1  0  0  0  1  0  0  1  1", 2, KIND_OF, 2, ANYTHING);
        meets("0  1  0  0  0  0  0  0  0  0  0  1  0  0  0  1", 2, KIND_OF, 5, ANYTHING);
        meets("0  1  0  0  0  0  1  0  0  0  0  0  0  0  1  1", 2, 2, KIND_OF, 3);
        meets("0  0  0  0  0  0  0  0  0  1  0  0  0  0  0  1", 5, KIND_OF, 3);
        meets("0  0  0  0  0  0  0  0  0  0  0  0  1  0  0  0", 6, KIND_OF, 3);
        sentence("r is a type that is met by b");
        meets("0  1  0  1  0  0  0  0  0  0  0  0  1  0  0  1", 2, 3);
        meets("0  1  0  0  1  0  0  0  0  1  0  0  0  0  0  1", 2, 4);
        meets("0  1  0  0  0  0  1  0  0  0  0  0  0  0  1  1", 2, 2, 4);
        meets("0  1  0  0  0  0  0  0  0  0  0  1  0  0  0  1", 2, 5, 4);
        meets("0  0  0  0  0  0  0  0  0  1  0  0  0  0  0  1", 5, 4);
        meets("0  0  0  0  0  0  0  0  0  0  0  0  1  0  0  0", 6, 4);
        meets("0  0  0  0  0  0  0  0  0  0  0  0  0  0  0  0", 6, 3);
    }

    /** By which of the sixteen beans a required type is met. */
    private static void meets(String beans, int... required) {
        Counted x = withMeetings();
        String[] want = beans.split(" +");
        for (int bean = 0; bean < 16; bean++) {
            due(x.fits(code(required), bean), Integer.parseInt(want[bean]));
        }
    }

    private static void meetingArguments() {
        sentence("r is KIND OF u and u is met by some supertype of b");
        // The beans' types are 2<5>, 2<5<V>>, 2<6>, 2<6<4>>, 2<6<V>>, with 5 over 2<V> and 6 over 2<3>.
        meetsArguments("0 0 0 0 0", 2, 2);
        meetsArguments("1 1 0 0 0", 2, 5);
        meetsArguments("1 1 0 0 0", 2, 5, ROOT);
        meetsArguments("0 1 0 0 0", 2, 5, 3);
        meetsArguments("0 0 1 0 1", 2, 6);
        meetsArguments("1 1 1 0 0", 2, KIND_OF, 2);
        meetsArguments("1 1 1 0 0", 2, KIND_OF, 2, ROOT);
        meetsArguments("0 1 0 1 1", 2, KIND_OF, 2, ANYTHING);
        meetsArguments("0 1 0 1 1", 2, KIND_OF, 2, 3);
        meetsArguments("0 1 0 0 0", 2, KIND_OF, 2, 4);
        meetsArguments("0 1 0 1 1", 2, KIND_OF, 2, KIND_OF, 3);
        meetsArguments("0 1 0 0 0", 2, KIND_OF, 2, KIND_OF, 4);
        meetsArguments("1 1 0 0 0", 2, KIND_OF, 5);
        meetsArguments("0 1 0 0 0", 2, KIND_OF, 5, ANYTHING);
        meetsArguments("0 0 0 1 1", 2, KIND_OF, 6, 4);
        meetsArguments("0 0 0 1 1", 2, 6, KIND_OF, 3);
        meetsArguments("0 0 0 0 1", 2, KIND_OF, 6, 3);
        meetsArguments("1 1 1 1 1", 2, KIND_OF, ROOT);
        meetsArguments("0 0 0 0 0", 2, ROOT);
        meetsArguments("0 0 0 0 0", 2);
    }

    private static void meetsArguments(String beans, int... required) {
        Counted x = new Counted();
        generic(x);
        plain(x);
        x.declare(3, 0, false, false);
        x.declare(code(2, VARIABLE), 0, true, false);
        x.declare(code(2, 3), 0, true, false);
        int[] types = {code(2, 5), code(2, 5, VARIABLE), code(2, 6), code(2, 6, 4), code(2, 6, VARIABLE)};
        String[] want = beans.split(" ");
        for (int bean = 0; bean < types.length; bean++) {
            due(x.produce(-1, types[bean], 0, 0, 0), bean);
            due(x.fits(code(required), bean), Integer.parseInt(want[bean]));
        }
    }

    private static void meetingDeep() {
        sentence("(No supertype that can come up below has more than 11 digits.)");
        Counted x = new Counted();
        generic(x);                                          // 2
        x.declare(code(2, 2, VARIABLE), 0, true, false);     // 3
        x.declare(code(3, 2, VARIABLE), 0, true, false);     // 4
        x.declare(code(4, 2, VARIABLE), 0, true, false);     // 5, over which 2 2 2 2 ..
        x.declare(code(2, 5, VARIABLE), 0, true, false);     // 6
        x.declare(code(6, 5, VARIABLE), 0, true, false);     // 7
        x.declare(code(7, 5, VARIABLE), 0, true, false);     // 8, over which 2 5 5 5 ..
        x.declare(code(2, 8, VARIABLE), 0, true, false);     // 9
        x.declare(code(9, 8, VARIABLE), 0, true, false);     // 10
        x.declare(code(10, 8, VARIABLE), 0, true, false);    // 11, over which 2 8 8 8 ..
        plain(x);                                            // 12
        // 2 8 8 8 8 8 12; its argument is a 2 5 5 5 8 8 8 8 12; and that one's 2 2 2 2 5 5 8 8 8 8 12.
        due(x.produce(-1, code(11, 8, 8, 12), 0, 0, 0), 0);
        due(x.types(0), 5);
        due(x.fits(code(2, 8, 8, 8, 8, 8), 0), 0);
        due(x.fits(code(2, 8, 8, 8, 8, ANYTHING), 0), 1);
        due(x.fits(code(2, KIND_OF, 2, KIND_OF, 2, ANYTHING), 0), 1);
        due(x.fits(code(2, KIND_OF, 2, KIND_OF, 3, ANYTHING), 0), 1);
        due(x.fits(code(2, KIND_OF, 2, KIND_OF, 5, ANYTHING), 0), 1);
        due(x.fits(code(2, KIND_OF, 2, KIND_OF, 2, 2), 0), 0);
        due(x.fits(code(2, KIND_OF, 2, KIND_OF, 2, ROOT), 0), 0);
        due(x.fits(code(2, KIND_OF, 2, KIND_OF, 6, ANYTHING), 0), 0);
        due(x.fits(code(2, KIND_OF, 2, KIND_OF, 8, ANYTHING), 0), 0);
        due(x.fits(code(2, KIND_OF, 6, KIND_OF, 4, ANYTHING), 0), 1);
        due(x.fits(code(2, KIND_OF, 8, KIND_OF, 7, ANYTHING), 0), 1);
        due(x.fits(code(2, KIND_OF, 8, KIND_OF, 4, ANYTHING), 0), 0);
        due(x.fits(code(9, KIND_OF, 7, KIND_OF, 3, ANYTHING), 0), 1);
        due(x.fits(code(11, KIND_OF, 2, 5, 5, 5), 0), 0);
        due(x.fits(code(11, KIND_OF, 2, 5, 5, ANYTHING), 0), 1);
        due(x.fits(code(11, KIND_OF, 2, 5, 5, 12), 0), 0);
    }

    private static void fitsEveryBean() {
        sentence("1 when the required type is met by some supertype of the type of the bean (enabled or not), 0 when "
                + "not. BAD when there is no such bean or type is not a required code.");
        Counted x = new Counted();
        plain(x);
        plain(x);
        for (int bean = 0; bean < 16; bean++) {
            due(x.fits(2, bean), BAD);
            due(x.manage(2 + bean % 2, 0, bean % 3, bean % 4 - 1), bean);
            due(x.fits(2, bean), 1 - bean % 2);
            due(x.fits(3, bean), bean % 2);
            due(x.fits(ROOT, bean), 1);
        }
        due(x.fits(2, -1), BAD);
        due(x.fits(2, 16), BAD);
        due(x.fits(4, 0), BAD);
        due(x.fits(4, 16), BAD);
        for (int far : FAR_OFF) {
            due(x.fits(2, far), BAD);
        }
        due(x.deploy(), 0);
        due(x.fits(2, 0), 1);
        due(x.fits(3, 15), 1);
        due(x.fits(3, 14), 0);
        due(x.fits(2, 16), BAD);
    }
}
