/**
 * A container that remembers the last call, so that a wrong answer can be told, and that counts:
 * the document promises nothing after the 512th call, so no test may rest on what comes there.
 */
final class Counted {
    private static final int MOST_CALLS = 512;
    private static String last = "";

    private final WiringContainer inside = new WiringContainer();
    private int calls = 0;

    static String lastCall() {
        return last;
    }

    int callsLeft() {
        return MOST_CALLS - calls;
    }

    private WiringContainer asked(String name, Object... arguments) {
        StringBuilder told = new StringBuilder(name).append('(');
        for (int i = 0; i < arguments.length; i++) {
            told.append(i == 0 ? "" : ", ").append(arguments[i]);
        }
        last = told.append(')').toString();
        calls++;
        if (calls > MOST_CALLS) {
            throw new IllegalStateException("a test makes more than 512 calls: " + last);
        }
        return inside;
    }

    int declare(int first, int second, boolean generic, boolean closed) {
        return asked("declare", first, second, generic, closed).declare(first, second, generic, closed);
    }

    int manage(int which, int marks, int scope, int choice) {
        return asked("manage", which, marks, scope, choice).manage(which, marks, scope, choice);
    }

    int produce(int home, int type, int marks, int scope, int choice) {
        return asked("produce", home, type, marks, scope, choice).produce(home, type, marks, scope, choice);
    }

    int inject(int bean, int type, int marks) {
        return asked("inject", bean, type, marks).inject(bean, type, marks);
    }

    int types(int bean) {
        return asked("types", bean).types(bean);
    }

    int fits(int type, int bean) {
        return asked("fits", type, bean).fits(type, bean);
    }

    int candidates(int type, int marks) {
        return asked("candidates", type, marks).candidates(type, marks);
    }

    int resolve(int type, int marks) {
        return asked("resolve", type, marks).resolve(type, marks);
    }

    int deploy() {
        return asked("deploy").deploy();
    }

    int cost(int bean) {
        return asked("cost", bean).cost(bean);
    }

    boolean begin(int thread) {
        return asked("begin", thread).begin(thread);
    }

    int end(int thread) {
        return asked("end", thread).end(thread);
    }

    int obtain(int thread, int type, int marks) {
        return asked("obtain", thread, type, marks).obtain(thread, type, marks);
    }

    int call(int thread, int instance, int point) {
        return asked("call", thread, instance, point).call(thread, instance, point);
    }

    int destroy(int instance) {
        return asked("destroy", instance).destroy(instance);
    }

    int shutdown() {
        return asked("shutdown").shutdown();
    }

    int beanOf(int instance) {
        return asked("beanOf", instance).beanOf(instance);
    }

    int owner(int instance) {
        return asked("owner", instance).owner(instance);
    }

    int destroyed(int k) {
        return asked("destroyed", k).destroyed(k);
    }

    int live() {
        return asked("live").live();
    }
}
