/**
 * The sentences about instances and contexts that name a boundary case (the document's "Terms",
 * and the promises 12 to 21).
 */
public final class InstanceBoundaryTests extends Checks {
    public static void main(String[] args) {
        lastCallOfAll();
        countedFromZero();
        twoHundredNumbers();
        numbersOverTheWholeLife();
        makingInOrder();
        makingHomes();
        makingHomesOfParts();
        makingNothingForNormalBeans();
        costOfTen();
        costOfTenOverHomes();
        numbersThatAreLeft();
        numbersThatAreLeftForHomes();
        numbersThatAreLeftInContexts();
        destroyingInOrder();
        destroyingDeep();
        threads();
        beginning();
        ending();
        endingInOrder();
        endingOnce();
        oneInstanceOfEachBean();
        oneApplicationContext();
        reachingHeldOnes();
        obtaining();
        obtainingByEveryHead();
        callingParts();
        callingOnThreads();
        callingEveryPoint();
        destroyingThoseWithoutOwner();
        destroyingHeldOnes();
        shuttingDownNothing();
        shuttingDownInOrder();
        shuttingDownThreads();
        shuttingDownForBuilding();
        beansAndOwners();
        destroyedNumbers();
        allDestroyedOnce();
        livingNumbers();
        finish();
    }

    private static void lastCallOfAll() {
        sentence("An object is used for at most 512 calls after it has been made");
        Counted x = new Counted();
        x.manage(ROOT, 0, DEPENDENT, 0);
        x.deploy();
        for (int i = 1; i <= 200; i++) {
            x.obtain(0, ROOT, 0);
        }
        for (int i = 1; i <= 150; i++) {
            due(x.destroy(i), 1);
            due(x.beanOf(i), GONE);
        }
        for (int i = x.callsLeft(); i > 3; i--) {
            due(x.live(), 50);
        }
        due(x.destroyed(149), 150);
        due(x.shutdown(), 50);
        due(x.destroyed(199), 151);
    }

    private static void countedFromZero() {
        sentence("All numbers are counted from 0 where nothing else is said.");
        Counted x = new Counted();
        due(x.manage(ROOT, 64, DEPENDENT, 0), 0);
        due(x.produce(0, ROOT, 128, REQUEST, 0), 1);
        due(x.inject(1, ROOT, 64), 0);
        due(x.resolve(ROOT, 64), 0);
        due(x.deploy(), 0);
        due(x.cost(0), 1);
        due(x.begin(0), true);
        due(x.obtain(0, ROOT, 128), 2);
        due(x.call(0, 2, 0), 3);
        due(x.beanOf(3), 0);
        due(x.destroyed(0), 1);
        due(x.destroyed(1), 0);
    }

    // Terms: INSTANCES

    private static Counted withOne(int scope) {
        Counted x = new Counted();
        x.manage(ROOT, 0, scope, 0);
        x.deploy();
        return x;
    }

    private static void twoHundredNumbers() {
        sentence("INSTANCES are numbered 1, 2, .. 200 in the order in which they are made");
        Counted x = withOne(DEPENDENT);
        for (int number = 1; number <= 200; number++) {
            due(x.obtain(number % 3, ROOT, 0), number);
        }
        due(x.obtain(0, ROOT, 0), FULL);
        due(x.live(), 200);
        due(x.beanOf(200), 0);
        due(x.owner(200), 0);
        due(x.beanOf(201), GONE);
        sentence("no number is used twice");
        for (int number = 200; number > 150; number--) {
            due(x.destroy(number), 1);
            due(x.obtain(0, ROOT, 0), FULL);
        }
        due(x.live(), 150);
        due(x.beanOf(200), GONE);
    }

    private static void numbersOverTheWholeLife() {
        sentence("over the whole life of the container; no number is used twice");
        Counted x = withOne(DEPENDENT);
        for (int round = 0; round < 4; round++) {
            for (int i = 1; i <= 50; i++) {
                due(x.obtain(0, ROOT, 0), 50 * round + i);
            }
            due(x.shutdown(), 50);
            due(x.deploy(), 0);
        }
        due(x.obtain(0, ROOT, 0), FULL);
        due(x.live(), 0);
        due(x.destroyed(0), 50);
        due(x.destroyed(199), 151);
        due(x.shutdown(), 0);
        due(x.manage(ROOT, 64, APPLICATION, 0), 1);
        due(x.deploy(), 0);
        due(x.obtain(0, ROOT, 64), FULL);
    }

    private static void makingInOrder() {
        sentence("Then, for its injection points 0, 1, 2 in this order, where one resolves to a DEPENDENT bean, an "
                + "instance of that is made for this injection point; its OWNER is the instance.");
        Counted x = new Counted();
        for (int bean = 0; bean < 4; bean++) {
            x.manage(ROOT, mark(bean), DEPENDENT, 0);
        }
        x.inject(1, ROOT, mark(0));
        x.inject(2, ROOT, mark(0));
        x.inject(2, ROOT, mark(1));
        x.inject(3, ROOT, mark(2));
        x.inject(3, ROOT, mark(0));
        x.inject(3, ROOT, mark(1));
        due(x.deploy(), 0);
        // 1: bean 3; 2: bean 2 (3: bean 0; 4: bean 1, 5: bean 0); 6: bean 0; 7: bean 1 (8: bean 0)
        due(x.cost(3), 8);
        due(x.obtain(0, ROOT, mark(3)), 1);
        int[] beans = {3, 2, 0, 1, 0, 0, 1, 0};
        int[] owners = {0, 1, 2, 2, 4, 1, 1, 7};
        for (int number = 1; number <= 8; number++) {
            due(x.beanOf(number), beans[number - 1]);
            due(x.owner(number), owners[number - 1]);
        }
        due(x.call(0, 1, 0), 2);
        due(x.call(0, 1, 1), 6);
        due(x.call(0, 1, 2), 7);
        due(x.call(0, 2, 0), 3);
        due(x.call(0, 2, 1), 4);
        due(x.call(0, 4, 0), 5);
        due(x.call(0, 7, 0), 8);
        due(x.obtain(0, ROOT, mark(0)), 9);
        due(x.live(), 9);
    }

    private static void makingHomes() {
        sentence("first, if it has a home, an instance of the home is made (without an owner). Then the instance "
                + "itself gets its number.");
        for (int scope = 0; scope <= 2; scope++) {
            Counted x = new Counted();
            x.manage(ROOT, 64, DEPENDENT, 0);
            x.manage(ROOT, 128, DEPENDENT, 0);
            x.inject(1, ROOT, 64);
            x.inject(1, ROOT, 64);
            x.produce(1, ROOT, 192, scope, 0);
            x.inject(2, ROOT, 64);
            due(x.deploy(), 0);
            x.begin(0);
            // 1: the home (2, 3); 4: the product (5)
            due(x.obtain(0, ROOT, 192), 4);
            due(x.beanOf(4), 2);
            due(x.owner(4), 0);
            due(x.beanOf(5), 0);
            due(x.owner(5), 4);
            sentence("In the end the home's instance, if there was one, is destroyed.");
            due(x.live(), 2);
            order(x, 1, 3, 2);
            due(x.beanOf(1), GONE);
            due(x.destroy(1), GONE);
            due(x.destroy(4), 2);
            order(x, 1, 3, 2, 4, 5);
        }
    }

    private static void makingHomesOfParts() {
        sentence("In the end the home's instance, if there was one, is destroyed.");
        Counted x = new Counted();
        x.manage(ROOT, 64, DEPENDENT, 0);
        x.produce(0, ROOT, 128, DEPENDENT, 0);
        x.manage(ROOT, 192, DEPENDENT, 0);
        x.inject(2, ROOT, 128);
        x.inject(2, ROOT, 128);
        x.produce(2, ROOT, 256, DEPENDENT, 0);
        x.inject(3, ROOT, 128);
        due(x.deploy(), 0);
        due(x.cost(3), 8);
        // 1: the home, with 2 (home) 3, 4 (home) 5; 6: the product, with 7 (home) 8
        due(x.obtain(0, ROOT, 256), 6);
        order(x, 2, 4, 7, 1, 5, 3);
        due(x.call(0, 6, 0), 8);
        due(x.owner(8), 6);
        due(x.beanOf(8), 1);
        due(x.live(), 2);
        due(x.shutdown(), 2);
        order(x, 2, 4, 7, 1, 5, 3, 6, 8);
    }

    private static void makingNothingForNormalBeans() {
        sentence("where one resolves to a DEPENDENT bean");
        Counted x = new Counted();
        x.manage(ROOT, 64, REQUEST, 0);
        x.manage(ROOT, 128, APPLICATION, 0);
        x.manage(ROOT, 192, DEPENDENT, 0);
        x.manage(ROOT, 256, DEPENDENT, 0);
        x.inject(3, ROOT, 64);
        x.inject(3, ROOT, 128);
        x.inject(3, ROOT, 192);
        x.inject(0, ROOT, 64);
        due(x.deploy(), 0);
        due(x.obtain(0, ROOT, 256), 1);
        due(x.live(), 2);
        due(x.call(0, 1, 2), 2);
        due(x.call(0, 1, 0), INACTIVE);
        due(x.live(), 2);
        due(x.call(0, 1, 1), 3);
        due(x.owner(3), 0);
        due(x.live(), 3);
        due(x.destroy(1), 2);
        due(x.beanOf(3), 1);
    }

    /** A chain: bean i costs i + 1 (0 .. 10); then an APPLICATION and a REQUEST bean over one of them. */
    private static Counted withChain(int below) {
        Counted x = new Counted();
        for (int bean = 0; bean <= 10; bean++) {
            x.manage(ROOT, mark(bean), DEPENDENT, 0);
            if (bean > 0) {
                x.inject(bean, ROOT, mark(bean - 1));
            }
        }
        x.manage(ROOT, mark(11), APPLICATION, 0);
        x.inject(11, ROOT, mark(below));
        x.manage(ROOT, mark(12), REQUEST, 0);
        x.inject(12, ROOT, mark(below));
        x.manage(ROOT, mark(13), DEPENDENT, 0);
        x.inject(13, ROOT, mark(11));
        x.inject(13, ROOT, mark(12));
        due(x.deploy(), 0);
        return x;
    }

    private static void costOfTen() {
        sentence("When the cost of the bean is above 10, or as many numbers as the cost are not left, the making is "
                + "refused with FULL.");
        Counted x = withChain(8);
        due(x.cost(9), 10);
        due(x.cost(10), 11);
        due(x.cost(11), 10);
        due(x.obtain(0, ROOT, mark(10)), FULL);
        due(x.live(), 0);
        due(x.obtain(0, ROOT, mark(9)), 1);
        due(x.live(), 10);
        due(x.obtain(0, ROOT, mark(10)), FULL);
        due(x.obtain(0, ROOT, mark(11)), 11);
        due(x.begin(0), true);
        due(x.obtain(0, ROOT, mark(12)), 21);
        due(x.live(), 30);
        Counted y = withChain(9);
        due(y.cost(11), 11);
        due(y.obtain(0, ROOT, mark(11)), FULL);
        due(y.obtain(0, ROOT, mark(12)), INACTIVE);
        due(y.begin(0), true);
        due(y.obtain(0, ROOT, mark(12)), FULL);
        due(y.obtain(0, ROOT, mark(13)), 1);
        due(y.call(0, 1, 0), FULL);
        due(y.call(0, 1, 1), FULL);
        due(y.call(1, 1, 1), INACTIVE);
        due(y.live(), 1);
        due(y.obtain(0, ROOT, mark(0)), 2);
        due(y.end(0), 0);
        due(y.shutdown(), 2);
    }

    private static void costOfTenOverHomes() {
        sentence("When the cost of the bean is above 10");
        for (int extra = 0; extra < 2; extra++) {
            Counted x = new Counted();
            // The home costs 5, each part 2; 1 + 5 + 2 + 2 is 10.
            x.manage(ROOT, mark(0), DEPENDENT, 0);
            x.manage(ROOT, mark(1), DEPENDENT, 0);
            x.inject(1, ROOT, mark(0));
            x.manage(ROOT, mark(2), DEPENDENT, 0);
            x.inject(2, ROOT, mark(1));
            x.inject(2, ROOT, mark(1));
            x.produce(2, ROOT, mark(3), DEPENDENT, 0);
            x.inject(3, ROOT, mark(1));
            x.inject(3, ROOT, mark(1));
            if (extra == 1) {
                x.inject(3, ROOT, mark(0));
            }
            due(x.deploy(), 0);
            due(x.cost(3), 10 + extra);
            due(x.obtain(0, ROOT, mark(3)), extra == 0 ? 6 : FULL);
            due(x.live(), extra == 0 ? 5 : 0);
            due(x.destroyed(0), extra == 0 ? 1 : 0);
        }
    }

    private static void numbersThatAreLeft() {
        sentence("or as many numbers as the cost are not left");
        for (int cost = 1; cost <= 10; cost++) {
            for (int left = cost - 1; left <= cost; left++) {
                Counted x = withChain(0);
                int used = 200 - left;
                useNumbers(x, used);
                due(x.obtain(0, ROOT, mark(cost - 1)), left == cost ? used + 1 : FULL);
                due(x.live(), left == cost ? 200 : used);
                // What was refused took no number: those that are left can be used still.
                due(x.obtain(0, ROOT, mark(0)), left == cost || left == 0 ? FULL : used + 1);
                due(x.beanOf(200), left == cost || left <= 1 ? 0 : GONE);
            }
        }
    }

    private static void numbersThatAreLeftForHomes() {
        sentence("or as many numbers as the cost are not left");
        for (int scope = 0; scope <= 2; scope++) {
            for (int left = 0; left <= 4; left++) {
                Counted x = new Counted();
                x.manage(ROOT, mark(0), DEPENDENT, 0);
                x.produce(0, ROOT, mark(1), scope, 0);
                x.inject(1, ROOT, mark(0));
                due(x.deploy(), 0);
                due(x.cost(1), 3);
                x.begin(0);
                useNumbersFrom(x, 0, 200 - left);
                // The home takes the first number, and does not give it back.
                due(x.obtain(0, ROOT, mark(1)), left < 3 ? FULL : 202 - left);
                due(x.live(), left < 3 ? 200 - left : 202 - left);
                due(x.destroyed(0), left < 3 ? 0 : 201 - left);
                due(x.obtain(0, ROOT, mark(0)), left == 0 || left == 3 ? FULL : left == 4 ? 200 : 201 - left);
            }
        }
    }

    /** Makes so many instances, ten at a time, that only numbers behind this one are left. */
    private static void useNumbers(Counted x, int last) {
        int used = 0;
        for (int i = 0; i < 20 && used + 10 <= last; i++) {
            due(x.obtain(0, ROOT, mark(9)), used + 1);
            used += 10;
        }
        for (int i = 0; i < 10 && used < last; i++) {
            due(x.obtain(0, ROOT, mark(0)), used + 1);
            used++;
        }
        due(x.live(), last);
    }

    private static void numbersThatAreLeftInContexts() {
        sentence("when it holds none, one is made (without an owner) and held there, or FULL");
        for (int left = 1; left <= 3; left++) {
            // The normal beans cost 2 each.
            Counted x = withChain(0);
            x.begin(1);
            due(x.obtain(0, ROOT, mark(13)), 1);
            useNumbersFrom(x, 1, 200 - left);
            due(x.call(0, 1, 0), left >= 2 ? 201 - left : FULL);
            due(x.obtain(1, ROOT, mark(12)), FULL);
            due(x.call(1, 1, 1), FULL);
            due(x.call(0, 1, 1), INACTIVE);
            // What is held is reached without a number.
            due(x.obtain(2, ROOT, mark(11)), left >= 2 ? 201 - left : FULL);
            due(x.end(1), 0);
            due(x.obtain(0, ROOT, mark(0)), left == 2 ? FULL : 200);
        }
    }

    private static void useNumbersFrom(Counted x, int used, int last) {
        for (int number = used + 1; number <= last; number++) {
            due(x.obtain(0, ROOT, mark(0)), number);
        }
    }

    // Terms: DESTROYING

    private static void destroyingInOrder() {
        sentence("it is noted as destroyed; then those that it owns are destroyed in the same way, the latest made "
                + "first");
        Counted x = new Counted();
        for (int bean = 0; bean < 3; bean++) {
            x.manage(ROOT, mark(bean), DEPENDENT, 0);
        }
        for (int point = 0; point < 2; point++) {
            x.inject(1, ROOT, mark(0));
        }
        for (int point = 0; point < 3; point++) {
            x.inject(2, ROOT, mark(1));
        }
        due(x.deploy(), 0);
        // 1: (2: 3, 4), (5: 6, 7), (8: 9, 10)
        due(x.obtain(0, ROOT, mark(2)), 1);
        due(x.obtain(0, ROOT, mark(1)), 11);
        due(x.destroy(1), 10);
        order(x, 1, 8, 10, 9, 5, 7, 6, 2, 4, 3);
        due(x.live(), 3);
        due(x.destroy(11), 3);
        order(x, 1, 8, 10, 9, 5, 7, 6, 2, 4, 3, 11, 13, 12);
        due(x.live(), 0);
    }

    private static void destroyingDeep() {
        sentence("those that it owns are destroyed in the same way");
        Counted x = withChain(8);
        due(x.obtain(0, ROOT, mark(9)), 1);
        for (int number = 2; number <= 10; number++) {
            due(x.owner(number), number - 1);
            due(x.destroy(number), BAD);
        }
        due(x.destroy(1), 10);
        order(x, 1, 2, 3, 4, 5, 6, 7, 8, 9, 10);
    }

    // Terms: CONTEXTS, and promises 12 and 13

    private static void threads() {
        sentence("There are three threads, 0, 1 and 2");
        Counted x = withOne(REQUEST);
        for (int thread = -40; thread <= 40; thread++) {
            boolean there = thread >= 0 && thread <= 2;
            due(x.end(thread), there ? INACTIVE : BAD);
            due(x.obtain(thread, ROOT, 0), there ? INACTIVE : BAD);
            due(x.begin(thread), there);
            due(x.call(thread, 1, 0), there ? GONE : BAD);
        }
        for (int far : FAR_OFF) {
            due(x.begin(far), false);
            due(x.end(far), BAD);
            due(x.obtain(far, ROOT, 0), BAD);
            due(x.call(far, 1, 0), BAD);
        }
        due(x.obtain(0, ROOT, 0), 1);
        due(x.obtain(1, ROOT, 0), 2);
        due(x.obtain(2, ROOT, 0), 3);
    }

    private static void beginning() {
        sentence("The request context of a thread becomes active, holding nothing: true. False while building, when "
                + "there is no such thread, or when it is active already.");
        for (int thread = 0; thread <= 2; thread++) {
            Counted x = new Counted();
            x.manage(ROOT, 0, REQUEST, 0);
            due(x.begin(thread), false);
            due(x.deploy(), 0);
            due(x.end(thread), INACTIVE);
            due(x.obtain(thread, ROOT, 0), INACTIVE);
            due(x.begin(thread), true);
            due(x.begin(thread), false);
            due(x.obtain(thread, ROOT, 0), 1);
            due(x.begin(thread), false);
            due(x.obtain(thread, ROOT, 0), 1);
            for (int other = 0; other <= 2; other++) {
                due(x.obtain(other, ROOT, 0), other == thread ? 1 : INACTIVE);
            }
            due(x.end(thread), 1);
            due(x.begin(thread), true);
            due(x.obtain(thread, ROOT, 0), 2);
            due(x.shutdown(), 1);
            due(x.begin(thread), false);
            due(x.deploy(), 0);
            due(x.obtain(thread, ROOT, 0), INACTIVE);
            due(x.begin(thread), true);
            due(x.obtain(thread, ROOT, 0), 3);
        }
    }

    private static void ending() {
        sentence("Ends the request context of a thread, which is not active any more then.");
        for (int thread = 0; thread <= 2; thread++) {
            Counted x = new Counted();
            x.manage(ROOT, 64, REQUEST, 0);
            x.manage(ROOT, 128, APPLICATION, 0);
            due(x.end(thread), CLOSED);
            due(x.deploy(), 0);
            due(x.end(thread), INACTIVE);
            for (int other = 0; other <= 2; other++) {
                due(x.begin(other), true);
                due(x.obtain(other, ROOT, 64), other + 1);
            }
            due(x.obtain(thread, ROOT, 128), 4);
            due(x.end(thread), 1);
            due(x.end(thread), INACTIVE);
            order(x, thread + 1);
            for (int other = 0; other <= 2; other++) {
                due(x.obtain(other, ROOT, 64), other == thread ? INACTIVE : other + 1);
            }
            due(x.obtain(thread, ROOT, 128), 4);
            due(x.begin(thread), true);
            due(x.end(thread), 0);
        }
        sentence("each has a REQUEST context that is active between begin and end");
        Counted y = withOne(REQUEST);
        for (int round = 1; round <= 60; round++) {
            int thread = round % 3;
            due(y.obtain(thread, ROOT, 0), INACTIVE);
            due(y.begin(thread), true);
            due(y.obtain(thread, ROOT, 0), round);
            due(y.end(thread), 1);
            due(y.obtain(thread, ROOT, 0), INACTIVE);
        }
    }

    private static void endingInOrder() {
        sentence("ENDING a context: the instances that it holds are destroyed, the latest made first, and it holds "
                + "none.");
        Counted x = new Counted();
        for (int bean = 0; bean < 4; bean++) {
            x.manage(ROOT, mark(bean), REQUEST, 0);
        }
        x.manage(ROOT, mark(4), DEPENDENT, 0);
        x.inject(2, ROOT, mark(4));
        x.inject(2, ROOT, mark(4));
        due(x.deploy(), 0);
        x.begin(1);
        due(x.obtain(1, ROOT, mark(2)), 1);
        due(x.obtain(1, ROOT, mark(0)), 4);
        due(x.obtain(1, ROOT, mark(3)), 5);
        due(x.obtain(1, ROOT, mark(1)), 6);
        due(x.obtain(1, ROOT, mark(4)), 7);
        // Made anew, bean 0 is the latest.
        due(x.destroy(4), 1);
        due(x.obtain(1, ROOT, mark(0)), 8);
        sentence("Answers how many instances were destroyed by that, those owned included.");
        due(x.end(1), 6);
        order(x, 4, 8, 6, 5, 1, 3, 2);
        due(x.live(), 1);
        due(x.begin(1), true);
        due(x.obtain(1, ROOT, mark(3)), 9);
        due(x.end(1), 1);
        order(x, 4, 8, 6, 5, 1, 3, 2, 9);
    }

    private static void endingOnce() {
        sentence("Answers how many instances were destroyed by that, those owned included.");
        for (int count = 0; count <= 16; count++) {
            Counted x = new Counted();
            for (int bean = 0; bean < 16; bean++) {
                x.manage(ROOT, mark(bean), REQUEST, 0);
            }
            x.deploy();
            x.begin(2);
            for (int i = 0; i < count; i++) {
                due(x.obtain(2, ROOT, mark(i * 7 % 16)), i + 1);
            }
            due(x.end(2), count);
            due(x.end(2), INACTIVE);
            for (int k = 0; k < count; k++) {
                due(x.destroyed(k), count - k);
            }
            due(x.destroyed(count), 0);
            due(x.live(), 0);
        }
    }

    private static void oneInstanceOfEachBean() {
        sentence("A context holds at most one instance of each bean.");
        Counted x = new Counted();
        for (int bean = 0; bean < 16; bean++) {
            x.manage(ROOT, mark(bean), REQUEST, 0);
        }
        due(x.deploy(), 0);
        for (int thread = 0; thread <= 2; thread++) {
            due(x.begin(thread), true);
            for (int bean = 0; bean < 16; bean++) {
                due(x.obtain(thread, ROOT, mark(bean)), 16 * thread + bean + 1);
            }
        }
        for (int thread = 0; thread <= 2; thread++) {
            for (int bean = 0; bean < 16; bean++) {
                due(x.obtain(thread, ROOT, mark(bean)), 16 * thread + bean + 1);
            }
        }
        due(x.live(), 48);
        due(x.end(1), 16);
        due(x.obtain(1, ROOT, mark(3)), INACTIVE);
        due(x.obtain(2, ROOT, mark(15)), 48);
        due(x.shutdown(), 32);
        due(x.destroyed(0), 32);
        due(x.destroyed(15), 17);
        due(x.destroyed(16), 16);
        due(x.destroyed(31), 1);
        due(x.destroyed(32), 48);
        due(x.destroyed(47), 33);
    }

    private static void oneApplicationContext() {
        sentence("the APPLICATION context is one for all threads and is active while the container is running");
        Counted x = new Counted();
        for (int bean = 0; bean < 16; bean++) {
            x.manage(ROOT, mark(bean), APPLICATION, 0);
        }
        due(x.obtain(0, ROOT, mark(0)), CLOSED);
        due(x.deploy(), 0);
        for (int bean = 0; bean < 16; bean++) {
            due(x.obtain(bean % 3, ROOT, mark(bean)), bean + 1);
        }
        for (int thread = 0; thread <= 2; thread++) {
            due(x.begin(thread), true);
            for (int bean = 0; bean < 16; bean++) {
                due(x.obtain(thread, ROOT, mark(bean)), bean + 1);
            }
            due(x.end(thread), 0);
        }
        due(x.shutdown(), 16);
        for (int k = 0; k < 16; k++) {
            due(x.destroyed(k), 16 - k);
        }
        due(x.obtain(0, ROOT, mark(0)), CLOSED);
        due(x.deploy(), 0);
        due(x.obtain(0, ROOT, mark(5)), 17);
    }

    private static void reachingHeldOnes() {
        sentence("REACHING a bean of a normal scope on a thread: when the context of its scope is not active there, "
                + "INACTIVE; otherwise the instance that this context holds for it");
        Counted x = new Counted();
        x.manage(ROOT, 64, REQUEST, 0);
        x.manage(ROOT, 128, APPLICATION, 0);
        x.inject(0, ROOT, 128);
        x.inject(0, ROOT, 64);
        x.inject(1, ROOT, 64);
        x.inject(1, ROOT, 128);
        due(x.deploy(), 0);
        due(x.obtain(2, ROOT, 128), 1);
        due(x.call(0, 1, 0), INACTIVE);
        due(x.call(0, 1, 1), 1);
        due(x.begin(0), true);
        due(x.call(0, 1, 0), 2);
        due(x.call(0, 1, 0), 2);
        due(x.call(1, 1, 0), INACTIVE);
        due(x.obtain(0, ROOT, 64), 2);
        due(x.call(0, 2, 0), 1);
        due(x.call(0, 2, 1), 2);
        due(x.call(1, 2, 1), INACTIVE);
        due(x.begin(1), true);
        due(x.call(1, 2, 1), 3);
        due(x.live(), 3);
        due(x.end(0), 1);
        due(x.call(0, 3, 1), INACTIVE);
        due(x.call(0, 3, 0), 1);
        due(x.call(1, 3, 1), 3);
    }

    // Promise 14

    private static void obtaining() {
        sentence("of a DEPENDENT bean a new one (without an owner); of another one the instance that is reached");
        Counted x = new Counted();
        x.manage(ROOT, 64, DEPENDENT, 0);
        x.manage(ROOT, 128, REQUEST, 0);
        x.manage(ROOT, 192, APPLICATION, 0);
        due(x.deploy(), 0);
        x.begin(0);
        due(x.obtain(0, ROOT, 64), 1);
        due(x.obtain(0, ROOT, 64), 2);
        due(x.obtain(0, ROOT, 128), 3);
        due(x.obtain(0, ROOT, 128), 3);
        due(x.obtain(0, ROOT, 192), 4);
        due(x.obtain(1, ROOT, 192), 4);
        due(x.obtain(1, ROOT, 64), 5);
        for (int number = 1; number <= 5; number++) {
            due(x.owner(number), 0);
        }
        due(x.live(), 5);
        sentence("UNSATISFIED or AMBIGUOUS");
        due(x.obtain(0, ROOT, 256), UNSATISFIED);
        due(x.obtain(0, ROOT, -1), AMBIGUOUS);
        due(x.live(), 5);
    }

    private static void obtainingByEveryHead() {
        sentence("UNPROXYABLE when the bean is of a normal scope and the head of type is closed");
        for (int scope = 0; scope <= 2; scope++) {
            Counted x = new Counted();
            plain(x);
            x.declare(2, 0, false, true);
            generic(x);
            x.declare(code(4, VARIABLE), 2, true, true);
            x.produce(-1, 3, 64, scope, 0);
            x.produce(-1, code(5, 3), 128, scope, 0);
            x.produce(-1, code(4, 3), 192, scope, 0);
            due(x.deploy(), 0);
            x.begin(2);
            int refused = scope == DEPENDENT ? 0 : UNPROXYABLE;
            int[][] asked = {
                {3, 64}, {code(5, 3), 128}, {code(5, ANYTHING), 128}, {code(5, KIND_OF, 2), 128},
            };
            for (int[] closed : asked) {
                int got = x.obtain(2, closed[0], closed[1]);
                due(Math.min(got, 0), refused);
            }
            due(x.live(), scope == DEPENDENT ? 4 : 0);
            int[][] open = {{2, 64}, {ROOT, 64}, {2, 128}, {code(4, 3), 128}, {code(4, 3), 192}, {code(4, KIND_OF, 3), 192}};
            for (int[] taken : open) {
                due(x.obtain(2, taken[0], taken[1]) > 0, true);
            }
            due(x.live(), scope == DEPENDENT ? 10 : 3);
        }
    }

    // Promise 15

    private static void callingParts() {
        sentence("the one that was made for this injection point when that resolves to a DEPENDENT bean");
        Counted x = new Counted();
        x.manage(ROOT, 64, DEPENDENT, 0);
        x.manage(ROOT, 128, DEPENDENT, 0);
        x.inject(1, ROOT, 64);
        x.inject(1, ROOT, 64);
        x.inject(1, ROOT, 64);
        due(x.deploy(), 0);
        due(x.obtain(0, ROOT, 128), 1);
        due(x.obtain(0, ROOT, 128), 5);
        for (int thread = 0; thread <= 2; thread++) {
            for (int point = 0; point < 3; point++) {
                due(x.call(thread, 1, point), 2 + point);
                due(x.call(thread, 5, point), 6 + point);
            }
        }
        due(x.live(), 8);
        sentence("GONE when no living instance has that number");
        due(x.destroy(1), 4);
        for (int number = 1; number <= 4; number++) {
            due(x.call(0, number, 0), GONE);
        }
        due(x.call(0, 5, 2), 8);
        due(x.call(0, 0, 0), GONE);
        due(x.call(0, -1, 0), GONE);
        due(x.call(0, 9, 0), GONE);
        due(x.call(0, 200, 0), GONE);
        due(x.call(0, 201, 0), GONE);
        for (int far : FAR_OFF) {
            due(x.call(0, far, 0), GONE);
        }
    }

    private static void callingOnThreads() {
        sentence("otherwise the one that is reached");
        Counted x = new Counted();
        x.manage(ROOT, 64, REQUEST, 0);
        x.manage(ROOT, 128, DEPENDENT, 0);
        x.inject(1, ROOT, 64);
        x.manage(ROOT, 192, REQUEST, 0);
        x.inject(2, ROOT, 128);
        due(x.deploy(), 0);
        due(x.begin(0), true);
        due(x.obtain(0, ROOT, 192), 1);
        due(x.call(0, 1, 0), 2);
        // The part of an instance of thread 0 calls on whatever thread the call is made.
        due(x.call(1, 1, 0), 2);
        due(x.call(1, 2, 0), INACTIVE);
        due(x.begin(1), true);
        due(x.call(1, 2, 0), 3);
        due(x.call(0, 2, 0), 4);
        due(x.obtain(0, ROOT, 64), 4);
        due(x.obtain(1, ROOT, 64), 3);
        due(x.end(1), 1);
        due(x.call(1, 2, 0), INACTIVE);
        due(x.call(0, 2, 0), 4);
        due(x.end(0), 3);
        due(x.call(0, 2, 0), GONE);
    }

    private static void callingEveryPoint() {
        sentence("BAD when its bean has no injection point of that number");
        for (int points = 0; points <= 3; points++) {
            Counted x = new Counted();
            x.manage(ROOT, 64, APPLICATION, 0);
            x.manage(ROOT, 128, DEPENDENT, 0);
            for (int point = 0; point < points; point++) {
                x.inject(1, ROOT, 64);
            }
            due(x.deploy(), 0);
            due(x.obtain(0, ROOT, 128), 1);
            for (int point = -20; point <= 20; point++) {
                due(x.call(0, 1, point), point >= 0 && point < points ? 2 : BAD);
            }
            for (int far : FAR_OFF) {
                due(x.call(0, 1, far), BAD);
            }
            due(x.live(), points == 0 ? 1 : 2);
        }
    }

    // Promise 16

    private static void destroyingThoseWithoutOwner() {
        sentence("Destroys a living instance that has no owner");
        Counted x = withChain(1);
        due(x.obtain(0, ROOT, mark(2)), 1);
        due(x.obtain(0, ROOT, mark(0)), 4);
        due(x.obtain(0, ROOT, mark(11)), 5);
        due(x.live(), 7);
        sentence("BAD when it has an owner");
        for (int owned : new int[] {2, 3, 6, 7}) {
            due(x.destroy(owned), BAD);
            due(x.beanOf(owned) >= 0, true);
        }
        due(x.live(), 7);
        order(x);
        sentence("GONE when no living instance has that number");
        due(x.destroy(8), GONE);
        due(x.destroy(0), GONE);
        due(x.destroy(-1), GONE);
        due(x.destroy(200), GONE);
        due(x.destroy(201), GONE);
        for (int far : FAR_OFF) {
            due(x.destroy(far), GONE);
        }
        sentence("Answers how many were destroyed by that, those owned included.");
        due(x.destroy(4), 1);
        due(x.destroy(4), GONE);
        due(x.destroy(1), 3);
        due(x.destroy(1), GONE);
        due(x.destroy(2), GONE);
        due(x.destroy(5), 3);
        order(x, 4, 1, 2, 3, 5, 6, 7);
        due(x.live(), 0);
    }

    private static void destroyingHeldOnes() {
        sentence("the context that holds it, if one does, holds none for its bean then");
        // The context of thread 0, 1 or 2, or that of the application; and the first or second bean in it.
        for (int context = 0; context <= 3; context++) {
            for (int bean = 0; bean <= 1; bean++) {
                destroyingHeldOne(context, bean);
            }
        }
        Counted x = withOne(APPLICATION);
        for (int number = 1; number <= 100; number++) {
            due(x.obtain(number % 3, ROOT, 0), number);
            due(x.destroy(number), 1);
        }
        due(x.shutdown(), 0);
    }

    private static void destroyingHeldOne(int context, int bean) {
        Counted x = new Counted();
        for (int i = 0; i < 4; i++) {
            x.manage(ROOT, mark(i), i < 2 ? REQUEST : APPLICATION, 0);
        }
        due(x.deploy(), 0);
        for (int thread = 0; thread <= 2; thread++) {
            x.begin(thread);
        }
        for (int number = 1; number <= 8; number++) {
            due(heldAs(x, number), number);
        }
        int destroyed = 2 * context + bean + 1;
        due(x.destroy(destroyed), 1);
        due(x.destroy(destroyed), GONE);
        due(x.live(), 7);
        for (int number = 1; number <= 8; number++) {
            due(heldAs(x, number), number == destroyed ? 9 : number);
        }
        due(x.destroy(9), 1);
        if (context < 3) {
            due(x.end(context), 1);
            due(x.shutdown(), 6);
        } else {
            due(x.shutdown(), 7);
        }
        due(x.destroyed(0), destroyed);
        due(x.destroyed(1), 9);
        due(x.destroyed(8) > 0, true);
        due(x.destroyed(9), 0);
    }

    /** Obtains what is held as this number at first: two of each thread, then two of the application. */
    private static int heldAs(Counted x, int number) {
        int context = (number - 1) / 2;
        int bean = (number - 1) % 2;
        return context < 3 ? x.obtain(context, ROOT, mark(bean)) : x.obtain(0, ROOT, mark(2 + bean));
    }

    // Promise 17

    private static void shuttingDownNothing() {
        sentence("Answers how many instances were destroyed by all that. CLOSED while building.");
        Counted x = new Counted();
        due(x.shutdown(), CLOSED);
        x.manage(ROOT, 0, REQUEST, 0);
        due(x.shutdown(), CLOSED);
        due(x.deploy(), 0);
        due(x.shutdown(), 0);
        due(x.shutdown(), CLOSED);
        due(x.deploy(), 0);
        due(x.begin(1), true);
        due(x.shutdown(), 0);
        due(x.deploy(), 0);
        due(x.begin(1), true);
        due(x.obtain(1, ROOT, 0), 1);
        due(x.destroy(1), 1);
        due(x.shutdown(), 0);
        order(x, 1);
    }

    private static void shuttingDownInOrder() {
        sentence("then destroys the living instances that obtain answered for DEPENDENT beans, the latest made first "
                + "(each with those that it owns, as said above); then ends the application context");
        Counted x = new Counted();
        x.manage(ROOT, 64, DEPENDENT, 0);
        x.manage(ROOT, 128, DEPENDENT, 0);
        x.inject(1, ROOT, 64);
        x.inject(1, ROOT, 64);
        x.manage(ROOT, 192, APPLICATION, 0);
        x.inject(2, ROOT, 128);
        x.manage(ROOT, 256, REQUEST, 0);
        x.inject(3, ROOT, 64);
        x.manage(ROOT, 320, APPLICATION, 0);
        x.produce(1, ROOT, 384, DEPENDENT, 0);
        due(x.deploy(), 0);
        due(x.obtain(0, ROOT, 320), 1);
        due(x.obtain(0, ROOT, 128), 2);                // 3, 4
        due(x.obtain(0, ROOT, 192), 5);                // 6 (7, 8)
        due(x.begin(2), true);
        due(x.begin(1), true);
        due(x.obtain(2, ROOT, 256), 9);                // 10
        due(x.obtain(0, ROOT, 384), 14);               // after its home 11 (12, 13)
        due(x.obtain(1, ROOT, 256), 15);               // 16
        due(x.obtain(0, ROOT, 64), 17);
        due(x.obtain(0, ROOT, 128), 18);               // 19, 20
        due(x.destroy(17), 1);
        order(x, 11, 13, 12, 17);
        due(x.shutdown(), 16);
        order(x, 11, 13, 12, 17, 15, 16, 9, 10, 18, 20, 19, 14, 2, 4, 3, 5, 6, 8, 7, 1);
        due(x.live(), 0);
    }

    private static void shuttingDownThreads() {
        sentence("Ends the request contexts of the threads 0, 1, 2 that are active, in this order (none is active then)");
        for (int active = 0; active < 8; active++) {
            Counted x = withOne(REQUEST);
            int made = 0;
            int[] held = new int[3];
            for (int thread : new int[] {1, 2, 0}) {
                if ((active >> thread & 1) == 1) {
                    due(x.begin(thread), true);
                    made++;
                    held[thread] = made;
                    due(x.obtain(thread, ROOT, 0), made);
                }
            }
            due(x.shutdown(), made);
            int k = 0;
            for (int thread = 0; thread <= 2; thread++) {
                if (held[thread] > 0) {
                    due(x.destroyed(k), held[thread]);
                    k++;
                }
            }
            due(x.destroyed(k), 0);
            due(x.deploy(), 0);
            for (int thread = 0; thread <= 2; thread++) {
                due(x.end(thread), INACTIVE);
                due(x.begin(thread), true);
                due(x.end(thread), 0);
            }
        }
    }

    private static void shuttingDownForBuilding() {
        sentence("from then on the container is building, with all classes, beans and injection points that it has");
        Counted x = new Counted();
        generic(x);
        x.declare(code(2, VARIABLE), 0, true, true);
        x.manage(3, 64, DEPENDENT, 0);
        x.produce(0, code(3, 2), 128, APPLICATION, 5);
        x.inject(1, code(2, ROOT), 64);
        x.inject(1, 3, 64);
        due(x.deploy(), 0);
        due(x.obtain(0, ROOT, 128), 2);
        due(x.shutdown(), 3);
        due(x.cost(0), CLOSED);
        due(x.obtain(0, ROOT, 128), CLOSED);
        due(x.call(0, 2, 0), CLOSED);
        due(x.destroy(2), CLOSED);
        due(x.end(0), CLOSED);
        due(x.begin(0), false);
        due(x.beanOf(2), GONE);
        due(x.types(1), 3);
        due(x.resolve(code(2, 2), -1), 1);
        due(x.inject(1, ROOT, 64), 2);
        due(x.inject(1, ROOT, 64), FULL);
        due(x.declare(3, 0, true, false), BAD);
        due(plain(x), 4);
        due(x.manage(4, 192, DEPENDENT, 0), 2);
        due(x.deploy(), 0);
        due(x.obtain(0, ROOT, 128), 6);
        due(x.call(0, 6, 0), 7);
        due(x.call(0, 6, 1), 8);
        due(x.call(0, 6, 2), 9);
        due(x.obtain(0, 4, 192), 10);
        // The second time, the home (5) comes behind the four of the first.
        order(x, 1, 2, 4, 3, 5);
    }

    // Promises 18 to 21

    private static void beansAndOwners() {
        sentence("GONE when no living instance has that number.");
        Counted x = withChain(1);
        for (int number = -40; number <= 40; number++) {
            due(x.beanOf(number), GONE);
            due(x.owner(number), GONE);
        }
        due(x.obtain(0, ROOT, mark(2)), 1);
        due(x.obtain(0, ROOT, mark(11)), 4);
        sentence("The number of the owner of a living instance; 0 when it has none");
        int[] owners = {0, 1, 2, 0, 4, 5};
        int[] beans = {2, 1, 0, 11, 1, 0};
        for (int number = 1; number <= 6; number++) {
            due(x.owner(number), owners[number - 1]);
            due(x.beanOf(number), beans[number - 1]);
        }
        sentence("GONE when no living instance has that number.");
        for (int gone : new int[] {-1, 0, 7, 199, 200, 201}) {
            due(x.owner(gone), GONE);
            due(x.beanOf(gone), GONE);
        }
        for (int far : FAR_OFF) {
            due(x.owner(far), GONE);
            due(x.beanOf(far), GONE);
        }
        due(x.destroy(1), 3);
        for (int number = 1; number <= 3; number++) {
            due(x.owner(number), GONE);
            due(x.beanOf(number), GONE);
        }
        due(x.owner(5), 4);
        due(x.shutdown(), 3);
        for (int number = 1; number <= 6; number++) {
            due(x.owner(number), GONE);
            due(x.beanOf(number), GONE);
        }
    }

    private static void destroyedNumbers() {
        sentence("The number of the instance that was destroyed as the k-th one (from 0), over the whole life of the "
                + "container; 0 when there is none.");
        Counted x = withOne(DEPENDENT);
        for (int number = 1; number <= 20; number++) {
            x.obtain(0, ROOT, 0);
        }
        for (int i = 1; i <= 20; i++) {
            int number = i * 8 % 21 == 0 ? 20 : i * 8 % 21;
            due(x.destroyed(i - 1), 0);
            due(x.destroy(number), 1);
            due(x.destroyed(i - 1), number);
            due(x.destroyed(0), 8);
            due(x.destroyed(i), 0);
        }
        for (int k : new int[] {-2, -1, 20, 199, 200, 201}) {
            due(x.destroyed(k), 0);
        }
        for (int far : FAR_OFF) {
            due(x.destroyed(far), 0);
        }
        due(x.shutdown(), 0);
        due(x.destroyed(0), 8);
        due(x.destroyed(20), 0);
        due(x.deploy(), 0);
        due(x.obtain(0, ROOT, 0), 21);
        due(x.destroy(21), 1);
        due(x.destroyed(20), 21);
        due(x.destroyed(19), 20 * 8 % 21);
    }

    private static void allDestroyedOnce() {
        sentence("destroys each instance that was made once");
        Counted x = withChain(3);
        for (int thread = 0; thread <= 2; thread++) {
            x.begin(thread);
            x.obtain(thread, ROOT, mark(12));
        }
        x.obtain(0, ROOT, mark(11));
        for (int i = 0; i < 18; i++) {
            x.obtain(0, ROOT, mark(9));
        }
        due(x.live(), 200);
        due(x.obtain(0, ROOT, mark(0)), FULL);
        due(x.destroy(21), 10);
        due(x.end(1), 5);
        due(x.shutdown(), 185);
        boolean[] seen = new boolean[201];
        int once = 0;
        for (int k = 0; k < 200; k++) {
            int number = x.destroyed(k);
            boolean first = number >= 1 && number <= 200 && !seen[number];
            due(first, true);
            if (first) {
                seen[number] = true;
                once++;
            }
        }
        due("destroyed", once, 200);
        due(x.destroyed(200), 0);
        due(x.destroyed(-1), 0);
        due(x.live(), 0);
    }

    private static void livingNumbers() {
        sentence("How many instances are living.");
        Counted x = withOne(DEPENDENT);
        due(x.live(), 0);
        for (int number = 1; number <= 200; number++) {
            x.obtain(0, ROOT, 0);
            if (number % 20 == 0) {
                due(x.live(), number);
            }
        }
        for (int number = 1; number <= 100; number++) {
            x.destroy(number);
            due(x.live(), 200 - number);
        }
        due(x.shutdown(), 100);
        due(x.live(), 0);
    }
}
