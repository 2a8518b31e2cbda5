import java.util.ArrayList;
import java.util.List;
import java.util.function.Consumer;
import java.util.function.ToLongFunction;

/**
 * "A call that is refused changes nothing." Every kind of refusal that the document names is tried
 * on a desk on which much stands. Then all that can be asked is asked, and what can't be asked
 * (credit lines, limits, priorities, untils, amounts) is found out by further calls: all must be as
 * on a desk that never got the refused call.
 */
public final class RefusalsTest {
    private static final int BAD = GridlockDesk.BAD;
    private static final int NEVER = Integer.MAX_VALUE;
    private static final long AMOUNT = 1_000_000_000_000L;
    private static final long LINE = 1_000_000_000_000_000L;
    private static final int[] NO_BANKS = {-1, 4, Integer.MIN_VALUE, Integer.MAX_VALUE};
    private static final int[] NO_PAYMENTS = {-1, 18, 99, 100, Integer.MIN_VALUE, Integer.MAX_VALUE};
    private static final int ENDED = 9;
    private static final int NONE = -1;
    private static final int[][] LIMITS = {
        {NONE, 340, NONE, NONE}, {NONE, NONE, 300, NONE}, {NONE, NONE, NONE, 6}, {0, NONE, NONE, NONE}};
    private static final int[] TOTAL_LIMITS = {40, 0, NONE, 0};

    /** What tells one desk from another that can't be asked. */
    private static final List<Consumer<Trail>> PROBES = List.of(
            RefusalsTest::creditLines, RefusalsTest::limits, RefusalsTest::totalLimits,
            RefusalsTest::prioritiesOfTheFirst, RefusalsTest::prioritiesOfTheLast,
            RefusalsTest::untils, RefusalsTest::amounts);

    private static final Due due = new Due("RefusalsTest");

    /** A desk and all that its calls have answered. */
    private static final class Trail {
        final GridlockDesk desk;
        final List<Long> answers = new ArrayList<>();

        Trail(GridlockDesk desk) {
            this.desk = desk;
        }

        void add(long answer) {
            answers.add(answer);
        }

        void add(boolean answer) {
            answers.add(answer ? 1L : 0L);
        }
    }

    public static void main(String[] args) {
        due.sentence("the desk of these tests is as said", RefusalsTest::theDeskIsAsSaid);
        due.sentence("a change is seen", RefusalsTest::changesAreSeen);
        due.sentence("fund: false if ..", RefusalsTest::fund);
        due.sentence("credit: false if ..", RefusalsTest::credit);
        due.sentence("limit: false if ..", RefusalsTest::limit);
        due.sentence("totalLimit: false if ..", RefusalsTest::totalLimit);
        due.sentence("pay: BAD if ..", RefusalsTest::payBad);
        due.sentence("pay: LONG if 6 are queued at the bank", RefusalsTest::payLong);
        due.sentence("pay: MANY if there are 100 payments", RefusalsTest::payMany);
        due.sentence("cancel: false if ..", RefusalsTest::cancel);
        due.sentence("urge: false if ..", RefusalsTest::urge);
        due.sentence("tick: BAD if n is not as said", RefusalsTest::tick);
        due.sentence("asking changes nothing", RefusalsTest::asking);
        due.end();
    }

    private static void fund() {
        for (int bank : NO_BANKS) {
            refused("fund(" + bank + ", 1)", 0, x -> said(x.fund(bank, 1)));
        }
        for (long amount : new long[] {-AMOUNT - 1, AMOUNT + 1, Long.MIN_VALUE, Long.MAX_VALUE}) {
            refused("fund(0, " + amount + ")", 0, x -> said(x.fund(0, amount)));
        }
        int[] oneTooMuch = {-121, -81, -11, -3};
        for (int bank = 0; bank < 4; bank++) {
            int a = bank;
            refused("fund(" + a + ", one too much)", 0, x -> said(x.fund(a, oneTooMuch[a])));
            refused("fund(" + a + ", least)", 0, x -> said(x.fund(a, -AMOUNT)));
        }
    }

    private static void credit() {
        for (int bank : NO_BANKS) {
            refused("credit(" + bank + ", 1)", 0, x -> said(x.credit(bank, 1)));
        }
        for (long line : new long[] {-1, LINE + 1, Long.MIN_VALUE, Long.MAX_VALUE}) {
            refused("credit(0, " + line + ")", 0, x -> said(x.credit(0, line)));
            refused("credit(3, " + line + ")", 0, x -> said(x.credit(3, line)));
        }
        refused("credit(3, 4) with a debt of 5", 0, x -> said(x.credit(3, 4)));
        refused("credit(3, 0) with a debt of 5", 0, x -> said(x.credit(3, 0)));
    }

    private static void limit() {
        for (int bank : NO_BANKS) {
            refused("limit(" + bank + ", 1, 500)", 0, x -> said(x.limit(bank, 1, 500)));
            refused("limit(0, " + bank + ", 500)", 0, x -> said(x.limit(0, bank, 500)));
            refused("limit(0, " + bank + ", -1)", 0, x -> said(x.limit(0, bank, -1)));
        }
        for (int bank = 0; bank < 4; bank++) {
            int a = bank;
            refused("limit(" + a + ", " + a + ", 500)", 0, x -> said(x.limit(a, a, 500)));
            refused("limit(" + a + ", " + a + ", 0)", 0, x -> said(x.limit(a, a, 0)));
            refused("limit(" + a + ", " + a + ", -1)", 0, x -> said(x.limit(a, a, -1)));
        }
        for (long amount : new long[] {-2, LINE + 1, Long.MIN_VALUE, Long.MAX_VALUE}) {
            refused("limit(0, 1, " + amount + ")", 0, x -> said(x.limit(0, 1, amount)));
            refused("limit(1, 0, " + amount + ")", 0, x -> said(x.limit(1, 0, amount)));
        }
        refused("limit(0, 1, 329) at 330", 0, x -> said(x.limit(0, 1, 329)));
        refused("limit(0, 1, 0) at 330", 0, x -> said(x.limit(0, 1, 0)));
        refused("limit(1, 2, 299) at 300", 0, x -> said(x.limit(1, 2, 299)));
        refused("limit(2, 0, 299) at 300", 0, x -> said(x.limit(2, 0, 299)));
    }

    private static void totalLimit() {
        for (int bank : NO_BANKS) {
            refused("totalLimit(" + bank + ", 500)", 0, x -> said(x.totalLimit(bank, 500)));
            refused("totalLimit(" + bank + ", -1)", 0, x -> said(x.totalLimit(bank, -1)));
        }
        for (long amount : new long[] {-2, LINE + 1, Long.MIN_VALUE, Long.MAX_VALUE}) {
            refused("totalLimit(0, " + amount + ")", 0, x -> said(x.totalLimit(0, amount)));
            refused("totalLimit(1, " + amount + ")", 0, x -> said(x.totalLimit(1, amount)));
        }
        refused("totalLimit(0, 29) at 30", 0, x -> said(x.totalLimit(0, 29)));
        refused("totalLimit(0, 0) at 30", 0, x -> said(x.totalLimit(0, 0)));
        refused("totalLimit(2, 4) at 5", 0, x -> said(x.totalLimit(2, 4)));
    }

    private static void payBad() {
        for (int bank : NO_BANKS) {
            refused("pay from " + bank, BAD, x -> x.pay(bank, 1, 1, 3, 9));
            refused("pay to " + bank, BAD, x -> x.pay(1, bank, 1, 3, 9));
            refused("pay to " + bank + " from a full queue", BAD, x -> x.pay(0, bank, 1, 3, 9));
        }
        for (int bank = 0; bank < 4; bank++) {
            int a = bank;
            refused("pay from " + a + " to itself", BAD, x -> x.pay(a, a, 1, 3, 9));
        }
        for (long amount : new long[] {0, -1, AMOUNT + 1, Long.MIN_VALUE, Long.MAX_VALUE}) {
            refused("pay of " + amount, BAD, x -> x.pay(1, 2, amount, 3, 9));
            refused("pay of " + amount + " into a full queue", BAD, x -> x.pay(0, 2, amount, 3, 9));
        }
        for (int priority : new int[] {-1, 4, Integer.MIN_VALUE, Integer.MAX_VALUE}) {
            refused("pay with priority " + priority, BAD, x -> x.pay(1, 2, 1, priority, 9));
        }
        for (int until : new int[] {0, -1, Integer.MIN_VALUE}) {
            refused("pay until " + until + " at 1", BAD, x -> x.pay(1, 2, 1, 3, until));
        }
    }

    private static void payLong() {
        for (int priority = 0; priority <= 3; priority++) {
            int p = priority;
            refused("a seventh with priority " + p, GridlockDesk.LONG, x -> x.pay(0, 2, AMOUNT, p, 9));
            refused("a seventh that could be paid", GridlockDesk.LONG, x -> x.pay(0, 2, 1, p, 9));
        }
    }

    private static void payMany() {
        int many = GridlockDesk.MANY;
        List<ToLongFunction<GridlockDesk>> calls = List.of(
                x -> x.pay(0, 1, 1, 0, 9), x -> x.pay(0, 1, AMOUNT, 3, 9), x -> x.pay(1, 0, 1, 3, 9),
                x -> x.pay(0, 1, 0, 0, 9), x -> x.pay(1, 1, 1, 0, 9));
        int[] answers = {many, many, many, BAD, BAD};
        Trail untouched = new Trail(deskOfAHundred());
        endOfTheHundred(untouched);
        for (int i = 0; i < answers.length; i++) {
            Trail trail = new Trail(deskOfAHundred());
            due.is("call " + i + " on a desk of 100", calls.get(i).applyAsLong(trail.desk), answers[i]);
            endOfTheHundred(trail);
            due.holds("call " + i + " on a desk of 100 changes nothing",
                    trail.answers.equals(untouched.answers));
        }
    }

    private static void cancel() {
        for (int k : NO_PAYMENTS) {
            refused("cancel(" + k + ")", 0, x -> said(x.cancel(k)));
        }
        for (int ended = 0; ended < ENDED; ended++) {
            int k = ended;
            refused("cancel(" + k + "), which has ended", 0, x -> said(x.cancel(k)));
        }
    }

    private static void urge() {
        for (int k : NO_PAYMENTS) {
            refused("urge(" + k + ", 3)", 0, x -> said(x.urge(k, 3)));
        }
        for (int ended = 0; ended < ENDED; ended++) {
            int k = ended;
            refused("urge(" + k + ", 3), which has ended", 0, x -> said(x.urge(k, 3)));
        }
        for (int priority : new int[] {-1, 4, Integer.MIN_VALUE, Integer.MAX_VALUE}) {
            for (int k : new int[] {9, 10, 11, 15, 17}) {
                refused("urge(" + k + ", " + priority + ")", 0, x -> said(x.urge(k, priority)));
            }
        }
    }

    private static void tick() {
        for (int n : new int[] {0, -1, 1001, Integer.MIN_VALUE, Integer.MAX_VALUE}) {
            refused("tick(" + n + ")", BAD, x -> x.tick(n));
        }
    }

    private static void asking() {
        for (int bank : NO_BANKS) {
            refused("balance(" + bank + ")", 0, x -> x.balance(bank));
            refused("position(" + bank + ", 0)", 0, x -> x.position(bank, 0));
            refused("position(0, " + bank + ")", 0, x -> x.position(0, bank));
            refused("waiting(" + bank + ")", BAD, x -> x.waiting(bank));
            refused("queued(" + bank + ", 0)", BAD, x -> x.queued(bank, 0));
        }
        for (int i : new int[] {-1, 6, Integer.MIN_VALUE, Integer.MAX_VALUE}) {
            refused("queued(0, " + i + ")", BAD, x -> x.queued(0, i));
        }
        for (int k : NO_PAYMENTS) {
            refused("state(" + k + ")", BAD, x -> x.state(k));
        }
        refused("turnover()", 1325, GridlockDesk::turnover);
        refused("now()", 1, GridlockDesk::now);
        refused("resolve() where there is nothing to settle", 0, GridlockDesk::resolve);
    }

    private static void refused(String call, long answer, ToLongFunction<GridlockDesk> run) {
        due.is(call, run.applyAsLong(busyDesk()), answer);
        due.holds(call + " changes nothing", changesNothing(run));
    }

    /** Were a change not seen, a test that finds none would be worth nothing. */
    private static void changesAreSeen() {
        List<ToLongFunction<GridlockDesk>> calls = List.of(
                x -> said(x.fund(0, 1)), x -> said(x.credit(0, 51)), x -> said(x.credit(1, 29)),
                x -> said(x.credit(3, 8)), x -> said(x.limit(0, 1, 341)), x -> said(x.limit(0, 1, -1)),
                x -> said(x.limit(1, 2, 301)), x -> said(x.limit(1, 0, 500)), x -> said(x.limit(3, 0, 1)),
                x -> said(x.limit(3, 2, AMOUNT - 1)), x -> said(x.totalLimit(0, 41)),
                x -> said(x.totalLimit(0, -1)), x -> said(x.totalLimit(1, 1)), x -> said(x.totalLimit(2, 5)),
                x -> said(x.urge(17, 3)), x -> said(x.urge(9, 0)), x -> said(x.urge(15, 1)),
                x -> said(x.cancel(14)), x -> x.tick(1), x -> x.pay(3, 1, AMOUNT, 0, 9), x -> 1 + x.close());
        for (int i = 0; i < calls.size(); i++) {
            due.holds("call " + i + " is taken", calls.get(i).applyAsLong(busyDesk()) >= 0);
            due.holds("call " + i + " is seen", !changesNothing(calls.get(i)));
        }
    }

    private static boolean changesNothing(ToLongFunction<GridlockDesk> run) {
        for (Consumer<Trail> probe : PROBES) {
            Trail untouched = new Trail(busyDesk());
            Trail touched = new Trail(busyDesk());
            run.applyAsLong(touched.desk);
            probe.accept(untouched);
            probe.accept(touched);
            if (!untouched.answers.equals(touched.answers)) {
                return false;
            }
        }
        return true;
    }

    /**
     * Payments 0 to 8 have ended in all the ways there are, 9 to 17 are queued. The queue of bank 0
     * is full and that of bank 3 empty. Bank 3 is in debt.
     */
    private static GridlockDesk busyDesk() {
        GridlockDesk x = new GridlockDesk(4);
        x.pay(0, 1, 500, 0, 9);
        x.close();
        x.fund(0, 100);
        x.fund(1, 20);
        x.fund(2, 10);
        x.credit(0, 50);
        x.credit(1, 30);
        x.credit(2, 5);
        x.credit(3, 7);
        x.pay(0, 1, 30, 0, 9);
        x.pay(2, 3, 200, 0, 9);
        x.pay(3, 2, 195, 0, 9);
        x.pay(0, 1, 300, 0, 9);
        x.pay(1, 2, 300, 0, 9);
        x.pay(2, 0, 300, 0, 9);
        x.resolve();
        x.pay(0, 1, 400, 0, 9);
        x.cancel(7);
        x.pay(1, 2, 400, 0, 0);
        x.tick(1);
        x.fund(3, -10);
        setLimits(x);
        fillQueues(x);
        return x;
    }

    private static void setLimits(GridlockDesk x) {
        for (int a = 0; a < 4; a++) {
            x.totalLimit(a, TOTAL_LIMITS[a]);
            for (int b = 0; b < 4; b++) {
                if (LIMITS[a][b] != NONE) {
                    x.limit(a, b, LIMITS[a][b]);
                }
            }
        }
    }

    private static void fillQueues(GridlockDesk x) {
        int[] priorities = {1, 0, 3, 1, 2, 0};
        for (int i = 0; i < priorities.length; i++) {
            x.pay(0, 1 + i % 3, 1000 + i, priorities[i], 3 + i);
        }
        x.pay(1, 2, 700, 2, 5);
        x.pay(1, 3, 800, 0, 1);
        x.pay(2, 1, 900, 1, NEVER);
    }

    private static void theDeskIsAsSaid() {
        GridlockDesk x = busyDesk();
        int[] states = {6, 1, 2, 2, 3, 3, 3, 4, 5, 0, 0, 0, 0, 0, 0, 0, 0, 0, BAD};
        for (int k = 0; k < states.length; k++) {
            due.is("state(" + k + ")", x.state(k), states[k]);
        }
        long[] balances = {70, 50, 5, -5};
        int[] waiting = {6, 2, 1, 0};
        for (int a = 0; a < 4; a++) {
            due.is("balance(" + a + ")", x.balance(a), balances[a]);
            due.is("waiting(" + a + ")", x.waiting(a), waiting[a]);
        }
        due.is("position(0, 1)", x.position(0, 1), 330);
        due.is("position(1, 2)", x.position(1, 2), 300);
        due.is("position(2, 0)", x.position(2, 0), 300);
        due.is("position(2, 3)", x.position(2, 3), 5);
    }

    /** 94 settled ones, and six that wait at bank 1. */
    private static GridlockDesk deskOfAHundred() {
        GridlockDesk x = new GridlockDesk(2);
        x.credit(0, 100);
        for (int k = 0; k < 94; k++) {
            x.pay(0, 1, 1, 0, 9);
        }
        for (int k = 94; k < 100; k++) {
            x.pay(1, 0, 1000, k % 4, k);
        }
        return x;
    }

    private static void endOfTheHundred(Trail trail) {
        GridlockDesk x = trail.desk;
        askAll(trail, 0, 101);
        trail.add(x.tick(95));
        trail.add(x.fund(1, 2000));
        askAll(trail, 90, 101);
        trail.add(x.close());
        trail.add(x.pay(0, 1, 1, 0, 999));
        askAll(trail, 90, 101);
        takeAll(trail);
    }

    private static void askAll(Trail trail, int firstPayment, int payments) {
        GridlockDesk x = trail.desk;
        for (int a = 0; a < 4; a++) {
            trail.add(x.balance(a));
            trail.add(x.waiting(a));
            for (int b = 0; b < 4; b++) {
                trail.add(x.position(a, b));
            }
            askQueue(trail, a);
        }
        for (int k = firstPayment; k < payments; k++) {
            trail.add(x.state(k));
        }
        trail.add(x.turnover());
        trail.add(x.now());
    }

    private static void askQueue(Trail trail, int bank) {
        for (int i = 0; i < 6; i++) {
            trail.add(trail.desk.queued(bank, i));
        }
    }

    private static void creditLines(Trail trail) {
        askAll(trail, 0, 20);
        takeAll(trail);
    }

    /** Takes from each bank all that it may, to the last unit. */
    private static void takeAll(Trail trail) {
        GridlockDesk x = trail.desk;
        for (int a = 0; a < 4; a++) {
            for (long amount = 4096; amount >= 1; amount /= 2) {
                trail.add(x.fund(a, -amount));
            }
            trail.add(x.balance(a));
        }
    }

    private static void limits(Trail trail) {
        GridlockDesk x = trail.desk;
        lendAll(x);
        for (int a = 0; a < 4; a++) {
            x.totalLimit(a, -1);
        }
        for (int a = 0; a < 4; a++) {
            for (int b = 0; b < 4; b++) {
                if (a != b) {
                    x.close();
                    payUpTo(trail, a, b, LIMITS[a][b]);
                }
            }
        }
    }

    private static void totalLimits(Trail trail) {
        GridlockDesk x = trail.desk;
        lendAll(x);
        dropLimits(x);
        for (int a = 0; a < 4; a++) {
            x.close();
            payUpTo(trail, a, (a + 1) % 4, TOTAL_LIMITS[a]);
        }
    }

    /** First a payment that the limit just allows, then one that it just does not. */
    private static void payUpTo(Trail trail, int a, int b, int limit) {
        GridlockDesk x = trail.desk;
        if (limit != 0) {
            trail.add(x.state(x.pay(a, b, limit == NONE ? AMOUNT : limit, 0, NEVER)));
        }
        trail.add(x.state(x.pay(a, b, 1, 0, NEVER)));
    }

    private static void prioritiesOfTheFirst(Trail trail) {
        priorities(trail, 5);
    }

    private static void prioritiesOfTheLast(Trail trail) {
        priorities(trail, 0);
    }

    /** A payment of each priority shows by its place which priorities the others have. */
    private static void priorities(Trail trail, int givesRoom) {
        GridlockDesk x = trail.desk;
        trail.add(x.cancel(x.queued(0, givesRoom)));
        for (int a = 0; a < 4; a++) {
            for (int priority = 0; priority <= 3; priority++) {
                int k = x.pay(a, (a + 1) % 4, AMOUNT, priority, NEVER);
                trail.add(k);
                askQueue(trail, a);
                trail.add(x.cancel(k));
            }
        }
    }

    private static void untils(Trail trail) {
        GridlockDesk x = trail.desk;
        for (int i = 0; i < 10; i++) {
            trail.add(x.tick(1));
            for (int k = 9; k < 18; k++) {
                trail.add(x.state(k));
            }
        }
        trail.add(x.now());
    }

    /** When nothing holds them back any more, all payments are settled. */
    private static void amounts(Trail trail) {
        GridlockDesk x = trail.desk;
        dropLimits(x);
        for (int a = 0; a < 4; a++) {
            x.totalLimit(a, -1);
        }
        for (int a = 0; a < 4; a++) {
            x.credit(a, LINE);
            askAll(trail, 0, 19);
        }
    }

    private static void lendAll(GridlockDesk x) {
        x.close();
        for (int a = 0; a < 4; a++) {
            x.credit(a, LINE);
        }
    }

    private static void dropLimits(GridlockDesk x) {
        for (int a = 0; a < 4; a++) {
            for (int b = 0; b < 4; b++) {
                x.limit(a, b, -1);
            }
        }
    }

    private static long said(boolean answer) {
        return answer ? 1 : 0;
    }
}
