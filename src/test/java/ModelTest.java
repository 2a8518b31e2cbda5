import java.util.Random;

/**
 * Long runs of mixed calls on a GridlockDesk and on a PlainDesk: every answer, and all that can be
 * asked after each call, must be the same. The seeds are fixed, so the runs are always the same.
 * With the asking an object gets more than the document's 512 calls; the class happens to allow it.
 */
public final class ModelTest {
    private static final int RUNS = 240;
    private static final int CALLS = 320;
    private static final long[] ODD_LONGS = {Long.MIN_VALUE, -1_000_000_000_000_001L, -1_000_000_000_001L,
            -1_000_000_000_000L, -2, -1, 0, 1, 1_000_000_000_000L, 1_000_000_000_001L, 1_000_000_000_000_000L,
            1_000_000_000_000_001L, Long.MAX_VALUE};
    private static final int[] ODD_INTS = {Integer.MIN_VALUE, -2, -1, 0, 1, 3, 4, 5, 6, 99, 100, 101, 1000, 1001,
            Integer.MAX_VALUE};

    private final Due due = new Due("ModelTest");
    private final int[] statesSeen = new int[7];
    private int resolvedMany;
    private int resolvedDeep;
    private int refused;
    private int manySeen;
    private int longSeen;

    private Random random;
    private GridlockDesk desk;
    private PlainDesk plain;
    private long scale;
    private boolean limited;

    public static void main(String[] args) {
        ModelTest test = new ModelTest();
        for (int seed = 0; seed < RUNS && !test.due.anyWrong(); seed++) {
            test.run(seed);
        }
        test.sawEverything();
        test.due.end();
    }

    private void run(int seed) {
        random = new Random(seed);
        int banks = random.nextInt(6);
        desk = new GridlockDesk(banks);
        plain = new PlainDesk(banks);
        scale = random.nextInt(4) == 0 ? 10_000_000_000L : 1;
        limited = random.nextBoolean();
        for (int i = 0; i < CALLS && !due.anyWrong(); i++) {
            String call = "seed " + seed + ", call " + i + ": " + step();
            compareAll(call);
        }
        for (int k = 0; plain.state(k) >= 0; k++) {
            statesSeen[plain.state(k)]++;
        }
    }

    private String step() {
        int kind = random.nextInt(100);
        if (kind < 52) {
            return pay();
        }
        if (kind < 58) {
            return fund();
        }
        if (kind < 62) {
            return credit();
        }
        if (kind < 72) {
            return limited ? kind < 68 ? limit() : totalLimit() : pay();
        }
        if (kind < 76) {
            int k = number();
            return same("cancel(" + k + ")", desk.cancel(k), plain.cancel(k));
        }
        if (kind < 84) {
            int k = number();
            int priority = odd(random.nextInt(4));
            return same("urge(" + k + ", " + priority + ")", desk.urge(k, priority), plain.urge(k, priority));
        }
        if (kind < 94) {
            return resolve();
        }
        if (kind < 99) {
            int n = odd(1 + random.nextInt(2));
            return same("tick(" + n + ")", desk.tick(n), plain.tick(n));
        }
        return random.nextInt(3) != 0 ? pay() : same("close()", desk.close(), plain.close());
    }

    private String pay() {
        int from = bank();
        int to = random.nextInt(10) != 0 && from >= 0 && from < plain.n
                ? (from + 1 + random.nextInt(plain.n - 1)) % plain.n : bank();
        long amount = odd(scale * (1 + random.nextInt(50)));
        int priority = odd(random.nextInt(4));
        int until = odd(plain.now() + random.nextInt(20) - 1);
        int got = desk.pay(from, to, amount, priority, until);
        manySeen += got == -3 ? 1 : 0;
        longSeen += got == -2 ? 1 : 0;
        return same("pay(" + from + ", " + to + ", " + amount + ", " + priority + ", " + until + ")", got,
                plain.pay(from, to, amount, priority, until));
    }

    private String fund() {
        int bank = bank();
        long amount = odd(scale * (random.nextInt(25) - 10));
        return same("fund(" + bank + ", " + amount + ")", desk.fund(bank, amount), plain.fund(bank, amount));
    }

    private String credit() {
        int bank = bank();
        long line = random.nextInt(8) == 0 ? odd(0) : scale * random.nextInt(12);
        return same("credit(" + bank + ", " + line + ")", desk.credit(bank, line), plain.credit(bank, line));
    }

    private String limit() {
        int from = bank();
        int to = bank();
        long amount = odd(random.nextInt(4) == 0 ? -1 : scale * random.nextInt(60));
        return same("limit(" + from + ", " + to + ", " + amount + ")", desk.limit(from, to, amount),
                plain.limit(from, to, amount));
    }

    private String totalLimit() {
        int bank = bank();
        long amount = odd(random.nextInt(4) == 0 ? -1 : scale * random.nextInt(60));
        return same("totalLimit(" + bank + ", " + amount + ")", desk.totalLimit(bank, amount),
                plain.totalLimit(bank, amount));
    }

    private String resolve() {
        int got = desk.resolve();
        resolvedMany += got >= 3 ? 1 : 0;
        resolvedDeep += got >= 5 ? 1 : 0;
        return same("resolve()", got, plain.resolve());
    }

    private int bank() {
        return random.nextInt(25) == 0 ? ODD_INTS[random.nextInt(ODD_INTS.length)] : random.nextInt(plain.n);
    }

    /** Mostly one that waits, so that the call has something to do. */
    private int number() {
        int bank = random.nextInt(plain.n);
        int waiting = plain.waiting(bank);
        return waiting > 0 && random.nextInt(5) != 0 ? plain.queued(bank, random.nextInt(waiting))
                : odd(random.nextInt(105) - 2);
    }

    private int odd(int usual) {
        return random.nextInt(60) == 0 ? ODD_INTS[random.nextInt(ODD_INTS.length)] : usual;
    }

    private long odd(long usual) {
        return random.nextInt(60) == 0 ? ODD_LONGS[random.nextInt(ODD_LONGS.length)] : usual;
    }

    private String same(String call, boolean got, boolean want) {
        return same(call, got ? 1 : 0, want ? 1 : 0);
    }

    private String same(String call, long got, long want) {
        due.is(call, got, want);
        refused += want <= 0 ? 1 : 0;
        return call;
    }

    private void compareAll(String call) {
        for (int a = -1; a <= 4; a++) {
            due.is(call + ", then balance(" + a + ")", desk.balance(a), plain.balance(a));
            due.is(call + ", then waiting(" + a + ")", desk.waiting(a), plain.waiting(a));
            for (int b = -1; b <= 4; b++) {
                due.is(call + ", then position(" + a + ", " + b + ")", desk.position(a, b), plain.position(a, b));
            }
            for (int i = -1; i <= 6; i++) {
                due.is(call + ", then queued(" + a + ", " + i + ")", desk.queued(a, i), plain.queued(a, i));
            }
        }
        for (int k = -1; k <= 100; k++) {
            due.is(call + ", then state(" + k + ")", desk.state(k), plain.state(k));
        }
        due.is(call + ", then turnover()", desk.turnover(), plain.turnover());
        due.is(call + ", then now()", desk.now(), plain.now());
    }

    /** A comparison of runs in which nothing happens would be worth nothing. */
    private void sawEverything() {
        StringBuilder seen = new StringBuilder("ModelTest: states");
        for (int state = 0; state < statesSeen.length; state++) {
            seen.append(' ').append(state).append(':').append(statesSeen[state]);
            due.holds("some payments ended in state " + state, statesSeen[state] >= 100);
        }
        System.out.println(seen + ", resolved 3 or more " + resolvedMany + ", 5 or more " + resolvedDeep
                + ", refused or 0 " + refused + ", MANY " + manySeen + ", LONG " + longSeen);
        due.holds("some resolving settled three or more", resolvedMany >= 100);
        due.holds("some resolving settled five or more", resolvedDeep >= 20);
        due.holds("some calls were refused", refused >= 100);
        due.holds("some were MANY", manySeen >= 10);
        due.holds("some were LONG", longSeen >= 10);
    }
}
