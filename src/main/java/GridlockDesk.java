import java.util.Arrays;

/**
 * A desk at which banks pay one another out of their balances. Payments that can't be settled wait
 * in queues; pairs of them are offset, and a gridlock of many is resolved all at once.
 */
public final class GridlockDesk {
    public static final int BAD = -1;
    public static final int LONG = -2;
    public static final int MANY = -3;

    private static final int LEAST_BANKS = 2;
    private static final int MOST_BANKS = 4;
    private static final int MOST_PAYMENTS = 100;
    private static final int MOST_QUEUED = 6;
    private static final int MOST_QUEUED_IN_ALL = MOST_BANKS * MOST_QUEUED;
    private static final int MOST_PRIORITY = 3;
    private static final int MOST_TICK = 1000;
    private static final long MOST_AMOUNT = 1000000000000L;
    private static final long MOST_LINE = 1000000000000000L;
    private static final long NO_LIMIT = -1L;
    private static final int NO_BANK = -1;

    private static final int QUEUED = 0;
    private static final int SETTLED_ALONE = 1;
    private static final int SETTLED_IN_PAIR = 2;
    private static final int SETTLED_BY_RESOLVING = 3;
    private static final int CANCELLED = 4;
    private static final int EXPIRED = 5;
    private static final int REJECTED = 6;

    private final Bank[] banks;
    private final Payment[] payments;
    private int paymentCount;
    private long settledSum;
    private int time;

    /**
     * The choice at hand: the first chosen[a] payments of the queue of each bank a. Heads alone,
     * pairs and resolving all ask the same question of it, and each sets it anew before it asks.
     */
    private final int[] chosen;

    public GridlockDesk(int banks) {
        int count = Math.max(LEAST_BANKS, Math.min(MOST_BANKS, banks));
        this.banks = new Bank[count];
        for (int a = 0; a < count; a++) {
            this.banks[a] = new Bank(count);
        }
        payments = new Payment[MOST_PAYMENTS];
        chosen = new int[count];
    }

    public boolean fund(int bank, long amount) {
        if (!isBank(bank) || amount < -MOST_AMOUNT || amount > MOST_AMOUNT) {
            return false;
        }
        Bank funded = banks[bank];
        if (funded.balance + amount < -funded.creditLine) {
            return false;
        }
        funded.balance += amount;
        sweep();
        return true;
    }

    public boolean credit(int bank, long line) {
        if (!isBank(bank) || line < 0 || line > MOST_LINE || banks[bank].balance < -line) {
            return false;
        }
        banks[bank].creditLine = line;
        sweep();
        return true;
    }

    public boolean limit(int from, int to, long amount) {
        if (!areTwoBanks(from, to) || !isLimit(amount) || exceeds(positionOf(from, to), amount)) {
            return false;
        }
        banks[from].limits[to] = amount;
        sweep();
        return true;
    }

    public boolean totalLimit(int bank, long amount) {
        if (!isBank(bank) || !isLimit(amount) || exceeds(totalPositionOf(bank), amount)) {
            return false;
        }
        banks[bank].totalLimit = amount;
        sweep();
        return true;
    }

    public int pay(int from, int to, long amount, int priority, int until) {
        boolean sound = areTwoBanks(from, to) && amount >= 1 && amount <= MOST_AMOUNT
                && isPriority(priority) && until >= time;
        if (!sound) {
            return BAD;
        }
        if (paymentCount >= MOST_PAYMENTS) {
            return MANY;
        }
        if (banks[from].queueLength >= MOST_QUEUED) {
            return LONG;
        }
        int number = paymentCount;
        Payment payment = new Payment(number, from, to, amount, priority, until);
        payments[number] = payment;
        paymentCount++;
        banks[from].enqueue(payment);
        sweep();
        return number;
    }

    public boolean cancel(int k) {
        if (!isQueued(k)) {
            return false;
        }
        end(payments[k], CANCELLED);
        sweep();
        return true;
    }

    public boolean urge(int k, int priority) {
        if (!isQueued(k) || !isPriority(priority)) {
            return false;
        }
        Payment payment = payments[k];
        Bank bank = banks[payment.from];
        bank.remove(payment);
        payment.priority = priority;
        bank.enqueue(payment);
        sweep();
        return true;
    }

    public int resolve() {
        chooseGreatest();
        int settled = settleChosen(SETTLED_BY_RESOLVING);
        sweep();
        return settled;
    }

    public int tick(int n) {
        if (n < 1 || n > MOST_TICK) {
            return BAD;
        }
        time += n;
        int expired = 0;
        for (int k = 0; k < paymentCount; k++) {
            if (isQueued(k) && payments[k].until < time) {
                end(payments[k], EXPIRED);
                expired++;
            }
        }
        sweep();
        return expired;
    }

    public int close() {
        int rejected = 0;
        for (int k = 0; k < paymentCount; k++) {
            if (isQueued(k)) {
                end(payments[k], REJECTED);
                rejected++;
            }
        }
        for (Bank bank : banks) {
            Arrays.fill(bank.sent, 0L);
        }
        // No sweeping: no payment is queued any more.
        return rejected;
    }

    public long balance(int bank) {
        return isBank(bank) ? banks[bank].balance : 0L;
    }

    public long position(int a, int b) {
        return areTwoBanks(a, b) ? positionOf(a, b) : 0L;
    }

    public int waiting(int bank) {
        return isBank(bank) ? banks[bank].queueLength : BAD;
    }

    public int queued(int bank, int i) {
        if (!isBank(bank) || i < 0 || i >= banks[bank].queueLength) {
            return BAD;
        }
        return banks[bank].queue[i].number;
    }

    public int state(int k) {
        return isPayment(k) ? payments[k].fate : BAD;
    }

    public long turnover() {
        return settledSum;
    }

    public int now() {
        return time;
    }

    private boolean isBank(int bank) {
        return bank >= 0 && bank < banks.length;
    }

    private boolean areTwoBanks(int a, int b) {
        return isBank(a) && isBank(b) && a != b;
    }

    private boolean isPayment(int k) {
        return k >= 0 && k < paymentCount;
    }

    private boolean isQueued(int k) {
        return isPayment(k) && payments[k].fate == QUEUED;
    }

    private static boolean isPriority(int priority) {
        return priority >= 0 && priority <= MOST_PRIORITY;
    }

    private static boolean isLimit(long amount) {
        return amount == NO_LIMIT || amount >= 0 && amount <= MOST_LINE;
    }

    private static boolean exceeds(long position, long limit) {
        return limit != NO_LIMIT && position > limit;
    }

    private long positionOf(int a, int b) {
        return banks[a].sent[b] - banks[b].sent[a];
    }

    private long totalPositionOf(int a) {
        long total = 0;
        for (int b = 0; b < banks.length; b++) {
            total += positionOf(a, b);
        }
        return total;
    }

    private void sweep() {
        // Each round but the last settles at least one payment, so no more rounds can be needed.
        for (int round = 0; round < MOST_QUEUED_IN_ALL; round++) {
            if (chooseReadyHead()) {
                settleChosen(SETTLED_ALONE);
            } else if (chooseReadyPair()) {
                settleChosen(SETTLED_IN_PAIR);
            } else {
                return;
            }
        }
    }

    private boolean chooseReadyHead() {
        for (int a = 0; a < banks.length; a++) {
            if (banks[a].queueLength > 0 && chooseHeads(a, a)) {
                return true;
            }
        }
        return false;
    }

    private boolean chooseReadyPair() {
        for (int a = 0; a < banks.length; a++) {
            int b = banks[a].headGoesTo();
            if (b > a && banks[b].headGoesTo() == a && chooseHeads(a, b)) {
                return true;
            }
        }
        return false;
    }

    /** Answers whether these are ready. Both banks must have a head; they may be the same bank. */
    private boolean chooseHeads(int a, int b) {
        Arrays.fill(chosen, 0);
        chosen[a] = 1;
        chosen[b] = 1;
        return firstUnwellBank() == NO_BANK;
    }

    /**
     * Starts with all queued payments. Where a bank would not be well, it would be no better off if
     * others paid less, so in every ready choice it pays less itself: its last payment is given up.
     * What is left when all would be well is thus the greatest ready choice.
     */
    private void chooseGreatest() {
        for (int a = 0; a < banks.length; a++) {
            chosen[a] = banks[a].queueLength;
        }
        for (int givenUp = 0; givenUp < MOST_QUEUED_IN_ALL; givenUp++) {
            int a = firstUnwellBank();
            if (a == NO_BANK) {
                return;
            }
            chosen[a]--;
        }
    }

    /** The chosen payments are ready when there is no such bank. */
    private int firstUnwellBank() {
        for (int a = 0; a < banks.length; a++) {
            if (!wouldBeWell(a)) {
                return a;
            }
        }
        return NO_BANK;
    }

    private boolean wouldBeWell(int a) {
        Bank bank = banks[a];
        long total = 0;
        long paidOut = 0;
        // A bank sends nothing to itself and has no limit there, so b == a needs no exception.
        for (int b = 0; b < banks.length; b++) {
            long position = bank.sentWith(chosen[a], b) - banks[b].sentWith(chosen[b], a);
            if (exceeds(position, bank.limits[b])) {
                return false;
            }
            total += position;
            // What the chosen payments add to a position, they take from the balance.
            paidOut += position - positionOf(a, b);
        }
        return bank.balance - paidOut >= -bank.creditLine && !exceeds(total, bank.totalLimit);
    }

    private int settleChosen(int fate) {
        int settled = 0;
        for (int a = 0; a < banks.length; a++) {
            for (int i = 0; i < chosen[a] && banks[a].queueLength > 0; i++) {
                settle(banks[a].queue[0], fate);
                settled++;
            }
        }
        return settled;
    }

    private void settle(Payment payment, int fate) {
        end(payment, fate);
        Bank payer = banks[payment.from];
        payer.balance -= payment.amount;
        payer.sent[payment.to] += payment.amount;
        banks[payment.to].balance += payment.amount;
        settledSum += payment.amount;
    }

    private void end(Payment payment, int fate) {
        banks[payment.from].remove(payment);
        payment.fate = fate;
    }

    private static final class Payment {
        final int number;
        final int from;
        final int to;
        final long amount;
        final int until;
        int priority;
        int fate;

        Payment(int number, int from, int to, long amount, int priority, int until) {
            this.number = number;
            this.from = from;
            this.to = to;
            this.amount = amount;
            this.priority = priority;
            this.until = until;
            fate = QUEUED;
        }
    }

    private static final class Bank {
        long balance;
        long creditLine;
        long totalLimit;
        final long[] limits;
        /** What was sent to each bank on this day. */
        final long[] sent;
        final Payment[] queue;
        int queueLength;

        Bank(int banks) {
            totalLimit = NO_LIMIT;
            limits = new long[banks];
            Arrays.fill(limits, NO_LIMIT);
            sent = new long[banks];
            queue = new Payment[MOST_QUEUED];
        }

        /** The payment becomes the last of those with its priority. */
        void enqueue(Payment payment) {
            if (queueLength >= queue.length) {
                return;
            }
            int place = queueLength;
            while (place > 0 && queue[place - 1].priority < payment.priority) {
                queue[place] = queue[place - 1];
                place--;
            }
            queue[place] = payment;
            queueLength++;
        }

        void remove(Payment payment) {
            int kept = 0;
            for (int i = 0; i < queueLength; i++) {
                if (queue[i] != payment) {
                    queue[kept] = queue[i];
                    kept++;
                }
            }
            queueLength = kept;
        }

        int headGoesTo() {
            return queueLength > 0 ? queue[0].to : NO_BANK;
        }

        /** What would have been sent to a bank once the first payments of the queue are settled. */
        long sentWith(int first, int to) {
            long sum = sent[to];
            for (int i = 0; i < first && i < queueLength; i++) {
                if (queue[i].to == to) {
                    sum += queue[i].amount;
                }
            }
            return sum;
        }
    }
}
