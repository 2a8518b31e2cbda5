/** Each promise of the document by hand: ordinary inputs, the edges that it names, and wrong inputs. */
public final class PromisesTest {
    private static final int BAD = GridlockDesk.BAD;
    private static final long AMOUNT = 1_000_000_000_000L;
    private static final long LINE = 1_000_000_000_000_000L;
    private static final int[] NO_BANKS_OF_TWO = {-1, 2, 3, 4, Integer.MIN_VALUE, Integer.MAX_VALUE};
    private static final Due due = new Due("PromisesTest");

    public static void main(String[] args) {
        newObject();
        fund();
        fundSettlesWhatWaits();
        credit();
        limit();
        limitSettlesWhatWaits();
        totalLimit();
        totalLimitSettlesWhatWaits();
        payRefusals();
        payMany();
        payLong();
        payOrder();
        cancel();
        urge();
        resolveGreatest();
        resolveFullQueues();
        resolveCountsAsSent();
        resolveKeepsLimits();
        resolveTakesOnlyFirstPayments();
        tick();
        tickSettlesBehindTheExpired();
        close();
        balance();
        position();
        waitingAndQueued();
        state();
        turnover();
        now();
        due.end();
    }

    private static void newObject() {
        int[][] asked = {{Integer.MIN_VALUE, 2}, {-1, 2}, {0, 2}, {1, 2}, {2, 2}, {3, 3}, {4, 4}, {5, 4},
                {Integer.MAX_VALUE, 4}};
        for (int[] row : asked) {
            GridlockDesk x = new GridlockDesk(row[0]);
            for (int bank = 0; bank < 5; bank++) {
                due.is("1: waiting(" + bank + ") of " + row[0], x.waiting(bank), bank < row[1] ? 0 : BAD);
                due.is("1: balance at first", x.balance(bank), 0);
            }
            due.is("1: no credit at first", x.fund(0, -1), false);
            due.is("1: turnover at first", x.turnover(), 0);
            due.is("1: now at first", x.now(), 0);
            due.is("1: no payments at first", x.state(0), BAD);
            due.is("1: no position at first", x.position(0, 1), 0);
        }
        GridlockDesk x = funded(2, AMOUNT);
        due.is("1: no limits at first", x.pay(0, 1, AMOUNT, 0, 0), 0);
        due.is("1: no limits at first, settled", x.state(0), 1);
    }

    private static void fund() {
        GridlockDesk x = new GridlockDesk(2);
        for (int bank : NO_BANKS_OF_TWO) {
            due.is("2: fund of no bank", x.fund(bank, 1), false);
        }
        due.is("2: fund most", x.fund(0, AMOUNT), true);
        due.is("2: fund too much", x.fund(0, AMOUNT + 1), false);
        due.is("2: fund the longest", x.fund(0, Long.MAX_VALUE), false);
        due.is("2: fund nothing", x.fund(0, 0), true);
        due.is("2: balance", x.balance(0), AMOUNT);
        due.is("2: fund again", x.fund(0, AMOUNT), true);
        due.is("2: take too much", x.fund(0, -AMOUNT - 1), false);
        due.is("2: take the longest", x.fund(0, Long.MIN_VALUE), false);
        due.is("2: take most", x.fund(0, -AMOUNT), true);
        due.is("2: balance after", x.balance(0), AMOUNT);
        due.is("2: the other's balance", x.balance(1), 0);
        x.credit(1, 10);
        due.is("2: below the line", x.fund(1, -11), false);
        due.is("2: unchanged", x.balance(1), 0);
        due.is("2: to the line", x.fund(1, -10), true);
        due.is("2: on the line", x.balance(1), -10);
        due.is("2: one less", x.fund(1, -1), false);
    }

    private static void fundSettlesWhatWaits() {
        GridlockDesk x = new GridlockDesk(2);
        x.pay(0, 1, 10, 0, 9);
        x.fund(0, 9);
        due.is("2: one short", x.state(0), 0);
        x.fund(0, 1);
        due.is("2: enough", x.state(0), 1);
        due.is("2: all gone", x.balance(0), 0);
    }

    private static void credit() {
        GridlockDesk x = new GridlockDesk(2);
        for (int bank : NO_BANKS_OF_TWO) {
            due.is("3: credit of no bank", x.credit(bank, 1), false);
        }
        due.is("3: line -1", x.credit(0, -1), false);
        x.fund(0, 5);
        due.is("3: line -1 with a balance", x.credit(0, -1), false);
        x.fund(0, -5);
        due.is("3: line least", x.credit(0, Long.MIN_VALUE), false);
        due.is("3: line too great", x.credit(0, LINE + 1), false);
        due.is("3: line greatest", x.credit(0, LINE), true);
        x.fund(0, -50);
        due.is("3: line short of the debt", x.credit(0, 49), false);
        due.is("3: the old line still stands", x.fund(0, -50), true);
        due.is("3: line of the debt", x.credit(0, 100), true);
        due.is("3: no more", x.fund(0, -1), false);
        due.is("3: line 0 with a debt", x.credit(0, 0), false);
        x.pay(0, 1, 5, 0, 9);
        x.credit(0, 104);
        due.is("3: one short", x.state(0), 0);
        x.credit(0, 105);
        due.is("3: the line pays", x.state(0), 1);
        due.is("3: balance", x.balance(0), -105);
        x.fund(0, 105);
        due.is("3: line 0", x.credit(0, 0), true);
        due.is("3: no debt any more", x.fund(0, -1), false);
    }

    private static void limit() {
        GridlockDesk x = funded(2, 1000);
        for (int bank : NO_BANKS_OF_TWO) {
            due.is("4: from no bank", x.limit(bank, 1, 5), false);
            due.is("4: to no bank", x.limit(0, bank, 5), false);
        }
        due.is("4: both the same", x.limit(1, 1, 5), false);
        due.is("4: amount -2", x.limit(0, 1, -2), false);
        due.is("4: amount least", x.limit(0, 1, Long.MIN_VALUE), false);
        due.is("4: amount too great", x.limit(0, 1, LINE + 1), false);
        due.is("4: amount greatest", x.limit(0, 1, LINE), true);
        due.is("4: none though there was none", x.limit(1, 0, -1), true);
        x.pay(0, 1, 100, 0, 9);
        due.is("4: less than the position", x.limit(0, 1, 99), false);
        due.is("4: the position", x.limit(0, 1, 100), true);
        due.is("4: -2 against a position of -100", x.limit(1, 0, -2), false);
        due.is("4: 0 against a position of -100", x.limit(1, 0, 0), true);
        x.pay(1, 0, 100, 0, 9);
        due.is("4: up to 0", x.state(1), 1);
        x.pay(1, 0, 1, 0, 9);
        due.is("4: beyond 0", x.state(2), 0);
    }

    private static void limitSettlesWhatWaits() {
        GridlockDesk x = funded(3, 1000);
        x.limit(0, 1, 0);
        x.pay(0, 1, 10, 0, 9);
        x.pay(0, 2, 10, 0, 9);
        due.is("4: held by the limit", x.state(0), 0);
        due.is("4: held behind the head", x.state(1), 0);
        x.limit(0, 1, 9);
        due.is("4: one short", x.state(0), 0);
        due.is("4: refused", x.limit(0, 1, -2), false);
        due.is("4: still held", x.state(0), 0);
        x.limit(0, 1, 10);
        due.is("4: within the limit", x.state(0), 1);
        due.is("4: no limit to others", x.state(1), 1);
        x.pay(0, 1, 1, 0, 9);
        due.is("4: beyond the limit", x.state(2), 0);
        x.limit(0, 1, -1);
        due.is("4: no limit", x.state(2), 1);
        due.is("4: not beneath the position", x.limit(0, 1, 10), false);
    }

    private static void totalLimit() {
        GridlockDesk x = funded(3, 1000);
        for (int bank : new int[] {-1, 3, 4, Integer.MIN_VALUE, Integer.MAX_VALUE}) {
            due.is("5: no bank", x.totalLimit(bank, 5), false);
        }
        due.is("5: amount -2", x.totalLimit(0, -2), false);
        due.is("5: amount least", x.totalLimit(0, Long.MIN_VALUE), false);
        due.is("5: amount too great", x.totalLimit(0, LINE + 1), false);
        due.is("5: amount greatest", x.totalLimit(0, LINE), true);
        x.pay(0, 1, 100, 0, 9);
        x.pay(0, 2, 50, 0, 9);
        due.is("5: less than the total position", x.totalLimit(0, 149), false);
        due.is("5: the total position", x.totalLimit(0, 150), true);
        due.is("5: -2 against -100", x.totalLimit(1, -2), false);
        due.is("5: 0 against -100", x.totalLimit(1, 0), true);
        x.pay(2, 0, 20, 0, 9);
        due.is("5: what is received counts", x.totalLimit(0, 130), true);
        due.is("5: less than what is left", x.totalLimit(0, 129), false);
        due.is("5: funding is no position", x.fund(0, 500) && x.totalLimit(0, 130), true);
    }

    private static void totalLimitSettlesWhatWaits() {
        GridlockDesk x = funded(3, 1000);
        x.totalLimit(0, 10);
        x.pay(0, 1, 6, 0, 9);
        x.pay(0, 2, 5, 0, 9);
        due.is("5: within", x.state(0), 1);
        due.is("5: beyond", x.state(1), 0);
        x.totalLimit(0, 11);
        due.is("5: within now", x.state(1), 1);
        x.pay(0, 2, 1, 0, 9);
        due.is("5: beyond again", x.state(2), 0);
        x.pay(1, 0, 1, 0, 9);
        due.is("5: received from another", x.state(2), 1);
        x.pay(0, 1, 7, 0, 9);
        due.is("5: held", x.state(4), 0);
        x.totalLimit(0, -1);
        due.is("5: no limit", x.state(4), 1);
    }

    private static void payRefusals() {
        GridlockDesk x = funded(2, 10);
        x.tick(5);
        for (int bank : NO_BANKS_OF_TWO) {
            due.is("6: from no bank", x.pay(bank, 1, 1, 0, 9), BAD);
            due.is("6: to no bank", x.pay(0, bank, 1, 0, 9), BAD);
        }
        due.is("6: to itself", x.pay(0, 0, 1, 0, 9), BAD);
        due.is("6: amount 0", x.pay(0, 1, 0, 0, 9), BAD);
        due.is("6: amount -1", x.pay(0, 1, -1, 0, 9), BAD);
        due.is("6: amount too great", x.pay(0, 1, AMOUNT + 1, 0, 9), BAD);
        due.is("6: amount longest", x.pay(0, 1, Long.MAX_VALUE, 0, 9), BAD);
        due.is("6: priority -1", x.pay(0, 1, 1, -1, 9), BAD);
        due.is("6: priority 4", x.pay(0, 1, 1, 4, 9), BAD);
        due.is("6: until before now", x.pay(0, 1, 1, 0, 4), BAD);
        due.is("6: until negative", x.pay(0, 1, 1, 0, Integer.MIN_VALUE), BAD);
        due.is("6: nothing came", x.state(0), BAD);
        due.is("6: until now", x.pay(0, 1, 1, 3, 5), 0);
        due.is("6: settled at once", x.state(0), 1);
        due.is("6: the greatest amount and until", x.pay(0, 1, AMOUNT, 0, Integer.MAX_VALUE), 1);
        due.is("6: waits", x.state(1), 0);
        due.is("6: balances", x.balance(0) * 100 + x.balance(1), 901);
    }

    private static void payMany() {
        GridlockDesk x = new GridlockDesk(2);
        x.credit(0, LINE);
        for (int k = 0; k < 94; k++) {
            due.is("6: number", x.pay(0, 1, 1, 0, 9), k);
        }
        for (int k = 94; k < 100; k++) {
            due.is("6: number", x.pay(1, 0, AMOUNT, 0, 9), k);
        }
        due.is("6: 101st, the queue long too", x.pay(1, 0, 1, 0, 9), GridlockDesk.MANY);
        due.is("6: 101st", x.pay(0, 1, 1, 0, 9), GridlockDesk.MANY);
        due.is("6: BAD before MANY", x.pay(0, 1, 0, 0, 9), BAD);
        due.is("6: no 101st", x.state(100), BAD);
        due.is("6: the 100th", x.state(99), 0);
        x.close();
        due.is("6: MANY for good", x.pay(0, 1, 1, 0, 9), GridlockDesk.MANY);
        due.is("6: turnover of 94", x.turnover(), 94);
    }

    private static void payLong() {
        GridlockDesk x = new GridlockDesk(2);
        for (int k = 0; k < 6; k++) {
            due.is("6: number", x.pay(0, 1, 5, 0, 9), k);
        }
        due.is("6: seventh", x.pay(0, 1, 5, 3, 9), GridlockDesk.LONG);
        due.is("6: BAD before LONG", x.pay(0, 1, 5, 4, 9), BAD);
        due.is("6: still six", x.waiting(0), 6);
        due.is("6: the other queue has room", x.pay(1, 0, 6, 0, 9), 6);
        due.is("6: after cancelling", x.cancel(2), true);
        due.is("6: there is room again", x.pay(0, 1, 5, 0, 9), 7);
    }

    private static void payOrder() {
        GridlockDesk x = new GridlockDesk(2);
        int[] priorities = {1, 0, 3, 1, 3, 2};
        for (int priority : priorities) {
            x.pay(0, 1, 5, priority, 9);
        }
        queueIs("6: by priority, then by coming", x, 0, 2, 4, 5, 0, 3, 1);
    }

    private static void cancel() {
        GridlockDesk x = funded(2, 10);
        due.is("7: not there", x.cancel(0), false);
        x.pay(0, 1, 20, 0, 9);
        x.pay(0, 1, 4, 0, 9);
        for (int k : new int[] {-1, 2, 100, Integer.MIN_VALUE, Integer.MAX_VALUE}) {
            due.is("7: not there", x.cancel(k), false);
        }
        due.is("7: nothing changed", x.waiting(0), 2);
        due.is("7: the head", x.cancel(0), true);
        due.is("7: cancelled", x.state(0), 4);
        due.is("7: the next is settled", x.state(1), 1);
        due.is("7: again", x.cancel(0), false);
        due.is("7: a settled one", x.cancel(1), false);
        due.is("7: stays settled", x.state(1), 1);
        x.pay(0, 1, 20, 0, 9);
        x.pay(0, 1, 21, 0, 9);
        x.pay(0, 1, 22, 0, 9);
        due.is("7: from the middle", x.cancel(3), true);
        queueIs("7: the others stay", x, 0, 2, 4);
    }

    private static void urge() {
        GridlockDesk x = funded(2, 10);
        due.is("8: not there", x.urge(0, 0), false);
        for (int k = 0; k < 4; k++) {
            x.pay(0, 1, 20 + k, 1, 9);
        }
        queueIs("8: as they came", x, 0, 0, 1, 2, 3);
        due.is("8: priority -1", x.urge(0, -1), false);
        due.is("8: priority 4", x.urge(0, 4), false);
        due.is("8: payment -1", x.urge(-1, 1), false);
        due.is("8: payment 4", x.urge(4, 1), false);
        queueIs("8: nothing changed", x, 0, 0, 1, 2, 3);
        due.is("8: to the same priority", x.urge(1, 1), true);
        queueIs("8: last of it", x, 0, 0, 2, 3, 1);
        due.is("8: up", x.urge(3, 3), true);
        queueIs("8: first", x, 0, 3, 0, 2, 1);
        due.is("8: down", x.urge(0, 0), true);
        queueIs("8: last", x, 0, 3, 2, 1, 0);
        due.is("8: up behind the first", x.urge(0, 3), true);
        queueIs("8: second", x, 0, 3, 0, 2, 1);
        due.is("8: back", x.urge(3, 1), true);
        queueIs("8: behind those that had it", x, 0, 0, 2, 1, 3);
        x.pay(0, 1, 7, 0, 9);
        due.is("8: behind the head of its priority", x.urge(4, 3), true);
        due.is("8: held", x.state(4), 0);
        due.is("8: the head gives way", x.urge(0, 2), true);
        due.is("8: the small one is settled", x.state(4), 1);
        due.is("8: a settled one", x.urge(4, 3), false);
        x.cancel(3);
        due.is("8: a cancelled one", x.urge(3, 3), false);
        queueIs("8: it is not queued", x, 0, 0, 2, 1);
    }

    private static void resolveGreatest() {
        GridlockDesk x = new GridlockDesk(4);
        due.is("9: nothing there", x.resolve(), 0);
        x.pay(0, 1, 10, 0, 9);
        x.pay(0, 2, 10, 0, 9);
        x.pay(1, 2, 10, 0, 9);
        x.pay(2, 3, 20, 0, 9);
        x.pay(3, 0, 20, 0, 9);
        x.pay(3, 0, 5, 0, 9);
        x.pay(1, 0, 1, 0, 9);
        due.is("9: gridlock", x.turnover(), 0);
        due.is("9: the greatest heads", x.resolve(), 5);
        for (int k = 0; k < 5; k++) {
            due.is("9: state of " + k, x.state(k), 3);
        }
        due.is("9: left", x.state(5) * 10 + x.state(6), 0);
        due.is("9: turnover", x.turnover(), 70);
        for (int bank = 0; bank < 4; bank++) {
            due.is("9: balance", x.balance(bank), 0);
        }
        due.is("9: again", x.resolve(), 0);
        due.is("9: still there", x.waiting(1) * 10 + x.waiting(3), 11);
    }

    private static void resolveFullQueues() {
        GridlockDesk x = new GridlockDesk(4);
        for (int i = 0; i < 6; i++) {
            for (int bank = 0; bank < 4; bank++) {
                x.pay(bank, (bank + 1) % 4, 10 + i, 0, 9);
            }
        }
        due.is("9: all of them", x.resolve(), 24);
        due.is("9: all settled", x.turnover(), 4 * 75);
        // Banks 1 to 3 would each pay out one more than they get: giving up one drags down all.
        GridlockDesk y = new GridlockDesk(4);
        for (int i = 0; i < 6; i++) {
            for (int bank = 0; bank < 4; bank++) {
                y.pay(bank, (bank + 1) % 4, 10 + bank, 0, 9);
            }
        }
        due.is("9: none of them", y.resolve(), 0);
        due.is("9: none settled", y.turnover(), 0);
        y.credit(3, 6);
        due.is("9: none by sweeping", y.turnover(), 0);
        y.credit(1, 1);
        y.credit(2, 1);
        due.is("9: one of each", y.resolve(), 4);
        due.is("9: five wait in each", y.waiting(0) * 1000 + y.waiting(1) * 100 + y.waiting(2) * 10 + y.waiting(3),
                5555);
    }

    private static void resolveCountsAsSent() {
        GridlockDesk x = new GridlockDesk(3);
        x.pay(0, 1, 10, 0, 9);
        x.pay(1, 2, 10, 0, 9);
        x.pay(2, 0, 10, 0, 9);
        due.is("9: the ring", x.resolve(), 3);
        due.is("9: position", x.position(0, 1), 10);
        due.is("9: a limit beneath it", x.limit(0, 1, 9), false);
        due.is("9: a total limit of 0", x.totalLimit(0, 0), true);
    }

    private static void resolveKeepsLimits() {
        GridlockDesk x = new GridlockDesk(3);
        x.limit(1, 2, 9);
        x.pay(0, 1, 10, 0, 9);
        x.pay(1, 2, 10, 0, 9);
        x.pay(2, 0, 10, 0, 9);
        due.is("9: held by a limit", x.resolve(), 0);
        x.limit(1, 2, 10);
        due.is("9: no sweeping of three", x.state(0), 0);
        due.is("9: within the limit", x.resolve(), 3);

        GridlockDesk y = new GridlockDesk(3);
        y.fund(0, 1);
        y.totalLimit(0, 0);
        y.pay(0, 1, 11, 0, 9);
        y.pay(1, 2, 10, 0, 9);
        y.pay(2, 0, 10, 0, 9);
        due.is("9: held by a total limit", y.resolve(), 0);
        y.totalLimit(0, 1);
        due.is("9: within the total limit", y.resolve(), 3);
        due.is("9: balance 0", y.balance(0), 0);
        due.is("9: balance 1", y.balance(1), 1);

        GridlockDesk z = new GridlockDesk(3);
        z.pay(0, 1, 11, 0, 9);
        z.pay(1, 2, 10, 0, 9);
        z.pay(2, 0, 10, 0, 9);
        due.is("9: held by the balance", z.resolve(), 0);
        z.credit(0, 1);
        due.is("9: with credit", z.resolve(), 3);
        due.is("9: in debt", z.balance(0), -1);
    }

    private static void resolveTakesOnlyFirstPayments() {
        GridlockDesk x = new GridlockDesk(3);
        x.pay(0, 1, 50, 0, 9);
        x.pay(0, 1, 10, 0, 9);
        x.pay(1, 2, 10, 0, 9);
        x.pay(2, 0, 10, 0, 9);
        due.is("9: the head is in the way", x.resolve(), 0);
        x.urge(0, 0);
        due.is("9: a ring of heads", x.resolve(), 3);
        due.is("9: the great one waits", x.state(0), 0);
        due.is("9: a ring of heads, settled", x.state(1), 3);
    }

    private static void tick() {
        GridlockDesk x = new GridlockDesk(3);
        for (int n : new int[] {0, -1, 1001, Integer.MIN_VALUE, Integer.MAX_VALUE}) {
            due.is("10: tick(" + n + ")", x.tick(n), BAD);
        }
        due.is("10: no time went by", x.now(), 0);
        x.pay(0, 1, 5, 0, 0);
        x.pay(0, 1, 5, 0, 1);
        x.pay(1, 0, 6, 0, 0);
        x.pay(2, 0, 5, 0, 1000);
        due.is("10: two expire", x.tick(1), 2);
        due.is("10: states", x.state(0) * 1000 + x.state(1) * 100 + x.state(2) * 10 + x.state(3), 5050);
        due.is("10: now", x.now(), 1);
        due.is("10: the longest", x.tick(1000), 2);
        due.is("10: now", x.now(), 1001);
        due.is("10: all expired", x.state(1) * 10 + x.state(3), 55);
        due.is("10: once", x.tick(1), 0);
        due.is("10: queues", x.waiting(0) + x.waiting(1) + x.waiting(2), 0);
    }

    private static void tickSettlesBehindTheExpired() {
        GridlockDesk x = funded(2, 10);
        x.pay(0, 1, 11, 0, 0);
        x.pay(0, 1, 10, 0, 1);
        due.is("10: held", x.state(1), 0);
        due.is("10: the head expires", x.tick(1), 1);
        due.is("10: the next is settled", x.state(1), 1);
        x.tick(5);
        due.is("10: settled for good", x.state(1), 1);
    }

    private static void close() {
        GridlockDesk x = new GridlockDesk(3);
        due.is("11: nothing there", x.close(), 0);
        x.fund(0, 20);
        x.limit(0, 1, 10);
        x.totalLimit(0, 15);
        x.credit(2, 3);
        x.pay(0, 1, 10, 0, 9);
        x.pay(0, 2, 5, 0, 9);
        x.pay(0, 1, 1, 0, 9);
        x.pay(1, 2, 11, 0, 9);
        due.is("11: two wait", x.state(2) * 10 + x.state(3), 0);
        x.tick(2);
        due.is("11: rejected", x.close(), 2);
        due.is("11: states", x.state(0) * 1000 + x.state(1) * 100 + x.state(2) * 10 + x.state(3), 1166);
        due.is("11: queues", x.waiting(0) + x.waiting(1), 0);
        due.is("11: nothing was sent", x.position(0, 1), 0);
        due.is("11: by the other either", x.position(1, 0) + x.position(2, 0), 0);
        due.is("11: the balances stay", x.balance(0) * 10000 + x.balance(1) * 100 + x.balance(2), 51005);
        due.is("11: the time stays", x.now(), 2);
        due.is("11: the turnover stays", x.turnover(), 15);
        due.is("11: the credit stays", x.fund(2, -8), true);
        due.is("11: the limit begins anew", x.pay(0, 1, 5, 0, 9), 4);
        due.is("11: settled", x.state(4), 1);
        x.fund(0, 100);
        x.pay(0, 1, 6, 0, 9);
        due.is("11: the limit stays", x.state(5), 0);
        x.cancel(5);
        x.pay(0, 2, 11, 0, 9);
        due.is("11: the total limit stays", x.state(6), 0);
        x.cancel(6);
        x.pay(0, 2, 10, 0, 9);
        due.is("11: and begins anew", x.state(7), 1);
    }

    private static void balance() {
        GridlockDesk x = funded(2, 7);
        due.is("12: balance", x.balance(0), 7);
        for (int bank : NO_BANKS_OF_TWO) {
            due.is("12: no bank", x.balance(bank), 0);
        }
        x.credit(1, 3);
        x.pay(1, 0, 10, 0, 9);
        due.is("12: not yet", x.balance(1), 0);
        x.fund(1, 7);
        due.is("12: in debt", x.balance(1), -3);
        due.is("12: received", x.balance(0), 17);
    }

    private static void position() {
        GridlockDesk x = funded(2, 100);
        x.pay(0, 1, 70, 0, 9);
        x.pay(1, 0, 30, 0, 9);
        due.is("13: position", x.position(0, 1), 40);
        due.is("13: the other way", x.position(1, 0), -40);
        due.is("13: to itself", x.position(0, 0), 0);
        for (int bank : NO_BANKS_OF_TWO) {
            due.is("13: no bank", x.position(bank, 0), 0);
            due.is("13: no bank", x.position(0, bank), 0);
        }
        x.pay(0, 1, 1000, 0, 9);
        due.is("13: a queued one does not count", x.position(0, 1), 40);
    }

    private static void waitingAndQueued() {
        GridlockDesk x = new GridlockDesk(2);
        due.is("15: an empty queue", x.queued(0, 0), BAD);
        x.pay(1, 0, 5, 0, 9);
        x.pay(0, 1, 6, 0, 9);
        x.pay(0, 1, 6, 1, 9);
        due.is("14: two", x.waiting(0), 2);
        due.is("14: one", x.waiting(1), 1);
        for (int bank : NO_BANKS_OF_TWO) {
            due.is("14: no bank", x.waiting(bank), BAD);
            due.is("15: no bank", x.queued(bank, 0), BAD);
        }
        queueIs("15: a queue", x, 0, 2, 1);
        queueIs("15: the other", x, 1, 0);
        for (int i : new int[] {-1, 2, 6, Integer.MIN_VALUE, Integer.MAX_VALUE}) {
            due.is("15: no such payment", x.queued(0, i), BAD);
        }
        x.cancel(2);
        due.is("14: one less", x.waiting(0), 1);
        due.is("15: no longer there", x.queued(0, 1), BAD);
    }

    private static void state() {
        GridlockDesk x = new GridlockDesk(3);
        for (int k : new int[] {-1, 0, 1, 99, 100, Integer.MIN_VALUE, Integer.MAX_VALUE}) {
            due.is("16: not there", x.state(k), BAD);
        }
        x.pay(0, 1, 10, 0, 9);
        due.is("16: queued", x.state(0), 0);
        due.is("16: the next is not there", x.state(1), BAD);
        x.pay(1, 0, 10, 0, 9);
        due.is("16: in a pair", x.state(0) * 10 + x.state(1), 22);
        x.fund(2, 1);
        x.pay(2, 0, 1, 0, 9);
        due.is("16: alone", x.state(2), 1);
        x.pay(0, 1, 50, 0, 9);
        x.pay(1, 2, 50, 0, 9);
        x.pay(2, 0, 50, 0, 9);
        x.resolve();
        due.is("16: by resolving", x.state(3) * 100 + x.state(4) * 10 + x.state(5), 333);
        x.pay(1, 2, 50, 0, 9);
        x.pay(1, 2, 50, 0, 0);
        x.pay(1, 2, 50, 0, 9);
        x.cancel(6);
        x.tick(1);
        x.close();
        due.is("16: cancelled, expired, rejected", x.state(6) * 100 + x.state(7) * 10 + x.state(8), 456);
    }

    private static void turnover() {
        GridlockDesk x = funded(3, 10);
        x.pay(0, 1, 10, 0, 9);
        due.is("17: one", x.turnover(), 10);
        x.pay(1, 0, 10, 0, 9);
        due.is("17: two", x.turnover(), 20);
        x.pay(0, 1, 60, 0, 9);
        due.is("17: a queued one does not count", x.turnover(), 20);
        x.pay(1, 0, 50, 0, 9);
        due.is("17: a pair", x.turnover(), 130);
        x.pay(0, 1, 100, 0, 9);
        x.pay(1, 2, 100, 0, 9);
        x.pay(2, 0, 100, 0, 9);
        x.resolve();
        due.is("17: by resolving", x.turnover(), 430);
        x.close();
        due.is("17: of all days", x.turnover(), 430);
    }

    private static void now() {
        GridlockDesk x = new GridlockDesk(2);
        x.tick(7);
        due.is("18: now", x.now(), 7);
        x.tick(1000);
        x.tick(1001);
        due.is("18: now", x.now(), 1007);
        x.close();
        x.resolve();
        due.is("18: only tick moves it", x.now(), 1007);
    }

    private static GridlockDesk funded(int banks, long amount) {
        GridlockDesk x = new GridlockDesk(banks);
        x.fund(0, amount);
        return x;
    }

    private static void queueIs(String what, GridlockDesk x, int bank, int... numbers) {
        due.is(what + ": length", x.waiting(bank), numbers.length);
        for (int i = 0; i < numbers.length; i++) {
            due.is(what + ": " + i, x.queued(bank, i), numbers[i]);
        }
    }
}
