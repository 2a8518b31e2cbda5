/**
 * The sentences of promises 1 to 18 that name an edge, each with a test of its own: the least and
 * the greatest that is taken and what is just beyond, the empty and the full, and what is not there.
 * That a refused call changes nothing is for RefusalsTest.
 */
public final class EdgesTest {
    private static final int BAD = GridlockDesk.BAD;
    private static final int LEAST = Integer.MIN_VALUE;
    private static final int MOST = Integer.MAX_VALUE;
    private static final long AMOUNT = 1_000_000_000_000L;
    private static final long LINE = 1_000_000_000_000_000L;
    private static final Due due = new Due("EdgesTest");

    public static void main(String[] args) {
        newObject();
        fund();
        credit();
        limit();
        totalLimit();
        pay();
        cancel();
        urge();
        resolve();
        tick();
        close();
        asking();
        due.end();
    }

    private static void newObject() {
        due.sentence("1: So many banks", () -> {
            banksOf(2, 2);
            banksOf(3, 3);
            banksOf(4, 4);
        });
        due.sentence("1: less than 2 counts as 2", () -> {
            for (int banks : new int[] {1, 0, -1, -4, LEAST}) {
                banksOf(banks, 2);
            }
        });
        due.sentence("1: more than 4 as 4", () -> {
            for (int banks : new int[] {5, 6, 100, MOST}) {
                banksOf(banks, 4);
            }
        });
    }

    private static void banksOf(int asked, int banks) {
        GridlockDesk x = new GridlockDesk(asked);
        for (int bank = -1; bank <= 6; bank++) {
            boolean there = bank >= 0 && bank < banks;
            due.is("waiting(" + bank + ") of " + asked, x.waiting(bank), there ? 0 : BAD);
            due.is("fund(" + bank + ") of " + asked, x.fund(bank, 1), there);
        }
        due.is("the last pays the first", x.state(x.pay(banks - 1, 0, 1, 0, 0)), 1);
        due.is("the first pays the last", x.state(x.pay(0, banks - 1, 2, 0, 0)), 1);
    }

    private static void fund() {
        due.sentence("2: amount (-10^12 .. 10^12)", () -> {
            for (long amount : new long[] {-AMOUNT, -AMOUNT + 1, -1, 0, 1, AMOUNT - 1, AMOUNT, -(1L << 32), 1L << 31,
                    1L << 32, (1L << 32) + 1}) {
                GridlockDesk x = lent(2, LINE);
                due.is("fund(1, " + amount + ")", x.fund(1, amount), true);
                due.is("balance after " + amount, x.balance(1), amount);
                due.is("the other's balance", x.balance(0), 0);
            }
            for (long amount : new long[] {-AMOUNT - 1, AMOUNT + 1, -LINE, LINE, Long.MIN_VALUE, Long.MIN_VALUE + 1,
                    Long.MAX_VALUE}) {
                GridlockDesk x = lent(2, LINE);
                due.is("fund(1, " + amount + ")", x.fund(1, amount), false);
                due.is("balance after " + amount, x.balance(1), 0);
            }
        });
        due.sentence("2: false if there is no such bank", () -> noSuchBank((x, bank) -> x.fund(bank, 0)));
        due.sentence("2: the balance would be less than minus the credit line", () -> {
            for (long line : new long[] {0, 1, 10, AMOUNT - 1}) {
                GridlockDesk x = lent(2, line);
                due.is("one less than the line", x.fund(0, -line - 1), false);
                due.is("to the line", x.fund(0, -line), true);
                due.is("balance", x.balance(0), -line);
                due.is("nothing at the line", x.fund(0, 0), true);
                due.is("less at the line", x.fund(0, -1), false);
                due.is("more at the line", x.fund(0, 1), true);
            }
            GridlockDesk x = new GridlockDesk(2);
            x.fund(0, 10);
            due.is("more than there is", x.fund(0, -11), false);
            due.is("all there is", x.fund(0, -10), true);
        });
    }

    private static void credit() {
        due.sentence("3: line (0 .. 10^15)", () -> {
            GridlockDesk x = new GridlockDesk(2);
            for (long line : new long[] {0, 1, LINE - 1, LINE}) {
                due.is("credit(1, " + line + ")", x.credit(1, line), true);
            }
            for (long line : new long[] {-1, LINE + 1, -LINE, Long.MIN_VALUE, Long.MAX_VALUE}) {
                due.is("credit(1, " + line + ")", x.credit(1, line), false);
            }
            x.fund(1, 5);
            due.is("-1 with a balance", x.credit(1, -1), false);
            due.is("-5 with a balance", x.credit(1, -5), false);
        });
        due.sentence("3: the line becomes", () -> {
            GridlockDesk x = lent(2, 10);
            due.is("in place of the old one", x.credit(0, 6), true);
            due.is("not added to it", x.fund(0, -7), false);
            due.is("the new line", x.fund(0, -6), true);
            due.is("of no other bank", x.fund(1, -7), true);
            GridlockDesk y = lent(2, AMOUNT);
            due.is("greater than an int", y.credit(0, (1L << 32) + 1), true);
            due.is("beyond it", y.fund(0, -(1L << 32) - 2), false);
            due.is("to it", y.fund(0, -(1L << 32) - 1), true);
        });
        due.sentence("3: false if there is no such bank", () -> noSuchBank((x, bank) -> x.credit(bank, 5)));
        due.sentence("3: the balance is less than -line", () -> {
            GridlockDesk x = lent(2, AMOUNT);
            x.fund(0, -10);
            due.is("one short of the debt", x.credit(0, 9), false);
            due.is("0 with a debt", x.credit(0, 0), false);
            due.is("the debt", x.credit(0, 10), true);
            x.fund(0, 10);
            due.is("0 with a balance of 0", x.credit(0, 0), true);
            x.fund(1, 10);
            due.is("0 with a balance", x.credit(1, 0), true);
        });
    }

    private static void limit() {
        due.sentence("4: amount (0 .. 10^15), or none (amount -1)", () -> {
            GridlockDesk x = new GridlockDesk(3);
            for (long amount : new long[] {-1, 0, 1, LINE - 1, LINE, -1}) {
                due.is("limit(1, 2, " + amount + ")", x.limit(1, 2, amount), true);
            }
            for (long amount : new long[] {-2, LINE + 1, -LINE, Long.MIN_VALUE, Long.MAX_VALUE}) {
                due.is("limit(1, 2, " + amount + ")", x.limit(1, 2, amount), false);
            }
        });
        due.sentence("4: the limit becomes", () -> {
            for (long amount : new long[] {1, 1L << 31, (1L << 32) + 1, AMOUNT - 1}) {
                GridlockDesk x = lent(2, LINE);
                x.limit(0, 1, 0);
                x.limit(0, 1, amount);
                due.is("to a limit of " + amount, x.state(x.pay(0, 1, amount, 0, 0)), 1);
                due.is("one beyond it", x.state(x.pay(0, 1, 1, 0, 0)), 0);
            }
        });
        due.sentence("4: there is none any more", () -> {
            GridlockDesk x = lent(2, LINE);
            x.limit(0, 1, 0);
            x.pay(0, 1, AMOUNT, 0, 0);
            due.is("held", x.state(0), 0);
            due.is("-1", x.limit(0, 1, -1), true);
            due.is("none", x.state(0), 1);
            due.is("-1 again", x.limit(0, 1, -1), true);
        });
        due.sentence("4: false if one of them is no bank", () -> {
            noSuchBank((x, bank) -> x.limit(bank, 0, 5));
            noSuchBank((x, bank) -> x.limit(0, bank, -1));
        });
        due.sentence("4: both are the same", () -> {
            for (long amount : new long[] {-1, 0, 5}) {
                due.is("limit(0, 0, " + amount + ")", new GridlockDesk(2).limit(0, 0, amount), false);
                due.is("limit(3, 3, " + amount + ")", new GridlockDesk(4).limit(3, 3, amount), false);
                due.is("limit(-1, -1, " + amount + ")", new GridlockDesk(4).limit(-1, -1, amount), false);
            }
        });
        due.sentence("4: it is not -1 and the position is more than it", EdgesTest::limitAgainstPosition);
    }

    private static void limitAgainstPosition() {
        GridlockDesk x = lent(3, LINE);
        due.is("0 at 0", x.limit(0, 1, 0), true);
        x.limit(0, 1, -1);
        x.pay(0, 1, 100, 0, 0);
        due.is("0 at 100", x.limit(0, 1, 0), false);
        due.is("99 at 100", x.limit(0, 1, 99), false);
        due.is("100 at 100", x.limit(0, 1, 100), true);
        due.is("101 at 100", x.limit(0, 1, 101), true);
        due.is("-1 at 100", x.limit(0, 1, -1), true);
        due.is("0 at -100", x.limit(1, 0, 0), true);
        due.is("-2 at -100", x.limit(1, 0, -2), false);
        due.is("-100 at -100", x.limit(1, 0, -100), false);
        due.is("0 towards a third", x.limit(0, 2, 0), true);
        x.pay(0, 1, 5, 0, 0);
        due.is("the one that is queued does not count", x.limit(0, 1, 105), true);
        x.close();
        due.is("0 on a new day", x.limit(0, 1, 0), true);
    }

    private static void totalLimit() {
        due.sentence("5: amount (0 .. 10^15), or none (amount -1)", () -> {
            GridlockDesk x = new GridlockDesk(3);
            for (long amount : new long[] {-1, 0, 1, LINE - 1, LINE, -1}) {
                due.is("totalLimit(2, " + amount + ")", x.totalLimit(2, amount), true);
            }
            for (long amount : new long[] {-2, LINE + 1, -LINE, Long.MIN_VALUE, Long.MAX_VALUE}) {
                due.is("totalLimit(2, " + amount + ")", x.totalLimit(2, amount), false);
            }
        });
        due.sentence("5: the total limit becomes", () -> {
            for (long amount : new long[] {1, 1L << 31, (1L << 32) + 1, AMOUNT - 1}) {
                GridlockDesk x = lent(3, LINE);
                x.totalLimit(0, 0);
                x.totalLimit(0, amount);
                due.is("to a total limit of " + amount, x.state(x.pay(0, 1, amount, 0, 0)), 1);
                due.is("one beyond it", x.state(x.pay(0, 2, 1, 0, 0)), 0);
            }
        });
        due.sentence("5: there is none any more", () -> {
            GridlockDesk x = lent(2, LINE);
            x.totalLimit(0, 0);
            x.pay(0, 1, AMOUNT, 0, 0);
            due.is("held", x.state(0), 0);
            due.is("-1", x.totalLimit(0, -1), true);
            due.is("none", x.state(0), 1);
            due.is("-1 again", x.totalLimit(0, -1), true);
        });
        due.sentence("5: false if there is no such bank", () -> {
            noSuchBank((x, bank) -> x.totalLimit(bank, 5));
            noSuchBank((x, bank) -> x.totalLimit(bank, -1));
        });
        due.sentence("5: it is not -1 and the total position is more than it", EdgesTest::totalLimitAgainstTotal);
    }

    private static void totalLimitAgainstTotal() {
        GridlockDesk x = lent(4, LINE);
        due.is("0 at 0", x.totalLimit(0, 0), true);
        x.totalLimit(0, -1);
        x.pay(0, 1, 60, 0, 0);
        x.pay(0, 3, 50, 0, 0);
        x.pay(2, 0, 10, 0, 0);
        due.is("0 at 100", x.totalLimit(0, 0), false);
        due.is("99 at 100", x.totalLimit(0, 99), false);
        due.is("100 at 100", x.totalLimit(0, 100), true);
        due.is("101 at 100", x.totalLimit(0, 101), true);
        due.is("-1 at 100", x.totalLimit(0, -1), true);
        due.is("0 at -60", x.totalLimit(1, 0), true);
        due.is("-2 at -60", x.totalLimit(1, -2), false);
        due.is("-60 at -60", x.totalLimit(1, -60), false);
        due.is("9 at 10", x.totalLimit(2, 9), false);
        due.is("10 at 10", x.totalLimit(2, 10), true);
        x.close();
        due.is("0 on a new day", x.totalLimit(0, 0), true);
    }

    private static void pay() {
        due.sentence("6: Answers its number (it may be settled by the end of the call)", () -> {
            GridlockDesk x = new GridlockDesk(2);
            x.fund(0, 10);
            due.is("settled alone", x.pay(0, 1, 10, 0, 0), 0);
            due.is("settled", x.state(0), 1);
            due.is("queued", x.pay(0, 1, 20, 0, 0), 1);
            due.is("waits", x.state(1), 0);
            due.is("settled in a pair", x.pay(1, 0, 30, 0, 0), 2);
            due.is("both", x.state(1) * 10 + x.state(2), 22);
        });
        due.sentence("6: BAD if one of them is no bank", () -> {
            noSuchBank((x, bank) -> x.pay(bank, 0, 5, 0, 0) != BAD);
            noSuchBank((x, bank) -> x.pay(0, bank, 5, 0, 0) != BAD);
        });
        due.sentence("6: both are the same", () -> {
            due.is("0 to 0", new GridlockDesk(2).pay(0, 0, 5, 0, 0), BAD);
            due.is("3 to 3", new GridlockDesk(4).pay(3, 3, 5, 0, 0), BAD);
        });
        due.sentence("6: amount is not 1 .. 10^12", () -> {
            for (long amount : new long[] {1, 2, 1L << 32, AMOUNT - 1, AMOUNT}) {
                due.is("amount " + amount, new GridlockDesk(2).pay(0, 1, amount, 0, 0), 0);
            }
            for (long amount : new long[] {0, -1, AMOUNT + 1, -AMOUNT, Long.MIN_VALUE, Long.MAX_VALUE}) {
                due.is("amount " + amount, new GridlockDesk(2).pay(0, 1, amount, 0, 0), BAD);
            }
        });
        due.sentence("6: priority not 0 .. 3", () -> {
            for (int priority = 0; priority <= 3; priority++) {
                due.is("priority " + priority, new GridlockDesk(2).pay(0, 1, 5, priority, 0), 0);
            }
            for (int priority : new int[] {-1, 4, LEAST, MOST}) {
                due.is("priority " + priority, new GridlockDesk(2).pay(0, 1, 5, priority, 0), BAD);
            }
        });
        due.sentence("6: until less than now()", EdgesTest::untilLessThanNow);
        due.sentence("6: otherwise MANY if there are 100 payments", EdgesTest::many);
        due.sentence("6: otherwise LONG if 6 are queued at the bank", EdgesTest::longQueue);
    }

    private static void untilLessThanNow() {
        GridlockDesk x = new GridlockDesk(2);
        due.is("0 at 0", x.pay(0, 1, 5, 0, 0), 0);
        due.is("-1 at 0", x.pay(0, 1, 5, 0, -1), BAD);
        due.is("least", x.pay(0, 1, 5, 0, LEAST), BAD);
        due.is("most", x.pay(0, 1, 5, 0, MOST), 1);
        x.tick(1000);
        due.is("999 at 1000", x.pay(0, 1, 5, 0, 999), BAD);
        due.is("1000 at 1000", x.pay(0, 1, 5, 0, 1000), 2);
        due.is("1001 at 1000", x.pay(0, 1, 5, 0, 1001), 3);
        x.fund(1, 10);
        due.is("though it could be settled", x.pay(1, 0, 5, 0, 999), BAD);
    }

    private static void many() {
        GridlockDesk x = lent(3, LINE);
        for (int k = 0; k < 100; k++) {
            due.is("payment " + k, x.pay(k % 3, (k + 1) % 3, 1, 0, 0), k);
        }
        for (int bank = 0; bank < 3; bank++) {
            due.is("one more of " + bank, x.pay(bank, (bank + 1) % 3, 1, 0, 0), GridlockDesk.MANY);
        }
        due.is("BAD first: bank", x.pay(3, 0, 1, 0, 0), BAD);
        due.is("BAD first: the same", x.pay(1, 1, 1, 0, 0), BAD);
        due.is("BAD first: amount", x.pay(0, 1, 0, 0, 0), BAD);
        due.is("BAD first: priority", x.pay(0, 1, 1, 4, 0), BAD);
        due.is("BAD first: until", x.pay(0, 1, 1, 0, -1), BAD);
        GridlockDesk y = lent(2, 94);
        for (int k = 0; k < 99; k++) {
            y.pay(0, 1, k < 94 ? 1 : 1000, 0, 0);
        }
        due.is("the 100th is the sixth", y.pay(0, 1, 1000, 0, 0), 99);
        due.is("MANY before LONG", y.pay(0, 1, 1, 0, 0), GridlockDesk.MANY);
        due.is("MANY at another bank", y.pay(1, 0, 1, 0, 0), GridlockDesk.MANY);
    }

    private static void longQueue() {
        GridlockDesk x = new GridlockDesk(2);
        for (int k = 0; k < 5; k++) {
            x.pay(0, 1, 10, 0, 0);
        }
        due.is("the sixth", x.pay(0, 1, 10, 0, 0), 5);
        for (int priority = 0; priority <= 3; priority++) {
            due.is("the seventh", x.pay(0, 1, 10, priority, 0), GridlockDesk.LONG);
        }
        due.is("BAD first: bank", x.pay(0, 2, 1, 0, 0), BAD);
        due.is("BAD first: the same", x.pay(0, 0, 1, 0, 0), BAD);
        due.is("BAD first: amount", x.pay(0, 1, 0, 0, 0), BAD);
        due.is("BAD first: priority", x.pay(0, 1, 1, -1, 0), BAD);
        due.is("BAD first: until", x.pay(0, 1, 1, 0, -1), BAD);
        due.is("into the other's queue", x.pay(1, 0, 11, 0, 0), 6);
    }

    private static void cancel() {
        due.sentence("7: A queued payment is cancelled.", () -> {
            for (int k = 0; k < 6; k++) {
                GridlockDesk x = sixQueued();
                due.is("cancel(" + k + ") of six", x.cancel(k), true);
                due.is("cancelled", x.state(k), 4);
                due.is("five are left", x.waiting(0), 5);
                for (int i = 0; i < 5; i++) {
                    due.is("in their order", x.queued(0, i), i < k ? i : i + 1);
                }
            }
            GridlockDesk x = new GridlockDesk(2);
            x.pay(1, 0, 5, 0, 0);
            due.is("the only one", x.cancel(0), true);
            due.is("the queue is empty", x.waiting(1), 0);
        });
        due.sentence("7: false if payment k is not there", () -> notThere((x, k) -> x.cancel(k)));
        due.sentence("7: or not queued", () -> notQueued((x, k) -> x.cancel(k)));
    }

    private static void urge() {
        due.sentence("8: gets the priority (0 .. 3)", () -> {
            for (int priority = 0; priority <= 3; priority++) {
                GridlockDesk x = sixQueued();
                due.is("urge(2, " + priority + ")", x.urge(2, priority), true);
                x.cancel(0);
                x.pay(0, 1, 10, priority, 0);
                int place = 0;
                while (place < 5 && x.queued(0, place) != 2) {
                    place++;
                }
                due.is("just before the next of priority " + priority, x.queued(0, place + 1), 6);
            }
        });
        due.sentence("8: the last with it, also if it had this priority before", () -> {
            GridlockDesk x = sixQueued();
            for (int k = 0; k < 6; k++) {
                due.is("urge(" + k + ", 1)", x.urge(k, 1), true);
                due.is("the last", x.queued(0, 5), k);
                due.is("the first", x.queued(0, 0), (k + 1) % 6);
            }
            GridlockDesk y = new GridlockDesk(2);
            y.pay(0, 1, 10, 3, 0);
            due.is("the only one", y.urge(0, 3), true);
            due.is("stays the head", y.queued(0, 0), 0);
        });
        due.sentence("8: false if payment k is not there", () -> notThere((x, k) -> x.urge(k, 1)));
        due.sentence("8: or not queued", () -> notQueued((x, k) -> x.urge(k, 1)));
        due.sentence("8: or the priority is not as said", () -> {
            for (int priority : new int[] {-1, 4, LEAST, MOST}) {
                due.is("urge(0, " + priority + ")", sixQueued().urge(0, priority), false);
            }
        });
    }

    private static void resolve() {
        due.sentence("9: Answers how many payments it chose and settled", () -> {
            GridlockDesk x = new GridlockDesk(4);
            due.is("with no payments", x.resolve(), 0);
            due.is("with one that can't go", x.state(x.pay(0, 1, 10, 0, 9)), 0);
            due.is("none", x.resolve(), 0);
            x.pay(1, 2, 10, 0, 9);
            x.pay(2, 0, 10, 0, 9);
            due.is("not those that sweeping settles", x.fund(3, 5) && x.state(x.pay(3, 0, 5, 0, 9)) == 1, true);
            due.is("the ring", x.resolve(), 3);
            due.is("nothing is left", x.resolve(), 0);
            due.is("how they were settled", x.state(0) * 1000 + x.state(1) * 100 + x.state(2) * 10 + x.state(3), 3331);
        });
        due.sentence("9: full queues", () -> {
            GridlockDesk x = fullQueues();
            due.is("all 24", x.resolve(), 24);
            for (int bank = 0; bank < 4; bank++) {
                due.is("an empty queue", x.waiting(bank), 0);
                due.is("a balance of 0", x.balance(bank), 0);
            }
        });
    }

    private static void tick() {
        due.sentence("10: n (1 .. 1000)", () -> {
            for (int n : new int[] {1, 2, 999, 1000}) {
                GridlockDesk x = new GridlockDesk(2);
                due.is("tick(" + n + ")", x.tick(n), 0);
                due.is("now after " + n, x.now(), n);
                due.is("tick(" + n + ") again", x.tick(n), 0);
                due.is("now after " + n + " twice", x.now(), 2 * n);
            }
        });
        due.sentence("10: BAD if n is not as said", () -> {
            for (int n : new int[] {0, -1, -1000, 1001, LEAST, MOST}) {
                GridlockDesk x = new GridlockDesk(2);
                x.pay(0, 1, 5, 0, 0);
                due.is("tick(" + n + ")", x.tick(n), BAD);
                due.is("now", x.now(), 0);
                due.is("none expires", x.state(0), 0);
            }
        });
        due.sentence("10: whose until is less than the time expire", () -> {
            for (int n : new int[] {1, 2, 1000}) {
                GridlockDesk x = new GridlockDesk(2);
                x.pay(0, 1, 5, 0, n - 1);
                x.pay(0, 1, 5, 0, n);
                x.pay(0, 1, 5, 0, n + 1);
                x.pay(0, 1, 5, 0, MOST);
                due.is("tick(" + n + ")", x.tick(n), 1);
                due.is("one less than the time", x.state(0), 5);
                due.is("the time", x.state(1), 0);
                due.is("one more", x.state(2), 0);
                due.is("the next", x.tick(1), 1);
                due.is("and the next", x.tick(1), 1);
                due.is("states", x.state(1) * 100 + x.state(2) * 10 + x.state(3), 550);
                due.is("never", x.tick(1000), 0);
            }
        });
        due.sentence("10: then: no time is left to settle what expires", () -> {
            GridlockDesk x = new GridlockDesk(3);
            x.fund(0, 10);
            x.pay(0, 1, 11, 0, 0);
            x.pay(0, 1, 10, 0, 0);
            x.pay(0, 2, 10, 0, 1);
            due.is("both expire", x.tick(1), 2);
            due.is("the second is not settled", x.state(1), 5);
            due.is("the third is", x.state(2), 1);
        });
        due.sentence("10: Answers how many", () -> {
            due.is("none", new GridlockDesk(2).tick(1), 0);
            GridlockDesk x = fullQueues();
            due.is("none yet", x.tick(9), 0);
            due.is("all 24", x.tick(1), 24);
            due.is("once", x.tick(1), 0);
            for (int k = 0; k < 24; k++) {
                due.is("state", x.state(k), 5);
            }
        });
    }

    private static void close() {
        due.sentence("11: all queued payments are rejected .. Answers how many", () -> {
            GridlockDesk x = new GridlockDesk(2);
            due.is("none", x.close(), 0);
            x.pay(1, 0, 5, 0, 0);
            due.is("one", x.close(), 1);
            due.is("once", x.close(), 0);
            GridlockDesk y = fullQueues();
            due.is("all 24", y.close(), 24);
            for (int k = 0; k < 24; k++) {
                due.is("state", y.state(k), 6);
            }
            for (int bank = 0; bank < 4; bank++) {
                due.is("an empty queue", y.waiting(bank), 0);
            }
            due.is("none is settled", y.turnover(), 0);
        });
        due.sentence("11: a new day begins (nothing was sent on it)", () -> {
            GridlockDesk x = lent(4, LINE);
            for (int a = 0; a < 4; a++) {
                for (int b = 0; b < 4; b++) {
                    x.pay(a, b, 1 + 10 * a + b, 0, 0);
                }
            }
            due.is("sent", x.position(3, 0), 31 - 4);
            x.close();
            for (int a = 0; a < 4; a++) {
                for (int b = 0; b < 4; b++) {
                    due.is("position(" + a + ", " + b + ")", x.position(a, b), 0);
                }
                due.is("no total position", x.totalLimit(a, 0), true);
            }
        });
        due.sentence("11: limits and lines go on", () -> {
            GridlockDesk x = lent(2, 100);
            x.limit(0, 1, 10);
            x.totalLimit(1, 0);
            x.close();
            due.is("the limit", x.state(x.pay(0, 1, 11, 0, 0)), 0);
            due.is("the total limit", x.state(x.pay(1, 0, 1, 0, 0)), 2);
            due.is("beneath the line", x.fund(1, -111), false);
            due.is("the line", x.fund(1, -110), true);
        });
    }

    private static void asking() {
        due.sentence("12: 0 if there is no such bank", () -> {
            GridlockDesk x = lent(2, 5);
            x.fund(0, 7);
            x.fund(1, -5);
            due.is("the first", x.balance(0), 7);
            due.is("the last", x.balance(1), -5);
            for (int bank : new int[] {-1, 2, 3, 4, LEAST, MOST}) {
                due.is("balance(" + bank + ")", x.balance(bank), 0);
            }
        });
        due.sentence("13: 0 if one of them is no bank, or both are the same", () -> {
            GridlockDesk x = lent(2, 5);
            x.pay(0, 1, 5, 0, 0);
            due.is("there", x.position(0, 1), 5);
            due.is("back", x.position(1, 0), -5);
            due.is("the first to itself", x.position(0, 0), 0);
            due.is("the last to itself", x.position(1, 1), 0);
            for (int bank : new int[] {-1, 2, 3, 4, LEAST, MOST}) {
                due.is("position(" + bank + ", 0)", x.position(bank, 0), 0);
                due.is("position(1, " + bank + ")", x.position(1, bank), 0);
                due.is("position(" + bank + ", " + bank + ")", x.position(bank, bank), 0);
            }
        });
        due.sentence("14: BAD if there is no such bank", () -> {
            GridlockDesk x = sixQueued();
            due.is("six", x.waiting(0), 6);
            due.is("none", x.waiting(1), 0);
            for (int bank : new int[] {-1, 2, 3, 4, LEAST, MOST}) {
                due.is("waiting(" + bank + ")", x.waiting(bank), BAD);
            }
        });
        due.sentence("15: (0 is the head); BAD if there is no such bank or payment", EdgesTest::queued);
        due.sentence("16: 0 .. 6; BAD if it is not there", EdgesTest::state);
        due.sentence("17: of all payments that were ever settled", EdgesTest::turnover);
        due.sentence("18: The time.", () -> {
            GridlockDesk x = new GridlockDesk(2);
            due.is("at first", x.now(), 0);
            x.tick(0);
            x.tick(1001);
            due.is("refused", x.now(), 0);
            x.tick(1);
            x.tick(1000);
            x.close();
            due.is("of all days", x.now(), 1001);
        });
    }

    private static void queued() {
        GridlockDesk x = sixQueued();
        for (int length = 6; length > 0; length--) {
            due.is("the head", x.queued(0, 0), 0);
            due.is("the last of " + length, x.queued(0, length - 1), length - 1);
            due.is("beyond the last of " + length, x.queued(0, length), BAD);
            x.cancel(length - 1);
        }
        due.is("of an empty queue", x.queued(0, 0), BAD);
        GridlockDesk y = sixQueued();
        for (int i : new int[] {-1, 6, 7, LEAST, MOST}) {
            due.is("queued(0, " + i + ")", y.queued(0, i), BAD);
        }
        for (int bank : new int[] {-1, 2, 3, 4, LEAST, MOST}) {
            due.is("queued(" + bank + ", 0)", y.queued(bank, 0), BAD);
        }
        due.is("a queue that was always empty", y.queued(1, 0), BAD);
    }

    private static void state() {
        for (int k : new int[] {-1, 0, 1, 99, 100, LEAST, MOST}) {
            due.is("state(" + k + ") of none", new GridlockDesk(2).state(k), BAD);
            due.is("state(" + k + ") of six", sixQueued().state(k), k == 0 || k == 1 ? 0 : BAD);
        }
        int[] states = {6, 1, 2, 2, 3, 3, 3, 4, 5, 0};
        GridlockDesk x = oneOfEachState();
        for (int k = 0; k < states.length; k++) {
            due.is("state(" + k + ")", x.state(k), states[k]);
        }
        due.is("the next", x.state(states.length), BAD);
        GridlockDesk full = lent(2, LINE);
        for (int k = 0; k < 100; k++) {
            full.pay(0, 1, 1, 0, 0);
        }
        due.is("the 100th", full.state(99), 1);
        due.is("a 101st", full.state(100), BAD);
    }

    private static void turnover() {
        due.is("at first", new GridlockDesk(2).turnover(), 0);
        due.is("queued ones do not count", sixQueued().turnover(), 0);
        // 1 alone, 500 and 500 as a pair, 300 three times by resolving; none of those that ended unsettled.
        due.is("in all ways", oneOfEachState().turnover(), 1 + 1000 + 900);
        GridlockDesk x = lent(2, LINE);
        for (int k = 0; k < 100; k++) {
            x.pay(k % 2, 1 - k % 2, AMOUNT, 0, 0);
            if (k % 10 == 0) {
                x.close();
            }
        }
        due.is("100 of the greatest, on many days", x.turnover(), 100 * AMOUNT);
    }

    /** Payments 0 to 9: rejected, alone, a pair, three by resolving, cancelled, expired, queued. */
    private static GridlockDesk oneOfEachState() {
        GridlockDesk x = new GridlockDesk(3);
        x.pay(0, 1, 500, 0, 9);
        x.close();
        x.fund(0, 1);
        x.pay(0, 1, 1, 0, 9);
        x.pay(0, 1, 500, 0, 9);
        x.pay(1, 0, 500, 0, 9);
        x.pay(0, 1, 300, 0, 9);
        x.pay(1, 2, 300, 0, 9);
        x.pay(2, 0, 300, 0, 9);
        x.resolve();
        x.pay(0, 1, 400, 0, 9);
        x.cancel(7);
        x.pay(0, 1, 400, 0, 0);
        x.tick(1);
        x.pay(0, 1, 400, 0, 9);
        return x;
    }

    /** A call of which only the bank, or only the payment, is varied. */
    private interface Call {
        boolean takes(GridlockDesk desk, int which);
    }

    private static void noSuchBank(Call call) {
        for (int n = 2; n <= 4; n++) {
            due.is("the last of " + n, call.takes(new GridlockDesk(n), n - 1), true);
            for (int bank : new int[] {-1, n, n + 1, 100, LEAST, MOST}) {
                due.is("bank " + bank + " of " + n, call.takes(new GridlockDesk(n), bank), false);
            }
        }
    }

    private static void notThere(Call call) {
        for (int k : new int[] {-1, 0, 1, 99, 100, LEAST, MOST}) {
            due.is("payment " + k + " of none", call.takes(new GridlockDesk(2), k), false);
        }
        for (int k : new int[] {-1, 6, 7, 99, 100, LEAST, MOST}) {
            due.is("payment " + k + " of six", call.takes(sixQueued(), k), false);
        }
        due.is("the first of six", call.takes(sixQueued(), 0), true);
        due.is("the last of six", call.takes(sixQueued(), 5), true);
    }

    private static void notQueued(Call call) {
        GridlockDesk x = oneOfEachState();
        for (int k = 0; k < 9; k++) {
            int before = x.state(k);
            due.is("payment " + k + ", state " + before, call.takes(x, k), false);
            due.is("state afterwards", x.state(k), before);
        }
        due.is("the queued one", call.takes(x, 9), true);
    }

    private static GridlockDesk lent(int banks, long line) {
        GridlockDesk x = new GridlockDesk(banks);
        for (int bank = 0; bank < banks; bank++) {
            x.credit(bank, line);
        }
        return x;
    }

    /** Payments 0 to 5 wait at bank 0, with priority 1. */
    private static GridlockDesk sixQueued() {
        GridlockDesk x = new GridlockDesk(2);
        for (int k = 0; k < 6; k++) {
            x.pay(0, 1, 10, 1, 9);
        }
        return x;
    }

    /** Six wait at each of four banks until 9; all of them could go at once. */
    private static GridlockDesk fullQueues() {
        GridlockDesk x = new GridlockDesk(4);
        for (int i = 0; i < 6; i++) {
            for (int bank = 0; bank < 4; bank++) {
                x.pay(bank, (bank + 1) % 4, 10 + i, i % 4, 9);
            }
        }
        return x;
    }
}
