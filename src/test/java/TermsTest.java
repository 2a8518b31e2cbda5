/** The sentences of the document's "Terms", each with a test of its own, above all of its edges. */
public final class TermsTest {
    private static final int BAD = GridlockDesk.BAD;
    private static final int NEVER = Integer.MAX_VALUE;
    private static final long AMOUNT = 1_000_000_000_000L;
    private static final long LINE = 1_000_000_000_000_000L;
    private static final Due due = new Due("TermsTest");

    public static void main(String[] args) {
        banksAndPayments();
        queues();
        sums();
        wellAndReady();
        sweeping();
        resolving();
        due.sentence("The TIME is 0 at first.", TermsTest::timeAtFirst);
        due.sentence("BAD = -1, LONG = -2, MANY = -3", TermsTest::constants);
        due.end();
    }

    private static void banksAndPayments() {
        due.sentence("An object is used for at most 512 calls", TermsTest::greatestSumsOf512Calls);
        due.sentence("BANKS are 0 .. N - 1.", TermsTest::banksAre0ToNMinus1);
        due.sentence("Each has a BALANCE and a CREDIT line (0 or more); at first both are 0.", TermsTest::banksAtFirst);
        due.sentence("PAYMENTS are numbered 0, 1, .. in the order in which they came", TermsTest::paymentNumbers);
        due.sentence("there are at most 100 of them in all", TermsTest::atMost100InAll);
        due.sentence("Each goes from one bank to another", TermsTest::fromOneBankToAnother);
        due.sentence("SETTLED (once, whole and for good)", TermsTest::settledOnceWholeAndForGood);
        due.sentence("or cancelled, expired or rejected", TermsTest::endedForGood);
    }

    private static void queues() {
        due.sentence("At most 6 payments of a bank are queued.", TermsTest::atMost6Queued);
        due.sentence("At most 6: there is room again when one has ended", TermsTest::roomAgain);
        due.sentence("those with a greater priority before those with a lesser one", TermsTest::greaterPriorityFirst);
        due.sentence("among equal ones in the order in which they got this priority", TermsTest::equalPriorities);
        due.sentence("The first one is its HEAD.", TermsTest::onlyTheHead);
    }

    private static void sums() {
        due.sentence("SETTLING takes from one balance and adds to the other", TermsTest::settling);
        due.sentence("SENT(a, b): the payments settled on this day", TermsTest::sentOnThisDay);
        due.sentence("the POSITION of a towards b is SENT(a, b) - SENT(b, a)", TermsTest::positionBothWays);
        due.sentence("the TOTAL POSITION: towards all other banks", TermsTest::totalOfAllOthers);
        due.sentence("A LIMIT and a TOTAL LIMIT; at first there are none.", TermsTest::noLimitsAtFirst);
    }

    private static void wellAndReady() {
        due.sentence("no balance is less than minus its credit line", TermsTest::balanceToTheLine);
        due.sentence("no position is more than its limit", TermsTest::positionToTheLimit);
        due.sentence("no total position more than its total limit", TermsTest::totalToTheTotalLimit);
        due.sentence("wherever there is one", TermsTest::onlyWhereThereIsOne);
        due.sentence("READY: if just these were settled all at once", TermsTest::justTheseAllAtOnce);
    }

    private static void sweeping() {
        due.sentence("SWEEPING is done at the end of every call ..", TermsTest::everyCallSweeps);
        due.sentence("Over and over, until neither applies", TermsTest::sweepGoesOnAndOn);
        due.sentence("Over and over: full queues", TermsTest::sweepEmptiesFullQueues);
        due.sentence("Over and over: heads after pairs after heads", TermsTest::headsAfterPairs);
        due.sentence("(1) if some bank's head alone is READY", TermsTest::eachBanksHead);
        due.sentence("(2) otherwise", TermsTest::headsBeforePairs);
        due.sentence("(2) the head of a goes to b and the head of b goes to a", TermsTest::pairNeedsBothHeads);
        due.sentence("(2) banks a < b: any two", TermsTest::anyTwoBanks);
        due.sentence("(2) both together are READY", TermsTest::pairKeepsCreditAndLimits);
        due.sentence("for the least a, and among those the least b", TermsTest::leastPairFirst);
    }

    private static void resolving() {
        due.sentence("the first n(a) payments (0 to all of them)", TermsTest::noneToAll);
        due.sentence("from each bank's queue the first", TermsTest::firstOfEachQueue);
        due.sentence("all together READY", TermsTest::resolvedAllTogetherReady);
        due.sentence("the greatest n(a) for every bank a at once", TermsTest::greatestAtOnce);
    }

    private static void greatestSumsOf512Calls() {
        GridlockDesk rich = new GridlockDesk(2);
        for (int i = 0; i < 511; i++) {
            due.is("fund most", rich.fund(1, AMOUNT), true);
        }
        due.is("the greatest balance", rich.balance(1), 511 * AMOUNT);
        GridlockDesk poor = new GridlockDesk(2);
        poor.credit(0, LINE);
        for (int i = 0; i < 510; i++) {
            due.is("fund least", poor.fund(0, -AMOUNT), true);
        }
        due.is("the least balance", poor.balance(0), -510 * AMOUNT);
        GridlockDesk old = new GridlockDesk(2);
        for (int i = 0; i < 511; i++) {
            due.is("tick most", old.tick(1000), 0);
        }
        due.is("the latest time", old.now(), 511_000);
        GridlockDesk busy = new GridlockDesk(4);
        busy.credit(3, LINE);
        for (int k = 0; k < 100; k++) {
            due.is("pay most", busy.state(busy.pay(3, 2, AMOUNT, 0, NEVER)), 1);
        }
        due.is("the greatest turnover", busy.turnover(), 100 * AMOUNT);
        due.is("the greatest position", busy.position(3, 2), 100 * AMOUNT);
        due.is("the least position", busy.position(2, 3), -100 * AMOUNT);
        due.is("a limit just beneath", busy.limit(3, 2, 100 * AMOUNT - 1), false);
        due.is("a limit", busy.limit(3, 2, 100 * AMOUNT), true);
        due.is("a total limit just beneath", busy.totalLimit(3, 100 * AMOUNT - 1), false);
        due.is("a total limit", busy.totalLimit(3, 100 * AMOUNT), true);
    }

    private static void banksAre0ToNMinus1() {
        for (int n = 2; n <= 4; n++) {
            bankIsThere(n, 0, n - 1);
            bankIsThere(n, n - 1, 0);
            for (int bank : new int[] {-1, n, n + 1, Integer.MIN_VALUE, Integer.MAX_VALUE}) {
                bankIsNotThere(n, bank);
            }
        }
    }

    private static void bankIsThere(int n, int bank, int other) {
        GridlockDesk x = new GridlockDesk(n);
        String of = " bank " + bank + " of " + n;
        due.is("fund" + of, x.fund(bank, 5), true);
        due.is("credit" + of, x.credit(bank, 5), true);
        due.is("limit from" + of, x.limit(bank, other, 5), true);
        due.is("limit to" + of, x.limit(other, bank, 5), true);
        due.is("totalLimit" + of, x.totalLimit(bank, 5), true);
        due.is("pay from" + of, x.pay(bank, other, 4, 0, 0), 0);
        due.is("pay to" + of, x.pay(other, bank, 1, 0, 0), 1);
        due.is("balance" + of, x.balance(bank), 2);
        due.is("position from" + of, x.position(bank, other), 3);
        due.is("position to" + of, x.position(other, bank), -3);
        x.pay(bank, other, 3, 0, 0);
        due.is("waiting" + of, x.waiting(bank), 1);
        due.is("queued" + of, x.queued(bank, 0), 2);
    }

    private static void bankIsNotThere(int n, int bank) {
        GridlockDesk x = new GridlockDesk(n);
        String of = " bank " + bank + " of " + n;
        due.is("fund" + of, x.fund(bank, 5), false);
        due.is("credit" + of, x.credit(bank, 5), false);
        due.is("limit from" + of, x.limit(bank, 0, 5), false);
        due.is("limit to" + of, x.limit(0, bank, 5), false);
        due.is("totalLimit" + of, x.totalLimit(bank, 5), false);
        due.is("pay from" + of, x.pay(bank, 0, 4, 0, 0), BAD);
        due.is("pay to" + of, x.pay(0, bank, 1, 0, 0), BAD);
        due.is("balance" + of, x.balance(bank), 0);
        due.is("position from" + of, x.position(bank, 0), 0);
        due.is("position to" + of, x.position(0, bank), 0);
        due.is("waiting" + of, x.waiting(bank), BAD);
        due.is("queued" + of, x.queued(bank, 0), BAD);
    }

    private static void banksAtFirst() {
        for (int bank = 0; bank < 4; bank++) {
            GridlockDesk x = new GridlockDesk(4);
            due.is("balance", x.balance(bank), 0);
            due.is("no credit", x.fund(bank, -1), false);
            due.is("not less than 0", x.credit(bank, -1), false);
            due.is("0 is a line", x.credit(bank, 0), true);
            x.pay(bank, (bank + 1) % 4, 1, 0, 0);
            due.is("nothing to pay with", x.state(0), 0);
        }
    }

    private static void paymentNumbers() {
        GridlockDesk x = new GridlockDesk(4);
        due.is("none is there", x.state(0), BAD);
        due.is("first", x.pay(3, 0, 5, 0, 0), 0);
        due.is("refused", x.pay(3, 0, 5, 4, 0), BAD);
        due.is("refused ones get no number", x.state(1), BAD);
        due.is("a greater priority gets no lesser number", x.pay(3, 0, 5, 3, 0), 1);
        due.is("another bank", x.pay(0, 3, 6, 0, 0), 2);
        x.cancel(1);
        due.is("a number is not used again", x.pay(3, 0, 5, 0, 0), 3);
        x.close();
        due.is("nor on another day", x.pay(1, 0, 5, 0, 0), 4);
        due.is("the next is not there", x.state(5), BAD);
    }

    private static void atMost100InAll() {
        // The ended ones count too, in whichever way they ended.
        GridlockDesk x = new GridlockDesk(2);
        x.fund(0, 5);
        for (int k = 0; k < 98; k++) {
            due.is("payment " + k, x.pay(0, 1, k < 5 ? 1 : 9, 0, x.now()), k);
            if (k % 3 == 0) {
                x.cancel(k);
            } else if (k % 3 == 1) {
                x.tick(1);
            } else {
                x.close();
            }
        }
        due.is("none waits", x.waiting(0), 0);
        due.is("the 99th", x.pay(1, 0, 9, 0, NEVER), 98);
        due.is("the 100th", x.pay(0, 1, 9, 0, NEVER), 99);
        due.is("the 101st", x.pay(0, 1, 9, 0, NEVER), GridlockDesk.MANY);
        due.is("the 100th is there", x.state(99), 2);
        due.is("the 101st is not", x.state(100), BAD);
        x.close();
        due.is("on another day", x.pay(1, 0, 1, 0, NEVER), GridlockDesk.MANY);
    }

    private static void fromOneBankToAnother() {
        GridlockDesk x = new GridlockDesk(4);
        for (int a = 0; a < 4; a++) {
            for (int b = 0; b < 4; b++) {
                int before = x.waiting(a);
                due.is(a + " to " + b, x.pay(a, b, 10 + a, 0, 0) >= 0, a != b);
                due.is(a + " to " + b + " waits", x.waiting(a), a == b ? before : before + 1);
                x.close();
            }
        }
    }

    private static void settledOnceWholeAndForGood() {
        GridlockDesk x = new GridlockDesk(2);
        x.pay(0, 1, 10, 0, 0);
        x.fund(0, 9);
        due.is("no part of it", x.balance(0) * 10 + x.balance(1), 90);
        due.is("nothing of it", x.turnover(), 0);
        x.fund(0, 21);
        due.is("whole", x.balance(0) * 100 + x.balance(1), 2010);
        due.is("settled", x.state(0), 1);
        x.fund(0, 100);
        due.is("once", x.turnover(), 10);
        due.is("not resolved again", x.resolve(), 0);
        staysAsItIs(x, 0, 1);
        due.is("once in all", x.balance(0) * 100 + x.balance(1), 12010);

        GridlockDesk y = new GridlockDesk(3);
        y.pay(0, 1, 10, 0, 0);
        y.pay(1, 0, 10, 0, 0);
        staysAsItIs(y, 0, 2);
        staysAsItIs(y, 1, 2);

        GridlockDesk z = new GridlockDesk(3);
        z.pay(0, 1, 10, 0, 0);
        z.pay(1, 2, 10, 0, 0);
        z.pay(2, 0, 10, 0, 0);
        due.is("the ring", z.resolve(), 3);
        for (int k = 0; k < 3; k++) {
            staysAsItIs(z, k, 3);
        }
    }

    private static void endedForGood() {
        GridlockDesk x = new GridlockDesk(2);
        x.pay(0, 1, 10, 0, 9);
        x.cancel(0);
        x.pay(0, 1, 10, 0, 0);
        x.tick(1);
        x.pay(0, 1, 10, 0, 9);
        x.close();
        for (int k = 0; k < 3; k++) {
            staysAsItIs(x, k, 4 + k);
        }
        x.fund(0, 100);
        due.is("none is settled later", x.turnover(), 0);
        due.is("none is resolved later", x.resolve(), 0);
    }

    private static void staysAsItIs(GridlockDesk x, int k, int state) {
        due.is("state", x.state(k), state);
        due.is("cancel", x.cancel(k), false);
        due.is("urge", x.urge(k, 3), false);
        due.is("tick", x.tick(1000), 0);
        due.is("close", x.close(), 0);
        due.is("state for good", x.state(k), state);
    }

    private static void atMost6Queued() {
        GridlockDesk x = new GridlockDesk(4);
        for (int bank = 0; bank < 4; bank++) {
            due.is("an empty queue", x.waiting(bank), 0);
            due.is("no head", x.queued(bank, 0), BAD);
            for (int i = 0; i < 6; i++) {
                due.is("payment " + i + " of " + bank, x.pay(bank, (bank + 1) % 4, 10, 0, 0), 6 * bank + i);
            }
            due.is("a seventh of " + bank, x.pay(bank, (bank + 2) % 4, 10, 0, 0), GridlockDesk.LONG);
            due.is("a full queue", x.waiting(bank), 6);
            due.is("its last", x.queued(bank, 5), 6 * bank + 5);
            due.is("no more", x.queued(bank, 6), BAD);
        }
        GridlockDesk y = fullQueue();
        y.fund(0, 9);
        due.is("a seventh that could be settled at once", y.pay(0, 1, 9, 3, 0), GridlockDesk.LONG);
        due.is("to others than the six", y.balance(0), 9);
        GridlockDesk z = new GridlockDesk(2);
        z.fund(0, 9);
        for (int k = 0; k < 9; k++) {
            due.is("a settled one takes no place", z.state(z.pay(0, 1, 1, 0, 0)), 1);
        }
    }

    private static void roomAgain() {
        GridlockDesk settled = fullQueue();
        settled.fund(0, 10);
        due.is("one is settled", settled.pay(0, 1, 10, 0, 0), 6);
        due.is("and no more", settled.pay(0, 1, 10, 0, 0), GridlockDesk.LONG);
        GridlockDesk offset = fullQueue();
        due.is("the other of a pair", offset.pay(1, 0, 10, 0, 0), 6);
        due.is("one is offset", offset.pay(0, 1, 10, 0, 0), 7);
        due.is("and no more", offset.pay(0, 1, 10, 0, 0), GridlockDesk.LONG);
        GridlockDesk cancelled = fullQueue();
        cancelled.cancel(5);
        due.is("one is cancelled", cancelled.pay(0, 1, 10, 0, 0), 6);
        due.is("and no more", cancelled.pay(0, 1, 10, 0, 0), GridlockDesk.LONG);
        GridlockDesk expired = fullQueue();
        expired.tick(1);
        due.is("one is expired", expired.pay(0, 1, 10, 0, 1), 6);
        due.is("and no more", expired.pay(0, 1, 10, 0, 1), GridlockDesk.LONG);
        GridlockDesk rejected = fullQueue();
        rejected.close();
        for (int k = 6; k < 12; k++) {
            due.is("all are rejected", rejected.pay(0, 1, 10, 0, 0), k);
        }
        due.is("and no more", rejected.pay(0, 1, 10, 0, 0), GridlockDesk.LONG);
        GridlockDesk urged = fullQueue();
        due.is("an urged one takes the place it had", urged.urge(0, 3), true);
        due.is("no room", urged.pay(0, 1, 10, 0, 0), GridlockDesk.LONG);
    }

    /** Six wait at bank 0; the first of them until 0. */
    private static GridlockDesk fullQueue() {
        GridlockDesk x = new GridlockDesk(2);
        for (int k = 0; k < 6; k++) {
            x.pay(0, 1, 10, 0, k == 0 ? 0 : 9);
        }
        return x;
    }

    private static void greaterPriorityFirst() {
        for (int high = 1; high <= 3; high++) {
            for (int low = 0; low < high; low++) {
                GridlockDesk x = new GridlockDesk(2);
                x.pay(0, 1, 10, low, 0);
                x.pay(0, 1, 10, high, 0);
                queueIs(high + " before " + low, x, 1, 0);
                GridlockDesk y = new GridlockDesk(2);
                y.pay(0, 1, 10, high, 0);
                y.pay(0, 1, 10, low, 0);
                queueIs(low + " after " + high, y, 0, 1);
            }
        }
        GridlockDesk full = new GridlockDesk(2);
        for (int priority : new int[] {0, 1, 1, 2, 2, 3}) {
            full.pay(0, 1, 10, priority, 0);
        }
        queueIs("a full queue from behind", full, 5, 3, 4, 1, 2, 0);
    }

    private static void equalPriorities() {
        for (int priority = 0; priority <= 3; priority++) {
            GridlockDesk x = new GridlockDesk(2);
            for (int k = 0; k < 6; k++) {
                x.pay(0, 1, 10, priority, 0);
            }
            queueIs("by coming", x, 0, 1, 2, 3, 4, 5);
            x.urge(0, priority);
            queueIs("the head urged", x, 1, 2, 3, 4, 5, 0);
            x.urge(0, priority);
            queueIs("the last urged", x, 1, 2, 3, 4, 5, 0);
            x.urge(3, (priority + 1) % 4);
            x.urge(3, priority);
            queueIs("away and back", x, 1, 2, 4, 5, 0, 3);
            x.cancel(4);
            x.pay(0, 1, 10, priority, 0);
            queueIs("one that comes after an urged one", x, 1, 2, 5, 0, 3, 6);
        }
    }

    private static void onlyTheHead() {
        GridlockDesk x = new GridlockDesk(3);
        x.fund(0, 10);
        x.pay(0, 1, 11, 0, 9);
        for (int i = 0; i < 5; i++) {
            x.pay(0, 2, 1, 0, 9);
        }
        due.is("none goes past the head", x.turnover(), 0);
        x.pay(0, 2, 1, 0, 9);
        due.is("the head is first", x.queued(0, 0), 0);
        x.cancel(0);
        due.is("all go when it has gone", x.turnover(), 5);
    }

    private static void settling() {
        for (long amount : new long[] {1, (1L << 31) - 1, 1L << 31, 1L << 32, (1L << 32) + 1, AMOUNT}) {
            GridlockDesk x = new GridlockDesk(3);
            x.fund(0, amount - 1);
            x.pay(0, 2, amount, 0, 9);
            due.is("one short of " + amount, x.state(0), 0);
            x.fund(0, 1);
            due.is("settled " + amount, x.state(0), 1);
            due.is("taken", x.balance(0), 0);
            due.is("added", x.balance(2), amount);
            due.is("not to a third", x.balance(1), 0);
            due.is("turnover", x.turnover(), amount);
        }
    }

    private static void sentOnThisDay() {
        GridlockDesk x = new GridlockDesk(2);
        x.fund(0, 10);
        x.pay(0, 1, 4, 0, 9);
        x.tick(1000);
        due.is("time alone makes no new day", x.position(0, 1), 4);
        x.pay(0, 1, 7, 0, 2000);
        due.is("a queued one is not sent", x.position(0, 1), 4);
        x.close();
        due.is("nothing was sent on the new day", x.position(0, 1), 0);
        x.pay(0, 1, 5, 0, 2000);
        due.is("what was sent on it", x.position(0, 1), 5);
        due.is("a limit of this day", x.limit(0, 1, 5), true);
        due.is("a limit less than this day's", x.limit(0, 1, 4), false);
        due.is("a total limit of this day", x.totalLimit(0, 5), true);
        due.is("a total limit less than this day's", x.totalLimit(0, 4), false);
    }

    private static void positionBothWays() {
        GridlockDesk x = new GridlockDesk(3);
        x.fund(0, 100);
        x.pay(0, 1, 40, 0, 9);
        x.pay(1, 0, 40, 0, 9);
        due.is("as much as it got", x.position(0, 1), 0);
        x.pay(0, 1, 10, 0, 9);
        x.pay(1, 2, 10, 0, 9);
        x.pay(2, 0, 10, 0, 9);
        due.is("0 to 1", x.position(0, 1), 10);
        due.is("1 to 0", x.position(1, 0), -10);
        due.is("1 to 2", x.position(1, 2), 10);
        due.is("2 to 0", x.position(2, 0), 10);
        due.is("0 to 2", x.position(0, 2), -10);
    }

    private static void totalOfAllOthers() {
        for (int n = 2; n <= 4; n++) {
            for (int a = 0; a < n; a++) {
                GridlockDesk x = new GridlockDesk(n);
                x.fund(a, 111);
                long total = 0;
                for (int i = 1, amount = 1; i < n; i++, amount *= 10) {
                    x.pay(a, (a + i) % n, amount, 0, 9);
                    total += amount;
                }
                due.is("all others of " + a, x.totalLimit(a, total), true);
                due.is("one less", x.totalLimit(a, total - 1), false);
                x.pay((a + 1) % n, a, 1, 0, 9);
                due.is("what it got", x.totalLimit(a, total - 1), true);
                due.is("one less than that", total > 1 && x.totalLimit(a, total - 2), false);
            }
        }
    }

    private static void noLimitsAtFirst() {
        for (int a = 0; a < 4; a++) {
            for (int b = 0; b < 4; b++) {
                if (a != b) {
                    GridlockDesk x = new GridlockDesk(4);
                    x.fund(a, AMOUNT);
                    x.pay(a, b, AMOUNT, 0, 0);
                    due.is("all of it from " + a + " to " + b, x.state(0), 1);
                }
            }
        }
    }

    private static void balanceToTheLine() {
        for (long line : new long[] {0, 1, 50, LINE}) {
            long most = Math.min(line + 20, AMOUNT);
            GridlockDesk x = new GridlockDesk(2);
            x.fund(0, most == AMOUNT ? 0 : 20);
            x.credit(0, line);
            if (most < AMOUNT) {
                x.pay(0, 1, most + 1, 0, 0);
                due.is("one beyond a line of " + line, x.state(0), 0);
                x.cancel(0);
            }
            int k = x.pay(0, 1, most, 0, 0);
            due.is("to a line of " + line, x.state(k), 1);
            due.is("the other need not have any", x.balance(1), most);
        }
    }

    private static void positionToTheLimit() {
        for (long limit : new long[] {0, 1, 50, AMOUNT - 1}) {
            GridlockDesk x = new GridlockDesk(2);
            x.credit(0, LINE);
            x.credit(1, LINE);
            x.limit(0, 1, limit);
            x.pay(0, 1, limit + 1, 3, 9);
            due.is("one beyond a limit of " + limit, x.state(0), 0);
            x.cancel(0);
            if (limit > 0) {
                x.pay(0, 1, limit, 0, 9);
                due.is("to a limit of " + limit, x.state(1), 1);
            }
            int k = x.pay(0, 1, 1, 0, 9);
            due.is("one more", x.state(k), 0);
            x.pay(1, 0, 1, 0, 9);
            due.is("what comes back makes room", x.state(k), 1);
        }
    }

    private static void totalToTheTotalLimit() {
        for (long limit : new long[] {0, 1, 50, AMOUNT - 1}) {
            GridlockDesk x = new GridlockDesk(3);
            x.credit(0, LINE);
            x.credit(2, LINE);
            x.totalLimit(0, limit);
            x.pay(0, 1, limit + 1, 3, 9);
            due.is("one beyond a total limit of " + limit, x.state(0), 0);
            x.cancel(0);
            if (limit > 0) {
                x.pay(0, 1, limit, 0, 9);
                due.is("to a total limit of " + limit, x.state(1), 1);
            }
            int k = x.pay(0, 1, 1, 0, 9);
            due.is("one more", x.state(k), 0);
            x.pay(2, 0, 1, 0, 9);
            due.is("what comes from another makes room", x.state(k), 1);
        }
    }

    private static void onlyWhereThereIsOne() {
        GridlockDesk x = new GridlockDesk(3);
        x.credit(0, LINE);
        x.credit(1, LINE);
        x.limit(0, 1, 0);
        due.is("towards another bank", x.state(x.pay(0, 2, AMOUNT, 0, 0)), 1);
        due.is("the other way", x.state(x.pay(1, 0, AMOUNT, 0, 0)), 1);
        due.is("of another bank", x.state(x.pay(1, 2, AMOUNT, 0, 0)), 1);
        GridlockDesk y = new GridlockDesk(3);
        y.credit(0, LINE);
        y.credit(1, LINE);
        y.totalLimit(0, 0);
        due.is("in total of another bank", y.state(y.pay(1, 0, AMOUNT, 0, 0)), 1);
        due.is("against what was got", y.state(y.pay(0, 2, AMOUNT, 0, 0)), 1);
        due.is("none beyond", y.state(y.pay(0, 2, 1, 0, 0)), 0);
        y.totalLimit(0, -1);
        due.is("none any more", y.state(2), 1);
    }

    private static void justTheseAllAtOnce() {
        // Bank 0 could pay its first or its second payment, but not both.
        GridlockDesk x = new GridlockDesk(2);
        x.fund(0, 10);
        x.pay(0, 1, 10, 0, 9);
        x.pay(0, 1, 1, 0, 9);
        due.is("the first", x.state(0), 1);
        due.is("not the second", x.state(1), 0);
        // Neither bank has anything, but both at once have enough.
        GridlockDesk y = new GridlockDesk(2);
        y.pay(0, 1, AMOUNT, 0, 9);
        y.pay(1, 0, AMOUNT, 0, 9);
        due.is("both at once", y.state(0) * 10 + y.state(1), 22);
        due.is("balances", y.balance(0) * 10 + y.balance(1), 0);
        // With limits of 0 for both, and total limits of 0 too.
        GridlockDesk z = new GridlockDesk(2);
        for (int a = 0; a < 2; a++) {
            z.fund(a, 100);
            z.limit(a, 1 - a, 0);
            z.totalLimit(a, 0);
        }
        z.pay(0, 1, 7, 0, 9);
        z.pay(1, 0, 7, 0, 9);
        due.is("at once within limits of 0", z.state(0) * 10 + z.state(1), 22);
    }

    private static void everyCallSweeps() {
        GridlockDesk byFund = headInTheWay();
        byFund.fund(0, 100);
        due.is("fund", byFund.turnover(), 110);
        GridlockDesk byCredit = headInTheWay();
        byCredit.credit(0, 100);
        due.is("credit", byCredit.turnover(), 110);
        GridlockDesk byLimit = headInTheWay();
        byLimit.limit(0, 1, 0);
        byLimit.fund(0, 100);
        byLimit.limit(0, 1, 100);
        due.is("limit", byLimit.turnover(), 110);
        GridlockDesk byNoLimit = headInTheWay();
        byNoLimit.limit(0, 1, 0);
        byNoLimit.fund(0, 100);
        byNoLimit.limit(0, 1, -1);
        due.is("limit of none", byNoLimit.turnover(), 110);
        GridlockDesk byTotal = headInTheWay();
        byTotal.totalLimit(0, 0);
        byTotal.fund(0, 100);
        byTotal.totalLimit(0, 110);
        due.is("totalLimit", byTotal.turnover(), 110);
        GridlockDesk byPay = headInTheWay();
        byPay.fund(1, 100);
        byPay.pay(1, 0, 100, 0, 9);
        due.is("pay", byPay.turnover(), 210);
        GridlockDesk byCancel = headInTheWay();
        byCancel.cancel(0);
        due.is("cancel", byCancel.turnover(), 10);
        GridlockDesk byUrge = headInTheWay();
        byUrge.urge(1, 2);
        due.is("urge up", byUrge.turnover(), 10);
        GridlockDesk byUrgeDown = headInTheWay();
        byUrgeDown.urge(0, 1);
        due.is("urge down", byUrgeDown.turnover(), 10);
        GridlockDesk byTick = headInTheWay();
        byTick.tick(1);
        due.is("tick", byTick.turnover(), 10);
        GridlockDesk byClose = headInTheWay();
        byClose.close();
        due.is("close leaves nothing to settle", byClose.turnover(), 0);
    }

    /** Bank 0 has 10, and could pay its second payment, but not its first, which waits until 0. */
    private static GridlockDesk headInTheWay() {
        GridlockDesk x = new GridlockDesk(3);
        x.fund(0, 10);
        x.pay(0, 1, 100, 1, 0);
        x.pay(0, 2, 10, 1, 9);
        due.is("both wait", x.turnover(), 0);
        return x;
    }

    private static void sweepGoesOnAndOn() {
        GridlockDesk x = new GridlockDesk(4);
        x.pay(0, 1, 10, 0, 9);
        x.pay(1, 2, 9, 0, 9);
        x.pay(2, 3, 8, 0, 9);
        x.pay(2, 3, 2, 0, 9);
        x.pay(3, 0, 7, 0, 9);
        due.is("all wait", x.turnover(), 0);
        x.fund(0, 10);
        due.is("one after another", x.turnover(), 10 + 9 + 8 + 7);
        due.is("not the second of bank 2", x.state(3), 0);
        due.is("balance 0", x.balance(0), 7);
        due.is("balance 1", x.balance(1), 1);
        due.is("balance 2", x.balance(2), 1);
        due.is("balance 3", x.balance(3), 1);
    }

    private static void sweepEmptiesFullQueues() {
        // Six in each of four queues, and one call lets all 24 go.
        for (int funded = 0; funded < 4; funded++) {
            for (int step : new int[] {1, 3}) {
                GridlockDesk x = new GridlockDesk(4);
                for (int i = 0; i < 6; i++) {
                    for (int bank = 0; bank < 4; bank++) {
                        x.pay(bank, (bank + step) % 4, 10, 0, 9);
                    }
                }
                due.is("none yet", x.turnover(), 0);
                x.fund(funded, 10);
                due.is("all of them", x.turnover(), 240);
                for (int k = 0; k < 24; k++) {
                    due.is("alone", x.state(k), 1);
                }
            }
        }
    }

    private static void headsAfterPairs() {
        // The first head expires. Then a pair goes, the head behind it, and a pair behind that.
        GridlockDesk x = new GridlockDesk(2);
        x.fund(0, 1);
        x.pay(0, 1, 500, 3, 0);
        x.pay(0, 1, 20, 2, 9);
        x.pay(0, 1, 1, 1, 9);
        x.pay(0, 1, 50, 0, 9);
        x.pay(1, 0, 20, 2, 9);
        x.pay(1, 0, 50, 0, 9);
        due.is("the first one holds all", x.turnover(), 0);
        due.is("one expires", x.tick(1), 1);
        due.is("a pair", x.state(1) * 10 + x.state(4), 22);
        due.is("a head", x.state(2), 1);
        due.is("a pair again", x.state(3) * 10 + x.state(5), 22);
    }

    private static void eachBanksHead() {
        for (int n = 2; n <= 4; n++) {
            for (int a = 0; a < n; a++) {
                GridlockDesk x = new GridlockDesk(n);
                x.pay(a, (a + 1) % n, 10, 0, 9);
                due.is("bank " + a + " waits", x.state(0), 0);
                x.fund(a, 10);
                due.is("bank " + a + " pays alone", x.state(0), 1);
            }
        }
    }

    private static void headsBeforePairs() {
        // Banks a and b would make a pair, but the head of one goes alone first, then the other.
        for (int a = 0; a < 4; a++) {
            for (int b = 0; b < 4; b++) {
                if (a != b) {
                    GridlockDesk x = new GridlockDesk(4);
                    x.pay(a, b, 10, 0, 9);
                    x.fund(b, 10);
                    x.pay(b, a, 10, 0, 9);
                    due.is("both alone", x.state(0) * 10 + x.state(1), 11);
                }
            }
        }
    }

    private static void pairNeedsBothHeads() {
        GridlockDesk x = new GridlockDesk(3);
        x.pay(0, 2, 10, 0, 9);
        x.pay(0, 1, 10, 0, 9);
        x.pay(1, 0, 10, 0, 9);
        due.is("not behind a head", x.turnover(), 0);
        x.urge(1, 1);
        due.is("both are heads", x.state(1) * 10 + x.state(2), 22);
        GridlockDesk y = new GridlockDesk(3);
        y.pay(0, 1, 10, 0, 9);
        y.pay(1, 2, 10, 0, 9);
        y.pay(1, 0, 10, 0, 9);
        due.is("not behind the other's head", y.turnover(), 0);
        y.pay(2, 0, 10, 0, 9);
        due.is("three are no pair", y.turnover(), 0);
        y.cancel(1);
        due.is("both are heads now", y.state(0) * 10 + y.state(2), 22);
    }

    private static void anyTwoBanks() {
        for (int a = 0; a < 4; a++) {
            for (int b = 0; b < 4; b++) {
                if (a != b) {
                    GridlockDesk x = new GridlockDesk(4);
                    x.pay(a, b, 10, 0, 9);
                    due.is("one way", x.state(0), 0);
                    x.pay(b, a, 10, 0, 9);
                    due.is("both ways of " + a + " and " + b, x.state(0) * 10 + x.state(1), 22);
                }
            }
        }
    }

    private static void pairKeepsCreditAndLimits() {
        for (int payer = 0; payer < 2; payer++) {
            GridlockDesk x = withTen(payer);
            x.fund(payer, -1);
            payBothWays(x, payer);
            due.is("one short", x.turnover(), 0);
            x.credit(payer, 1);
            due.is("with credit", x.state(0) * 10 + x.state(1), 22);
            due.is("balance", x.balance(payer), -1);
            due.is("the other's balance", x.balance(1 - payer), 10);

            GridlockDesk y = withTen(payer);
            y.totalLimit(payer, 9);
            payBothWays(y, payer);
            due.is("beyond the total limit", y.turnover(), 0);
            y.totalLimit(payer, 10);
            due.is("within the total limit", y.state(0) * 10 + y.state(1), 22);

            GridlockDesk z = withTen(payer);
            z.limit(payer, 1 - payer, 9);
            payBothWays(z, payer);
            due.is("beyond the limit", z.turnover(), 0);
            z.limit(payer, 1 - payer, 10);
            due.is("within the limit", z.state(0) * 10 + z.state(1), 22);
        }
    }

    private static GridlockDesk withTen(int bank) {
        GridlockDesk x = new GridlockDesk(2);
        x.fund(bank, 10);
        return x;
    }

    /** The payer pays ten more than it gets. */
    private static void payBothWays(GridlockDesk x, int payer) {
        x.pay(payer, 1 - payer, 110, 0, 9);
        x.pay(1 - payer, payer, 100, 0, 9);
    }

    private static void leastPairFirst() {
        // Two great heads expire at once, and two pairs are ready. When banks a and b have been
        // offset, bank a pays on to c, and what waits at c and d then goes alone.
        int[][] rows = {{0, 1, 2, 3}, {0, 2, 1, 3}, {0, 3, 1, 2}, {1, 0, 2, 3}, {2, 0, 3, 1}, {3, 0, 2, 1}};
        for (int[] row : rows) {
            int a = row[0];
            int b = row[1];
            int c = row[2];
            int d = row[3];
            GridlockDesk x = new GridlockDesk(4);
            x.fund(b, 5);
            x.pay(b, a, 100, 3, 0);
            x.pay(d, c, 100, 3, 0);
            x.pay(a, b, 10, 0, 9);
            x.pay(b, a, 15, 0, 9);
            x.pay(a, c, 5, 0, 9);
            x.pay(c, d, 5, 0, 9);
            x.pay(d, c, 5, 0, 9);
            due.is("none yet", x.turnover(), 0);
            due.is("two expire", x.tick(1), 2);
            due.is("the least pair first", x.state(2) * 10 + x.state(3), 22);
            due.is("then a head again", x.state(4), 1);
            due.is("and no second pair", x.state(5) * 10 + x.state(6), 11);
        }
    }

    private static void noneToAll() {
        GridlockDesk x = new GridlockDesk(4);
        due.is("no queue", x.resolve(), 0);
        x.pay(0, 1, 10, 0, 9);
        due.is("none of one", x.resolve(), 0);
        due.is("it waits", x.state(0), 0);
        for (int n = 3; n <= 4; n++) {
            for (int length = 1; length <= 6; length++) {
                GridlockDesk y = rings(n, length);
                due.is("all of " + length + " in each of " + n, y.resolve(), n * length);
                for (int k = 0; k < n * length; k++) {
                    due.is("settled by resolving", y.state(k), 3);
                }
                due.is("none is left", y.resolve(), 0);
            }
        }
        GridlockDesk z = rings(3, 6);
        z.cancel(1);
        due.is("the shortest queue, five", z.resolve(), 15);
        due.is("what is left", z.waiting(0) * 100 + z.waiting(1) * 10 + z.waiting(2), 101);
        due.is("none of full queues", unevenRings().resolve(), 0);
    }

    /** Six at each of four banks, of which banks 1 to 3 pay more than they get. */
    private static GridlockDesk unevenRings() {
        GridlockDesk x = new GridlockDesk(4);
        for (int i = 0; i < 6; i++) {
            for (int a = 0; a < 4; a++) {
                x.pay(a, (a + 1) % 4, 10 + a, 0, 9);
            }
        }
        return x;
    }

    private static GridlockDesk rings(int banks, int length) {
        GridlockDesk x = new GridlockDesk(banks);
        for (int i = 0; i < length; i++) {
            for (int a = 0; a < banks; a++) {
                x.pay(a, (a + 1) % banks, 10, 0, 9);
            }
        }
        due.is("none goes by sweeping", x.turnover(), 0);
        return x;
    }

    private static void firstOfEachQueue() {
        // Bank 1's first is too great; its second would do, but can't be taken without the first.
        GridlockDesk x = new GridlockDesk(3);
        x.pay(0, 1, 10, 0, 9);
        x.pay(1, 2, 11, 0, 9);
        x.pay(1, 2, 10, 0, 9);
        x.pay(2, 0, 10, 0, 9);
        due.is("not past the first", x.resolve(), 0);
        x.urge(2, 1);
        due.is("the first by priority", x.resolve(), 3);
        due.is("the other waits", x.state(1) * 10 + x.state(2), 3);
    }

    private static void resolvedAllTogetherReady() {
        // Bank 0 pays three more than it gets: each bound in turn is one short, then just enough.
        GridlockDesk x = threeMore();
        x.fund(0, 2);
        due.is("the balance is short", x.resolve(), 0);
        x.fund(0, 1);
        due.is("the balance", x.resolve(), 3);
        due.is("all of it", x.balance(0), 0);
        GridlockDesk y = threeMore();
        y.credit(0, 2);
        due.is("the credit line is short", y.resolve(), 0);
        y.credit(0, 3);
        due.is("the credit line", y.resolve(), 3);
        due.is("to the line", y.balance(0), -3);
        GridlockDesk z = threeMore();
        z.credit(0, 3);
        z.limit(0, 1, 2);
        due.is("the limit is short", z.resolve(), 0);
        z.limit(0, 1, 3);
        due.is("the limit", z.resolve(), 3);
        due.is("to the limit", z.position(0, 1), 3);
        GridlockDesk w = threeMore();
        w.credit(0, 3);
        w.totalLimit(0, 2);
        due.is("the total limit is short", w.resolve(), 0);
        w.totalLimit(0, 3);
        due.is("the total limit", w.resolve(), 3);
        due.is("no more", w.totalLimit(0, 2), false);
    }

    /** Two of bank 0, 15 in all, against one of 12: neither the heads alone nor as a pair are ready. */
    private static GridlockDesk threeMore() {
        GridlockDesk x = new GridlockDesk(2);
        x.pay(0, 1, 10, 0, 9);
        x.pay(0, 1, 5, 0, 9);
        x.pay(1, 0, 12, 0, 9);
        due.is("no pair", x.turnover(), 0);
        return x;
    }

    private static void greatestAtOnce() {
        // A ring of heads is ready, and so is that ring with all second ones: both rings are taken,
        // but not the third payment of bank 0, for which none of the others pays.
        GridlockDesk x = new GridlockDesk(3);
        for (int amount = 10; amount <= 20; amount += 10) {
            x.pay(0, 1, amount, 0, 9);
            x.pay(1, 2, amount, 0, 9);
            x.pay(2, 0, amount, 0, 9);
        }
        x.pay(0, 1, 1, 0, 9);
        due.is("both rings", x.resolve(), 6);
        due.is("not the third of bank 0", x.state(6), 0);
        // The head of bank 3 can't go; what the others owe one another still can.
        GridlockDesk y = new GridlockDesk(4);
        y.pay(3, 0, 10, 0, 9);
        y.pay(0, 1, 10, 0, 9);
        y.pay(1, 2, 10, 0, 9);
        y.pay(2, 0, 10, 0, 9);
        y.pay(2, 3, 9, 0, 9);
        due.is("none of bank 3", y.resolve(), 3);
        due.is("left", y.waiting(3) * 10 + y.waiting(2), 11);
    }

    private static void timeAtFirst() {
        GridlockDesk x = new GridlockDesk(2);
        due.is("now", x.now(), 0);
        due.is("until before it", x.pay(0, 1, 1, 0, -1), BAD);
        due.is("until it", x.pay(0, 1, 1, 0, 0), 0);
    }

    private static void constants() {
        due.is("BAD", GridlockDesk.BAD, -1);
        due.is("LONG", GridlockDesk.LONG, -2);
        due.is("MANY", GridlockDesk.MANY, -3);
    }

    private static void queueIs(String what, GridlockDesk x, int... numbers) {
        due.is(what + ": length", x.waiting(0), numbers.length);
        for (int i = 0; i < numbers.length; i++) {
            due.is(what + ": " + i, x.queued(0, i), numbers[i]);
        }
        due.is(what + ": the end", x.queued(0, numbers.length), BAD);
    }
}
