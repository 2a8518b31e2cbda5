import java.util.ArrayList;
import java.util.List;

/**
 * The document's words as plainly as they can be said, however slow: queues are sorted anew each
 * time, sums are made from all payments, and resolving tries all ways.
 */
final class PlainDesk {
    private static final class Pay {
        int number;
        int from;
        int to;
        long amount;
        int priority;
        int until;
        int state;
        int day;
        long gotPriority;
    }

    final int n;
    private final long[] funded;
    private final long[] credit;
    private final Long[][] limit;
    private final Long[] totalLimit;
    private final List<Pay> pays = new ArrayList<>();
    private int time;
    private int day;
    private long events;

    PlainDesk(int banks) {
        n = banks < 2 ? 2 : banks > 4 ? 4 : banks;
        funded = new long[n];
        credit = new long[n];
        limit = new Long[n][n];
        totalLimit = new Long[n];
    }

    boolean fund(int bank, long amount) {
        if (noBank(bank) || Math.abs((double) amount) > 1e12) {
            return false;
        }
        funded[bank] += amount;
        return keepIfWell(() -> funded[bank] -= amount);
    }

    boolean credit(int bank, long line) {
        if (noBank(bank) || line < 0 || line > 1_000_000_000_000_000L) {
            return false;
        }
        long before = credit[bank];
        credit[bank] = line;
        return keepIfWell(() -> credit[bank] = before);
    }

    boolean limit(int from, int to, long amount) {
        if (noBank(from) || noBank(to) || from == to || amount < -1 || amount > 1_000_000_000_000_000L) {
            return false;
        }
        Long before = limit[from][to];
        limit[from][to] = amount == -1 ? null : Long.valueOf(amount);
        return keepIfWell(() -> limit[from][to] = before);
    }

    boolean totalLimit(int bank, long amount) {
        if (noBank(bank) || amount < -1 || amount > 1_000_000_000_000_000L) {
            return false;
        }
        Long before = totalLimit[bank];
        totalLimit[bank] = amount == -1 ? null : Long.valueOf(amount);
        return keepIfWell(() -> totalLimit[bank] = before);
    }

    int pay(int from, int to, long amount, int priority, int until) {
        if (noBank(from) || noBank(to) || from == to || amount < 1 || amount > 1_000_000_000_000L
                || priority < 0 || priority > 3 || until < time) {
            return -1;
        }
        if (pays.size() == 100) {
            return -3;
        }
        if (queue(from).size() == 6) {
            return -2;
        }
        Pay pay = new Pay();
        pay.number = pays.size();
        pay.from = from;
        pay.to = to;
        pay.amount = amount;
        pay.priority = priority;
        pay.until = until;
        pay.gotPriority = events++;
        pays.add(pay);
        sweep();
        return pay.number;
    }

    boolean cancel(int k) {
        if (state(k) != 0) {
            return false;
        }
        pays.get(k).state = 4;
        sweep();
        return true;
    }

    boolean urge(int k, int priority) {
        if (state(k) != 0 || priority < 0 || priority > 3) {
            return false;
        }
        pays.get(k).priority = priority;
        pays.get(k).gotPriority = events++;
        sweep();
        return true;
    }

    /** Answers -99 if the document's greatest way is not there. */
    int resolve() {
        int[] way = new int[n];
        int[] greatest = new int[n];
        do {
            if (ready(first(way))) {
                for (int a = 0; a < n; a++) {
                    greatest[a] = Math.max(greatest[a], way[a]);
                }
            }
        } while (next(way));
        List<Pay> best = first(greatest);
        if (!ready(best)) {
            return -99;
        }
        settle(best, 3);
        sweep();
        return best.size();
    }

    int tick(int by) {
        if (by < 1 || by > 1000) {
            return -1;
        }
        time += by;
        int expired = 0;
        for (Pay pay : pays) {
            if (pay.state == 0 && pay.until < time) {
                pay.state = 5;
                expired++;
            }
        }
        sweep();
        return expired;
    }

    int close() {
        int rejected = 0;
        for (Pay pay : pays) {
            if (pay.state == 0) {
                pay.state = 6;
                rejected++;
            }
        }
        day++;
        sweep();
        return rejected;
    }

    long balance(int bank) {
        if (noBank(bank)) {
            return 0;
        }
        long sum = funded[bank];
        for (Pay pay : pays) {
            if (isSettled(pay)) {
                sum += pay.to == bank ? pay.amount : pay.from == bank ? -pay.amount : 0;
            }
        }
        return sum;
    }

    long position(int a, int b) {
        return noBank(a) || noBank(b) || a == b ? 0 : sent(a, b) - sent(b, a);
    }

    int waiting(int bank) {
        return noBank(bank) ? -1 : queue(bank).size();
    }

    int queued(int bank, int i) {
        return noBank(bank) || i < 0 || i >= queue(bank).size() ? -1 : queue(bank).get(i).number;
    }

    int state(int k) {
        return k < 0 || k >= pays.size() ? -1 : pays.get(k).state;
    }

    long turnover() {
        long sum = 0;
        for (Pay pay : pays) {
            sum += isSettled(pay) ? pay.amount : 0;
        }
        return sum;
    }

    int now() {
        return time;
    }

    private boolean noBank(int bank) {
        return bank < 0 || bank >= n;
    }

    private static boolean isSettled(Pay pay) {
        return pay.state >= 1 && pay.state <= 3;
    }

    private boolean keepIfWell(Runnable undo) {
        if (!allIsWell()) {
            undo.run();
            return false;
        }
        sweep();
        return true;
    }

    private long sent(int a, int b) {
        long sum = 0;
        for (Pay pay : pays) {
            sum += isSettled(pay) && pay.day == day && pay.from == a && pay.to == b ? pay.amount : 0;
        }
        return sum;
    }

    private boolean allIsWell() {
        for (int a = 0; a < n; a++) {
            long total = 0;
            for (int b = 0; b < n; b++) {
                total += position(a, b);
                if (limit[a][b] != null && position(a, b) > limit[a][b]) {
                    return false;
                }
            }
            if (totalLimit[a] != null && total > totalLimit[a] || balance(a) < -credit[a]) {
                return false;
            }
        }
        return true;
    }

    private List<Pay> queue(int bank) {
        List<Pay> queue = new ArrayList<>();
        for (Pay pay : pays) {
            if (pay.state == 0 && pay.from == bank) {
                queue.add(pay);
            }
        }
        queue.sort((p, q) -> p.priority != q.priority ? q.priority - p.priority
                : Long.compare(p.gotPriority, q.gotPriority));
        return queue;
    }

    private void settle(List<Pay> some, int how) {
        for (Pay pay : some) {
            pay.state = how;
            pay.day = day;
        }
    }

    private boolean ready(List<Pay> some) {
        settle(some, 1);
        boolean well = allIsWell();
        settle(some, 0);
        return well;
    }

    private void sweep() {
        while (sweepAlone() || sweepPair()) {
            // until neither applies
        }
    }

    private boolean sweepAlone() {
        for (int a = 0; a < n; a++) {
            if (!queue(a).isEmpty() && settleIfReady(List.of(queue(a).get(0)), 1)) {
                return true;
            }
        }
        return false;
    }

    private boolean sweepPair() {
        for (int a = 0; a < n; a++) {
            for (int b = a + 1; b < n; b++) {
                if (queue(a).isEmpty() || queue(b).isEmpty()) {
                    continue;
                }
                Pay p = queue(a).get(0);
                Pay q = queue(b).get(0);
                if (p.to == b && q.to == a && settleIfReady(List.of(p, q), 2)) {
                    return true;
                }
            }
        }
        return false;
    }

    private boolean settleIfReady(List<Pay> some, int how) {
        boolean is = ready(some);
        if (is) {
            settle(some, how);
        }
        return is;
    }

    private List<Pay> first(int[] way) {
        List<Pay> some = new ArrayList<>();
        for (int a = 0; a < n; a++) {
            some.addAll(queue(a).subList(0, way[a]));
        }
        return some;
    }

    private boolean next(int[] way) {
        for (int a = 0; a < n; a++) {
            if (way[a] < queue(a).size()) {
                way[a]++;
                return true;
            }
            way[a] = 0;
        }
        return false;
    }
}
