import java.util.ArrayList;
import java.util.HashSet;
import java.util.List;
import java.util.Set;
import java.util.TreeSet;

/**
 * The document's words written down once more as plainly as can be, with nothing kept that can be
 * found anew: what RefitYard answers is held against this.
 */
final class PlainYard {
    private static final int NONE = -1;

    private static final class Job {
        int length;
        int hands;
        int trade;
        int kind;
        int space;
        int good;
        int at = NONE;
        int again;
        final Set<Integer> needs = new TreeSet<>();
        final Set<Integer> tellsOf = new TreeSet<>();

        boolean isPut() {
            return at != NONE;
        }

        int end() {
            return at + length;
        }

        boolean isIn(int shift) {
            return isPut() && at <= shift && shift < end();
        }
    }

    private final List<Integer> bears = new ArrayList<>();
    private final Set<List<Integer>> nears = new HashSet<>();
    private final Set<List<Integer>> bars = new HashSet<>();
    private final int[] gangs = {4, 4, 4, 4};
    private final int[] goods = {1, 1, 1, 1};
    private final List<Job> jobs = new ArrayList<>();
    private int now = 0;

    private static boolean among(int value, int least, int most) {
        return value >= least && value <= most;
    }

    private boolean isSpace(int s) {
        return among(s, 0, bears.size() - 1);
    }

    private boolean isJob(int w) {
        return among(w, 0, jobs.size() - 1);
    }

    private boolean begun(int w) {
        return jobs.get(w).isPut() && jobs.get(w).at < now;
    }

    private boolean done(int w) {
        return jobs.get(w).isPut() && jobs.get(w).end() <= now;
    }

    int space(int b) {
        if (!among(b, 1, 9) || bears.size() == 20) {
            return NONE;
        }
        bears.add(b);
        return bears.size() - 1;
    }

    private static List<Integer> pair(int a, int b) {
        return List.of(Math.min(a, b), Math.max(a, b));
    }

    boolean near(int a, int b) {
        return isSpace(a) && isSpace(b) && a != b && nears.add(pair(a, b));
    }

    boolean gang(int t, int h) {
        if (!among(t, 0, 3) || !among(h, 0, 99)) {
            return false;
        }
        gangs[t] = h;
        return true;
    }

    boolean good(int g, int m) {
        if (!among(g, 0, 3) || !among(m, 0, 9)) {
            return false;
        }
        goods[g] = m;
        return true;
    }

    private static List<Integer> barOf(int a, int b, int how) {
        return List.of(Math.min(a, b), Math.max(a, b), how);
    }

    boolean bar(int a, int b, int how) {
        return among(a, 0, 4) && among(b, 0, 4) && among(how, 0, 2) && bars.add(barOf(a, b, how));
    }

    int work(int what, int g) {
        if (jobs.size() == 40 || !among(g, -1, 3)) {
            return NONE;
        }
        for (int length = 1; length <= 40; length++) {
            for (int hands = 1; hands <= 9; hands++) {
                int rest = what - length * 100000 - hands * 10000;
                if (among(rest, 0, 9999)) {
                    return workOf(length, hands, rest, g);
                }
            }
        }
        return NONE;
    }

    private int workOf(int length, int hands, int rest, int g) {
        for (int trade = 0; trade < 4; trade++) {
            for (int kind = 0; kind < 5; kind++) {
                for (int space = 0; space < bears.size(); space++) {
                    if (trade * 1000 + kind * 100 + space == rest) {
                        Job j = new Job();
                        j.length = length;
                        j.hands = hands;
                        j.trade = trade;
                        j.kind = kind;
                        j.space = space;
                        j.good = g;
                        jobs.add(j);
                        return jobs.size() - 1;
                    }
                }
            }
        }
        return NONE;
    }

    private boolean reaches(int from, int to) {
        if (from == to) {
            return true;
        }
        for (int n : jobs.get(from).needs) {
            if (reaches(n, to)) {
                return true;
            }
        }
        return false;
    }

    boolean need(int w, int n) {
        if (!isJob(w) || !isJob(n) || w == n || begun(w) || reaches(n, w)) {
            return false;
        }
        return jobs.get(w).needs.add(n);
    }

    boolean tells(int t, int w) {
        if (!isJob(t) || !isJob(w) || t == w || begun(t) || reaches(w, t) || jobs.get(t).kind != 4) {
            return false;
        }
        if (!jobs.get(t).tellsOf.add(w)) {
            return false;
        }
        jobs.get(t).needs.add(w);
        return true;
    }

    boolean put(int w, int s) {
        if (!isJob(w) || begun(w) || s < now || (long) s + jobs.get(w).length > 400) {
            return false;
        }
        jobs.get(w).at = s;
        return true;
    }

    boolean take(int w) {
        if (!isJob(w) || !jobs.get(w).isPut() || begun(w)) {
            return false;
        }
        jobs.get(w).at = NONE;
        return true;
    }

    private boolean barBetween(Job a, Job b) {
        boolean one = a.space == b.space;
        boolean close = one || nears.contains(pair(a.space, b.space));
        return bars.contains(barOf(a.kind, b.kind, 2))
            || close && bars.contains(barOf(a.kind, b.kind, 1))
            || one && bars.contains(barOf(a.kind, b.kind, 0));
    }

    private boolean breaks(int w, int rule, int shift) {
        Job j = jobs.get(w);
        if (!j.isIn(shift)) {
            return false;
        }
        if (rule == 1) {
            for (int n : j.needs) {
                if (shift == j.at && (!jobs.get(n).isPut() || jobs.get(n).end() > j.at)) {
                    return true;
                }
            }
            return false;
        }
        int hands = 0;
        int takers = 0;
        int here = 0;
        boolean barred = false;
        for (Job o : jobs) {
            if (o.isIn(shift)) {
                hands += o.trade == j.trade ? o.hands : 0;
                takers += j.good != NONE && o.good == j.good ? 1 : 0;
                here += o.space == j.space ? 1 : 0;
                barred |= o != j && barBetween(j, o);
            }
        }
        return rule == 2 && hands > gangs[j.trade]
            || rule == 3 && j.good != NONE && takers > goods[j.good]
            || rule == 4 && here > bears.get(j.space)
            || rule == 5 && barred;
    }

    boolean may(int w, int s) {
        if (!isJob(w) || begun(w) || s < now || (long) s + jobs.get(w).length > 400) {
            return false;
        }
        Job j = jobs.get(w);
        int kept = j.at;
        j.at = s;
        boolean fine = true;
        for (int rule = 1; rule <= 5 && fine; rule++) {
            for (int shift = s; shift < j.end() && fine; shift++) {
                fine = !breaks(w, rule, shift);
            }
        }
        for (Job o : jobs) {
            fine &= !(o.isPut() && o.needs.contains(w) && j.end() > o.at);
        }
        j.at = kept;
        return fine;
    }

    int first(int w, int from) {
        for (int s = Math.max(from, 0); s < 400; s++) {
            if (may(w, s)) {
                return s;
            }
        }
        return NONE;
    }

    int why(int what) {
        for (int w = 0; w < jobs.size(); w++) {
            for (int rule = 1; rule <= 5; rule++) {
                for (int shift = 0; shift < 400; shift++) {
                    if (breaks(w, rule, shift)) {
                        return what == 0 ? w : what == 1 ? rule : what == 2 ? shift : NONE;
                    }
                }
            }
        }
        return NONE;
    }

    private int early(int w) {
        int e = 0;
        for (int n : jobs.get(w).needs) {
            e = Math.max(e, early(n) + jobs.get(n).length);
        }
        return e;
    }

    private int tail(int w) {
        int t = 0;
        for (int o = 0; o < jobs.size(); o++) {
            if (jobs.get(o).needs.contains(w)) {
                t = Math.max(t, jobs.get(o).length + tail(o));
            }
        }
        return t;
    }

    private int through(int w) {
        return early(w) + jobs.get(w).length + tail(w);
    }

    private int way() {
        int most = 0;
        for (int w = 0; w < jobs.size(); w++) {
            most = Math.max(most, through(w));
        }
        return most;
    }

    int told(int w, int what) {
        if (!isJob(w) || !among(what, 0, 12)) {
            return NONE;
        }
        Job j = jobs.get(w);
        int state = done(w) ? 3 : begun(w) ? 2 : j.isPut() ? 1 : 0;
        if (what >= 8 && what <= 10) {
            return what == 8 ? early(w) : what == 9 ? tail(w) : way() - through(w);
        }
        if (what >= 11) {
            return what == 11 ? j.needs.size() : j.again;
        }
        int[] plain = {j.length, j.trade, j.hands, j.space, j.kind, j.good, state, j.at};
        return plain[what];
    }

    int load(int shift, int what) {
        if (!among(shift, 0, 399) || !among(what, 0, 8)) {
            return NONE;
        }
        int sum = 0;
        for (Job j : jobs) {
            if (j.isIn(shift)) {
                boolean takes = what >= 4 && j.good == what - 4;
                sum += what == 8 || takes ? 1 : j.trade == what ? j.hands : 0;
            }
        }
        return sum;
    }

    private boolean needsArePut(int w) {
        for (int n : jobs.get(w).needs) {
            if (!jobs.get(n).isPut()) {
                return false;
            }
        }
        return true;
    }

    int plan() {
        Set<Integer> tried = new HashSet<>();
        int many = 0;
        while (true) {
            int next = NONE;
            for (int w = 0; w < jobs.size(); w++) {
                boolean meant = !jobs.get(w).isPut() && needsArePut(w) && !tried.contains(w);
                if (meant && (next == NONE || through(w) > through(next))) {
                    next = w;
                }
            }
            if (next == NONE) {
                return many;
            }
            tried.add(next);
            jobs.get(next).at = first(next, 0);
            many += jobs.get(next).isPut() ? 1 : 0;
        }
    }

    int best() {
        boolean nonePut = jobs.stream().noneMatch(Job::isPut);
        if (!among(jobs.size(), 1, 6) || now != 0 || !nonePut) {
            return NONE;
        }
        List<List<Integer>> orders = new ArrayList<>();
        collectOrders(new ArrayList<>(), orders);
        int least = NONE;
        int[] kept = new int[jobs.size()];
        for (List<Integer> order : orders) {
            boolean all = true;
            for (int w : order) {
                jobs.get(w).at = first(w, 0);
                all &= jobs.get(w).isPut();
            }
            if (all && (least == NONE || end() < least)) {
                least = end();
                for (int w = 0; w < kept.length; w++) {
                    kept[w] = jobs.get(w).at;
                }
            }
            jobs.forEach(j -> j.at = NONE);
        }
        for (int w = 0; w < kept.length && least != NONE; w++) {
            jobs.get(w).at = kept[w];
        }
        return least;
    }

    private void collectOrders(List<Integer> begun, List<List<Integer>> orders) {
        if (begun.size() == jobs.size()) {
            orders.add(new ArrayList<>(begun));
            return;
        }
        for (int w = 0; w < jobs.size(); w++) {
            if (!begun.contains(w) && begun.containsAll(jobs.get(w).needs)) {
                begun.add(w);
                collectOrders(begun, orders);
                begun.remove(begun.size() - 1);
            }
        }
    }

    int end() {
        int most = 0;
        for (Job j : jobs) {
            most = Math.max(most, j.isPut() ? j.end() : 0);
        }
        return most;
    }

    int bound() {
        List<int[]> askedAndThere = new ArrayList<>();
        for (int k = 0; k < 4; k++) {
            int ofTrade = 0;
            int ofGood = 0;
            for (Job j : jobs) {
                ofTrade += j.trade == k ? j.length * j.hands : 0;
                ofGood += j.good == k ? j.length : 0;
            }
            askedAndThere.add(new int[] {ofTrade, gangs[k]});
            askedAndThere.add(new int[] {ofGood, goods[k]});
        }
        for (int s = 0; s < bears.size(); s++) {
            int here = 0;
            for (Job j : jobs) {
                here += j.space == s ? j.length : 0;
            }
            askedAndThere.add(new int[] {here, bears.get(s)});
        }
        int most = way();
        for (int[] row : askedAndThere) {
            if (row[0] > 0 && row[1] == 0) {
                return NONE;
            }
            while (row[0] > 0 && most * row[1] < row[0]) {
                most++;
            }
        }
        return most;
    }

    int go(int n) {
        if (!among(n, 0, 400)) {
            return NONE;
        }
        now = Math.min(now + n, 400);
        return now;
    }

    int fail(int t) {
        if (!isJob(t) || jobs.get(t).kind != 4 || !done(t)) {
            return NONE;
        }
        Set<Integer> opened = new TreeSet<>();
        open(t, opened);
        for (int w : jobs.get(t).tellsOf) {
            open(w, opened);
        }
        for (int w : opened) {
            jobs.get(w).at = NONE;
            jobs.get(w).again++;
        }
        return opened.size();
    }

    private void open(int w, Set<Integer> opened) {
        if (!done(w) || !opened.add(w)) {
            return;
        }
        for (int o = 0; o < jobs.size(); o++) {
            if (jobs.get(o).needs.contains(w)) {
                open(o, opened);
            }
        }
    }

    int more(int w, int n) {
        if (!isJob(w) || done(w) || !among(n, 1, 40) || jobs.get(w).length + n > 40) {
            return NONE;
        }
        Job j = jobs.get(w);
        if (j.isPut() && j.end() + n > 400) {
            return NONE;
        }
        j.length += n;
        return j.length;
    }

    int count(int what) {
        int open = 0;
        int over = 0;
        for (int w = 0; w < jobs.size(); w++) {
            open += jobs.get(w).isPut() ? 0 : 1;
            over += done(w) ? 1 : 0;
        }
        int[] plain = {now, bears.size(), jobs.size(), open, over, bars.size(), way()};
        return among(what, 0, 6) ? plain[what] : NONE;
    }
}
