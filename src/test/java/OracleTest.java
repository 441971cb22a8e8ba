import java.util.Random;

/** Long runs of drawn calls, each answer held against PlainYard's; the draws are the same each time. */
public final class OracleTest {
    private static final Check CHECK = new Check("OracleTest");
    private static final int CALLS = 512;
    private static final int RUNS = 180;

    private static final String[] NAMES = {
        "space", "near", "gang", "good", "bar", "work", "need", "tells", "put", "take", "may", "first",
        "why", "told", "load", "plan", "best", "end", "bound", "go", "fail", "more", "count"};

    /** How often each call is drawn, by the order of NAMES: a mixed run, a run for best(), a run of passing shifts. */
    private static final int[][] WEIGHTS = {
        {4, 4, 3, 3, 3, 10, 12, 5, 14, 4, 10, 10, 5, 8, 5, 2, 1, 2, 2, 3, 4, 4, 3},
        {3, 3, 6, 6, 4, 2, 4, 2, 1, 30, 3, 3, 3, 5, 2, 1, 12, 2, 4, 0, 1, 4, 2},
        {3, 3, 1, 1, 2, 8, 8, 10, 6, 2, 5, 5, 4, 6, 3, 8, 1, 2, 2, 14, 14, 5, 3}};

    private final RefitYard yard = new RefitYard();
    private final PlainYard plain = new PlainYard();
    private final Random random;
    private final int[] weights;
    private final boolean small;
    private final StringBuilder story = new StringBuilder();

    private OracleTest(int seed) {
        random = new Random(seed);
        weights = WEIGHTS[seed % WEIGHTS.length];
        small = seed % WEIGHTS.length == 1;
    }

    public static void main(String[] args) {
        for (int seed = 0; seed < RUNS && !CHECK.failed(); seed++) {
            new OracleTest(seed).run();
        }
        CHECK.finish();
    }

    private void run() {
        for (int n = 0; n < CALLS && !CHECK.failed(); n++) {
            int call = n < 3 ? 0 : draw();
            if (small && NAMES[call].equals("best") && random.nextInt(3) > 0) {
                takeAll();
            }
            ask(call, argument(call, 0), argument(call, 1), argument(call, 2));
            if (n % 16 == 15) {
                askAll();
            }
        }
    }

    private void takeAll() {
        for (int w = 0; w < plain.count(2); w++) {
            ask(9, w, 0, 0);
        }
    }

    private int draw() {
        int sum = 0;
        for (int weight : weights) {
            sum += weight;
        }
        int left = random.nextInt(sum);
        int call = 0;
        while (left >= weights[call]) {
            left -= weights[call];
            call++;
        }
        return call;
    }

    private int argument(int call, int place) {
        if (random.nextInt(60) == 0) {
            int[] odd = {Integer.MIN_VALUE, Integer.MAX_VALUE, -1, -2, 400, 401, 40, 41, 20, Integer.MAX_VALUE - 39};
            return odd[random.nextInt(odd.length)];
        }
        int work = random.nextInt(plain.count(2) + 2) - 1;
        int shift = random.nextInt(8) == 0 ? random.nextInt(402) - 1 : plain.count(0) + random.nextInt(25) - 2;
        switch (NAMES[call]) {
            case "space": return random.nextInt(small ? 4 : 11);
            case "near": return random.nextInt(Math.max(1, plain.count(1))) + (random.nextInt(9) == 0 ? 1 : 0);
            case "gang": return random.nextInt(place == 0 ? 5 : random.nextInt(6) == 0 ? 102 : 14);
            case "good": return place == 0 ? random.nextInt(5) : random.nextInt(random.nextInt(4) == 0 ? 11 : 4);
            case "bar": return place == 2 ? random.nextInt(4) : random.nextInt(6);
            case "work": return place == 0 ? what() : random.nextInt(6) - 1;
            case "put": case "may": case "first": return place == 0 ? work : shift;
            case "told": return place == 0 ? work : random.nextInt(15) - 1;
            case "load": return place == 0 ? shift : random.nextInt(11) - 1;
            case "why": return random.nextInt(5) - 1;
            case "count": return random.nextInt(9) - 1;
            case "go": return random.nextInt(150) == 0 ? random.nextInt(403) - 1 : random.nextInt(6);
            case "tells": case "fail": return place == 0 ? someTest(work) : work;
            case "more": return place == 0 ? work : random.nextInt(random.nextInt(10) == 0 ? 43 : 4);
            default: return work;
        }
    }

    private int someTest(int otherwise) {
        int many = plain.count(2);
        int from = random.nextInt(many + 1);
        for (int i = 0; i < many; i++) {
            int w = (from + i) % many;
            if (plain.told(w, 4) == 4 && random.nextInt(3) > 0) {
                return w;
            }
        }
        return otherwise;
    }

    private int what() {
        if (small && plain.count(2) >= 6 && random.nextInt(8) != 0) {
            return 0;
        }
        int length = random.nextInt(8) == 0 ? random.nextInt(42) : 1 + random.nextInt(6);
        int hands = random.nextInt(6) == 0 ? random.nextInt(10) : 1 + random.nextInt(3);
        int trade = random.nextInt(15) == 0 ? random.nextInt(10) : random.nextInt(4);
        int kind = random.nextInt(15) == 0 ? random.nextInt(10) : random.nextInt(5);
        int space = random.nextInt(Math.max(1, plain.count(1))) + (random.nextInt(15) == 0 ? 1 : 0);
        return length * 100000 + hands * 10000 + trade * 1000 + kind * 100 + space;
    }

    /** What all the rest of the state is, so that a refused call that changed something shows soon. */
    private void askAll() {
        for (int what = -1; what <= 7; what++) {
            ask(22, what, 0, 0);
            ask(12, what, 0, 0);
        }
        for (int w = 0; w < plain.count(2); w++) {
            for (int what = 0; what <= 12; what++) {
                ask(13, w, what, 0);
            }
        }
        int shift = random.nextInt(Math.max(1, Math.min(400, plain.end())));
        for (int what = 0; what <= 8; what++) {
            ask(14, shift, what, 0);
            ask(14, Math.min(399, plain.count(0)), what, 0);
        }
        ask(17, 0, 0, 0);
        ask(18, 0, 0, 0);
    }

    private void ask(int call, int a, int b, int c) {
        String text = NAMES[call] + "(" + a + ", " + b + ", " + c + ")";
        long want = Calls.answer(plain, NAMES[call], a, b, c);
        long got = Calls.answer(yard, NAMES[call], a, b, c);
        story.append(text).append(" = ").append(want).append('\n');
        CHECK.due(text, got, want);
        if (got != want) {
            System.out.println("the run (what does not count stands there too):\n" + story);
        }
    }
}
