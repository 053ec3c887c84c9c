import java.util.Random;

/** Long runs of calls, drawn with fixed seeds, on BinWard and on PlainCity side by side. */
public final class RandomRunsTest {
    private static final int RUNS = 60;
    private static final int CALLS = 512;
    private static final String[] NAMES = {"street", "habit", "dirt", "lorry", "round", "clear",
        "eye", "hand", "oven", "pass", "sell", "open", "sweep", "claim", "ofStreet", "ofLorry",
        "ofBale", "many", "rate", "meanDirt", "fullIn", "bestFetch", "bestRound", "wouldLie",
        "digest"};
    /** How often each of them is drawn. */
    private static final int[] WEIGHTS = {3, 10, 4, 2, 16, 2, 3, 4, 4, 14, 8, 8, 4, 10, 4, 3, 3, 4,
        2, 3, 4, 3, 3, 4, 2};

    public static void main(String[] args) {
        for (int run = 0; run < RUNS; run++) {
            play(run);
        }
        Check.end();
    }

    private static void play(int run) {
        Random random = new Random(4812 + run);
        boolean careful = run % 3 != 0;
        BinWard x = new BinWard();
        PlainCity y = new PlainCity();
        StringBuilder calls = new StringBuilder();
        for (int i = 0; i < CALLS; i++) {
            int which = i < 40 && careful ? draw(random, 6) : draw(random, NAMES.length);
            int[] a = arguments(random, NAMES[which], y, careful);
            calls.append(NAMES[which]).append('(').append(a[0]).append(", ").append(a[1])
                .append(", ").append(a[2]).append(") ");
            String got = answer(() -> call(x, NAMES[which], a));
            String due = answer(() -> call(y, NAMES[which], a));
            if (!got.equals(due) || x.digest() != y.digest()) {
                Check.complain("run " + run + ": " + calls + "answered " + got + ", due is " + due
                    + ", digest " + x.digest() + ", due is " + y.digest());
                return;
            }
            Check.same("run " + run, 1, 1);
        }
    }

    private static int draw(Random random, int among) {
        int sum = 0;
        for (int i = 0; i < among; i++) {
            sum += WEIGHTS[i];
        }
        int at = random.nextInt(sum);
        int which = 0;
        while (at >= WEIGHTS[which]) {
            at -= WEIGHTS[which];
            which++;
        }
        return which;
    }

    private static int[] arguments(Random r, String name, PlainCity city, boolean careful) {
        int[] least = {0, 0, 0};
        int[] most = {0, 0, 0};
        switch (name) {
            case "street": set(least, 1, 0, 0); set(most, 30, 4, 0); break;
            case "habit": set(most, 5, 2, 9); break;
            case "dirt": set(most, 5, 4, 0); break;
            case "lorry": set(least, 10, 0, 0); set(most, 120, 2, 2); break;
            case "round": set(most, 2, 6, 5); break;
            case "clear": set(most, 2, 6, 0); break;
            case "eye": set(most, 100, 0, 0); break;
            case "hand": set(most, 50, 0, 0); break;
            case "oven": set(most, 200, 0, 0); break;
            case "pass": set(least, 1, 0, 0); set(most, r.nextInt(4) == 0 ? 30 : 4, 0, 0); break;
            case "sell": set(least, 0, 0, 1); set(most, 20, r.nextBoolean() ? 8 : 40, 99); break;
            case "open": set(most, 20, 0, 0); break;
            case "claim": set(most, 5, city.now, 0); break;
            case "ofStreet": set(most, 5, 12, 0); break;
            case "ofLorry": set(most, 2, 6, 0); break;
            case "ofBale": set(most, 19, 3, 0); break;
            case "many": set(most, 17, 0, 0); break;
            case "rate": set(most, 2, 0, 0); break;
            case "fullIn": set(most, 5, 2, 0); break;
            case "sweep": set(most, 5, 0, 0); break;
            case "bestFetch": set(most, 2, 0, 0); break;
            case "bestRound": set(most, 2, 0, 0); break;
            case "wouldLie": set(least, 1, 0, 0); set(most, 30, 0, 0); break;
            default: break;
        }
        int[] a = new int[3];
        for (int i = 0; i < 3; i++) {
            a[i] = least[i] + r.nextInt(most[i] - least[i] + 1);
            if (r.nextInt(careful ? 60 : 12) == 0) {
                int[] odd = {least[i] - 1, most[i] + 1, Integer.MIN_VALUE, Integer.MAX_VALUE, -1};
                a[i] = odd[r.nextInt(odd.length)];
            }
        }
        return a;
    }

    private static void set(int[] to, int first, int second, int third) {
        to[0] = first;
        to[1] = second;
        to[2] = third;
    }

    private interface Ask {
        Object run();
    }

    private static String answer(Ask ask) {
        try {
            return String.valueOf(ask.run());
        } catch (RuntimeException e) {
            return e.getClass().getName();
        }
    }

    private static Object call(BinWard x, String name, int[] a) {
        switch (name) {
            case "street": return x.street(a[0], a[1]);
            case "habit": return x.habit(a[0], a[1], a[2]);
            case "dirt": return x.dirt(a[0], a[1]);
            case "lorry": return x.lorry(a[0], a[1], a[2]);
            case "round": return x.round(a[0], a[1], a[2]);
            case "clear": return x.clear(a[0], a[1]);
            case "eye": return x.eye(a[0]);
            case "hand": return x.hand(a[0]);
            case "oven": return x.oven(a[0]);
            case "pass": return x.pass(a[0]);
            case "sell": return x.sell(a[0], a[1], a[2]);
            case "open": return x.open(a[0]);
            case "sweep": return x.sweep(a[0]);
            case "claim": return x.claim(a[0], a[1]);
            case "ofStreet": return x.ofStreet(a[0], a[1]);
            case "ofLorry": return x.ofLorry(a[0], a[1]);
            case "ofBale": return x.ofBale(a[0], a[1]);
            case "many": return x.many(a[0]);
            case "rate": return x.rate(a[0]);
            case "meanDirt": return x.meanDirt();
            case "fullIn": return x.fullIn(a[0], a[1]);
            case "bestFetch": return x.bestFetch(a[0]);
            case "bestRound": return x.bestRound(a[0]);
            case "wouldLie": return x.wouldLie(a[0]);
            default: return x.digest();
        }
    }

    private static Object call(PlainCity x, String name, int[] a) {
        switch (name) {
            case "street": return x.street(a[0], a[1]);
            case "habit": return x.habit(a[0], a[1], a[2]);
            case "dirt": return x.dirt(a[0], a[1]);
            case "lorry": return x.lorry(a[0], a[1], a[2]);
            case "round": return x.round(a[0], a[1], a[2]);
            case "clear": return x.clear(a[0], a[1]);
            case "eye": return x.eye(a[0]);
            case "hand": return x.hand(a[0]);
            case "oven": return x.oven(a[0]);
            case "pass": return x.pass(a[0]);
            case "sell": return x.sell(a[0], a[1], a[2]);
            case "open": return x.open(a[0]);
            case "sweep": return x.sweep(a[0]);
            case "claim": return x.claim(a[0], a[1]);
            case "ofStreet": return x.ofStreet(a[0], a[1]);
            case "ofLorry": return x.ofLorry(a[0], a[1]);
            case "ofBale": return x.ofBale(a[0], a[1]);
            case "many": return x.many(a[0]);
            case "rate": return x.rate(a[0]);
            case "meanDirt": return x.meanDirt();
            case "fullIn": return x.fullIn(a[0], a[1]);
            case "bestFetch": return x.bestFetch(a[0]);
            case "bestRound": return x.bestRound(a[0]);
            case "wouldLie": return x.wouldLie(a[0]);
            default: return x.digest();
        }
    }
}
