import java.util.ArrayList;
import java.util.HashSet;
import java.util.List;
import java.util.Set;

/**
 * The document once more, plain and slow: bins and chambers hold their kilos one by one, the best
 * round is sought among all orders, and what would be is lived through on a copy.
 */
final class PlainCity {
    static final class Kilos {
        int clean;
        int dirty;

        int all() {
            return clean + dirty;
        }

        /** Moves one kilo, a clean one if there is one. */
        void giveOneTo(Kilos other) {
            if (clean > 0) {
                clean--;
                other.clean++;
            } else {
                dirty--;
                other.dirty++;
            }
        }

        Kilos copy() {
            Kilos k = new Kilos();
            k.clean = clean;
            k.dirty = dirty;
            return k;
        }
    }

    static final class Street {
        int place;
        int dirt;
        int litter;
        int fees;
        int[] habit = new int[3];
        Kilos[] bin = {new Kilos(), new Kilos(), new Kilos()};
        Set<Integer> missed = new HashSet<>();
        Set<Integer> claimed = new HashSet<>();
    }

    static final class Lorry {
        int shift;
        int[] stream = new int[2];
        List<List<Integer>> rounds = new ArrayList<>();
        int minutes;
        int done;
        int half;
        int fetched;
        Kilos[] chamber = {new Kilos(), new Kilos()};
    }

    static final class Bale {
        Kilos kilos = new Kilos();
        int state;
        int day;
    }

    final List<Street> streets = new ArrayList<>();
    final List<Lorry> lorries = new ArrayList<>();
    final List<Bale> bales = new ArrayList<>();
    final Kilos baler = new Kilos();
    final Kilos heap = new Kilos();
    int now;
    int eye = 60;
    int hand;
    int most = 50;
    int handToday;
    int ovenToday;
    int compost;
    int gone;
    int toHeap;
    int pit;
    int canRot;
    int gas;
    int burnt;
    int ash;
    int heat;
    int money;
    int fetched;

    private static void index(boolean good) {
        if (!good) {
            throw new IndexOutOfBoundsException();
        }
    }

    private static void argument(boolean good) {
        if (!good) {
            throw new IllegalArgumentException();
        }
    }

    private static void state(boolean good) {
        if (!good) {
            throw new IllegalStateException();
        }
    }

    private static boolean within(int v, int least, int most) {
        return least <= v && v <= most;
    }

    private Street s(int i) {
        index(within(i, 0, streets.size() - 1));
        return streets.get(i);
    }

    private Lorry l(int i) {
        index(within(i, 0, lorries.size() - 1));
        return lorries.get(i);
    }

    private Bale b(int i) {
        index(within(i, 0, bales.size() - 1));
        return bales.get(i);
    }

    int street(int place, int dirt) {
        argument(within(place, 1, 30) && within(dirt, 0, 4));
        state(streets.size() < 6);
        Street s = new Street();
        s.place = place;
        s.dirt = dirt;
        streets.add(s);
        return streets.size() - 1;
    }

    int habit(int street, int stream, int kilos) {
        Street s = s(street);
        index(within(stream, 0, 2));
        argument(within(kilos, 0, 9));
        int old = s.habit[stream];
        s.habit[stream] = kilos;
        return old;
    }

    int dirt(int street, int dirt) {
        Street s = s(street);
        argument(within(dirt, 0, 4));
        int old = s.dirt;
        s.dirt = dirt;
        return old;
    }

    int lorry(int shift, int first, int second) {
        argument(within(shift, 10, 120) && within(first, 0, 2) && within(second, 0, 2));
        state(lorries.size() < 3);
        Lorry l = new Lorry();
        l.shift = shift;
        l.stream[0] = first;
        l.stream[1] = second;
        for (int day = 0; day < 7; day++) {
            l.rounds.add(new ArrayList<>());
        }
        lorries.add(l);
        return lorries.size() - 1;
    }

    int round(int lorry, int day, int street) {
        Lorry l = l(lorry);
        index(within(day, 0, 6));
        s(street);
        state(!l.rounds.get(day).contains(street));
        l.rounds.get(day).add(street);
        return l.rounds.get(day).size();
    }

    int clear(int lorry, int day) {
        Lorry l = l(lorry);
        index(within(day, 0, 6));
        int had = l.rounds.get(day).size();
        l.rounds.get(day).clear();
        return had;
    }

    int eye(int v) {
        argument(within(v, 0, 100));
        int old = eye;
        eye = v;
        return old;
    }

    int hand(int v) {
        argument(within(v, 0, 50));
        int old = hand;
        hand = v;
        return old;
    }

    int oven(int v) {
        argument(within(v, 0, 200));
        int old = most;
        most = v;
        return old;
    }

    int pass(int days) {
        argument(within(days, 1, 30));
        int before = fetched;
        for (int i = 0; i < days; i++) {
            oneDay();
        }
        return fetched - before;
    }

    private void oneDay() {
        now++;
        for (Street s : streets) {
            for (int stream = 0; stream < 3; stream++) {
                comes(s, stream);
            }
        }
        for (Lorry l : lorries) {
            l.chamber[0] = new Kilos();
            l.chamber[1] = new Kilos();
            drive(l, l.rounds.get(now % 7));
        }
        handToday = 0;
        ovenToday = 0;
        for (int stream = 0; stream < 3; stream++) {
            for (Lorry l : lorries) {
                for (int c = 0; c < 2; c++) {
                    if (l.stream[c] == stream && l.chamber[c].all() > 0) {
                        load(stream, l.chamber[c]);
                    }
                }
            }
        }
        int was = heap.clean;
        int lost = was / 10 + (was % 10 > 0 ? 1 : 0);
        gone += lost;
        compost += was / 20;
        heap.clean = was - lost - was / 20;
        int g = canRot / 50;
        gas += g;
        canRot -= g;
        pit -= g;
    }

    private void comes(Street s, int stream) {
        int dirty = stream == 0 ? 0 : s.habit[stream] * s.dirt / 10;
        for (int k = 0; k < s.habit[stream]; k++) {
            boolean isClean = k < s.habit[stream] - dirty;
            if (s.bin[stream].all() == 60) {
                s.litter++;
            } else if (isClean) {
                s.bin[stream].clean++;
            } else {
                s.bin[stream].dirty++;
            }
        }
    }

    private void drive(Lorry l, List<Integer> round) {
        if (round.isEmpty()) {
            return;
        }
        l.minutes = 0;
        l.done = 0;
        l.half = 0;
        int clock = 0;
        int at = 0;
        boolean ended = false;
        for (int number : round) {
            Street s = streets.get(number);
            int next = clock + Math.abs(at - s.place) + 2;
            if (ended || next + s.place > l.shift) {
                ended = true;
                s.missed.add(now);
                continue;
            }
            clock = next;
            at = s.place;
            fetch(l, s);
        }
        l.minutes = clock + at;
    }

    private void fetch(Lorry l, Street s) {
        l.done++;
        for (int c = 0; c < 2; c++) {
            Kilos bin = s.bin[l.stream[c]];
            while (bin.all() > 0 && l.chamber[c].all() < 150) {
                bin.giveOneTo(l.chamber[c]);
                l.fetched++;
                fetched++;
                s.fees += l.stream[c] == 0 ? 3 : l.stream[c] == 2 ? 1 : 0;
            }
        }
        if (s.bin[l.stream[0]].all() > 0 || s.bin[l.stream[1]].all() > 0) {
            l.half++;
        }
    }

    private void load(int stream, Kilos k) {
        if (stream == 0) {
            rest(k.all());
        } else if (stream == 2) {
            heap.clean += k.clean;
            heap.dirty += k.dirty;
            toHeap += k.all();
        } else {
            paper(k);
        }
    }

    private void paper(Kilos k) {
        int out = k.dirty * eye / 100;
        int picked = 0;
        while (picked + out < k.dirty && handToday < hand) {
            picked++;
            handToday++;
        }
        int lost = k.clean * 5 / 100;
        rest(out + picked + lost);
        baler.clean += k.clean - lost;
        baler.dirty += k.dirty - out - picked;
        while (baler.all() >= 40 && bales.size() < 20) {
            Bale made = new Bale();
            made.kilos.dirty = 40 * baler.dirty / baler.all();
            made.kilos.clean = 40 - made.kilos.dirty;
            made.day = now;
            baler.dirty -= made.kilos.dirty;
            baler.clean -= made.kilos.clean;
            bales.add(made);
        }
    }

    private void rest(int kilos) {
        int fire = 0;
        while (fire < kilos && ovenToday < most) {
            fire++;
            ovenToday++;
        }
        burnt += fire;
        heat += 3 * fire;
        ash += fire / 4;
        pit += fire / 4 + kilos - fire;
        canRot += (kilos - fire) / 2;
        money -= fire / 4 / 10 + (kilos - fire) / 10;
    }

    boolean sell(int bale, int limit, int price) {
        Bale b = b(bale);
        argument(within(limit, 0, 40) && within(price, 1, 99));
        state(b.state == 0);
        if (b.kilos.dirty <= limit) {
            b.state = 1;
            money += price;
            return true;
        }
        b.state = 2;
        money -= 15;
        return false;
    }

    int open(int bale) {
        Bale b = b(bale);
        state(b.state == 2);
        b.state = 3;
        while (b.kilos.all() > 0) {
            b.kilos.giveOneTo(baler);
        }
        return baler.all();
    }

    int sweep(int street) {
        Street s = s(street);
        int was = s.litter;
        s.litter = 0;
        pit += was;
        canRot += was / 2;
        money -= was / 10;
        return was;
    }

    boolean claim(int street, int day) {
        Street s = s(street);
        argument(within(day, 0, now));
        state(s.claimed.add(day));
        if (s.missed.contains(day)) {
            s.fees -= 2;
            return true;
        }
        return false;
    }

    int ofStreet(int street, int what) {
        Street s = s(street);
        argument(within(what, 0, 12));
        int[] all = {s.place, s.dirt, s.litter, s.habit[0], s.habit[1], s.habit[2], s.bin[0].clean,
            s.bin[1].clean, s.bin[2].clean, s.bin[1].dirty, s.bin[2].dirty, s.fees, s.missed.size()};
        return all[what];
    }

    int ofLorry(int lorry, int what) {
        Lorry l = l(lorry);
        argument(within(what, 0, 6));
        int[] all = {l.shift, l.stream[0], l.stream[1], l.minutes, l.done, l.half, l.fetched};
        return all[what];
    }

    int ofBale(int bale, int what) {
        Bale b = b(bale);
        argument(within(what, 0, 3));
        int[] all = {b.kilos.clean, b.kilos.dirty, b.state, b.day};
        return all[what];
    }

    int many(int what) {
        argument(within(what, 0, 17));
        int stored = 0;
        for (Bale b : bales) {
            stored += b.state == 0 ? 1 : 0;
        }
        int[] all = {now, baler.clean, baler.dirty, bales.size(), stored, heap.clean, heap.dirty,
            compost, gone, pit, canRot, gas, burnt, ash, heat, money, fetched, litter()};
        return all[what];
    }

    private int litter() {
        int sum = 0;
        for (Street s : streets) {
            sum += s.litter;
        }
        return sum;
    }

    int rate(int rule) {
        argument(within(rule, 0, 2));
        if (fetched == 0) {
            return 0;
        }
        int sold = 0;
        int soldClean = 0;
        for (Bale b : bales) {
            if (b.state == 1) {
                sold += b.kilos.all();
                soldClean += b.kilos.clean;
            }
        }
        int part = rule == 0 ? sold + toHeap : rule == 1 ? soldClean + compost : soldClean + compost + ash;
        return (int) ((long) part * 100 / fetched);
    }

    double meanDirt() {
        int count = 0;
        int sum = 0;
        for (Bale b : bales) {
            if (b.state != 3) {
                count++;
                sum += b.kilos.dirty;
            }
        }
        return count == 0 ? 0 : (double) sum / count;
    }

    int fullIn(int street, int stream) {
        Street s = s(street);
        index(within(stream, 0, 2));
        int kilos = s.bin[stream].all();
        for (int days = 0; days <= 99; days++) {
            if (kilos >= 60) {
                return days;
            }
            kilos += s.habit[stream];
        }
        return -1;
    }

    int bestFetch(int lorry) {
        return best(lorry)[0];
    }

    int bestRound(int lorry) {
        return best(lorry)[2];
    }

    private int[] best(int lorry) {
        int[] best = {0, 0, 1};
        List<Integer> order = new ArrayList<>();
        tryAll(l(lorry), order, best);
        return best;
    }

    private void tryAll(Lorry l, List<Integer> order, int[] best) {
        for (int next = 0; next < streets.size(); next++) {
            if (!order.contains(next)) {
                order.add(next);
                if (tryOne(l, order, best)) {
                    tryAll(l, order, best);
                }
                order.remove(order.size() - 1);
            }
        }
    }

    /** Answers whether it can be done to the end. */
    private boolean tryOne(Lorry l, List<Integer> order, int[] best) {
        int[] room = {150, 150};
        int clock = 0;
        int at = 0;
        int kilos = 0;
        int number = 1;
        for (int i : order) {
            Street s = streets.get(i);
            clock += Math.abs(at - s.place) + 2;
            at = s.place;
            if (clock + at > l.shift) {
                return false;
            }
            number = number * 10 + i;
            int[] left = {s.bin[0].all(), s.bin[1].all(), s.bin[2].all()};
            for (int c = 0; c < 2; c++) {
                int taken = Math.min(room[c], left[l.stream[c]]);
                room[c] -= taken;
                left[l.stream[c]] -= taken;
                kilos += taken;
            }
        }
        int minutes = clock + at;
        boolean better = kilos > best[0] || kilos == best[0] && kilos > 0
            && (minutes < best[1] || minutes == best[1] && number < best[2]);
        if (better) {
            best[0] = kilos;
            best[1] = minutes;
            best[2] = number;
        }
        return true;
    }

    int wouldLie(int days) {
        argument(within(days, 1, 30));
        PlainCity other = new PlainCity();
        for (Street s : streets) {
            other.street(s.place, s.dirt);
            Street copy = other.streets.get(other.streets.size() - 1);
            copy.habit = s.habit.clone();
            copy.litter = s.litter;
            copy.bin = new Kilos[] {s.bin[0].copy(), s.bin[1].copy(), s.bin[2].copy()};
        }
        for (Lorry l : lorries) {
            other.lorry(l.shift, l.stream[0], l.stream[1]);
            other.lorries.get(other.lorries.size() - 1).rounds = l.rounds;
        }
        other.now = now;
        other.pass(days);
        return other.litter();
    }

    long digest() {
        long d = 4812;
        for (int what = 0; what < 18; what++) {
            d = d * 31 + many(what);
        }
        for (int rule = 0; rule < 3; rule++) {
            d = d * 31 + rate(rule);
        }
        for (int i = 0; i < streets.size(); i++) {
            for (int what = 0; what < 13; what++) {
                d = d * 31 + ofStreet(i, what);
            }
            for (int stream = 0; stream < 3; stream++) {
                d = d * 31 + fullIn(i, stream);
            }
        }
        for (int i = 0; i < lorries.size(); i++) {
            for (int what = 0; what < 7; what++) {
                d = d * 31 + ofLorry(i, what);
            }
            d = d * 31 + bestFetch(i);
            d = d * 31 + bestRound(i);
        }
        for (int i = 0; i < bales.size(); i++) {
            for (int what = 0; what < 4; what++) {
                d = d * 31 + ofBale(i, what);
            }
        }
        return d * 31 + wouldLie(3);
    }
}
