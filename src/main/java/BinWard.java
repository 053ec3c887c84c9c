import java.util.Arrays;

/**
 * What a city throws away: bins fill, lorries go, loads are sorted, bales are sold or sent back,
 * an oven burns and a pit gives gas. The words in the comments are those of the document.
 */
public final class BinWard {
    private static final int NONE = -1;

    private static final int REST = 0;
    private static final int PAPER = 1;
    private static final int GREEN = 2;
    private static final int STREAMS = 3;

    private static final int MOST_STREETS = 6;
    private static final int FARTHEST_PLACE = 30;
    private static final int MOST_DIRT = 4;
    private static final int MOST_HABIT = 9;
    private static final int BIN_HOLDS = 60;

    private static final int MOST_LORRIES = 3;
    private static final int CHAMBERS = 2;
    private static final int CHAMBER_HOLDS = 150;
    private static final int SHORTEST_SHIFT = 10;
    private static final int LONGEST_SHIFT = 120;
    private static final int WEEK = 7;
    private static final int MINUTES_FOR_A_STREET = 2;

    private static final int MOST_BALES = 20;
    private static final int BALE_HOLDS = 40;
    private static final int STORED = 0;
    private static final int SOLD = 1;
    private static final int BACK = 2;
    private static final int OPENED = 3;
    private static final int COST_OF_BACK = 15;
    private static final int HIGHEST_PRICE = 99;

    private static final int MOST_EYE = 100;
    private static final int MOST_HAND = 50;
    private static final int MOST_OVEN = 200;

    private static final int MOST_DAYS = 30;
    private static final int FULL_WITHIN = 99;
    /** No object is used for more than 512 calls, and none lets more than 30 DAYS go by. */
    private static final int LAST_DAY = 512 * MOST_DAYS;

    private static final int WHATS_OF_STREET = 13;
    private static final int WHATS_OF_LORRY = 7;
    private static final int WHATS_OF_BALE = 4;
    private static final int WHATS_OF_ALL = 18;
    private static final int RULES = 3;

    private final Street[] streets = new Street[MOST_STREETS];
    private final Street[] spareStreets = new Street[MOST_STREETS];
    private int streetCount;
    private final Lorry[] lorries = new Lorry[MOST_LORRIES];
    private int lorryCount;
    private final Trip spareTrip = new Trip();
    private final Search search = new Search();
    private final Diary diary = new Diary();
    private final Line line = new Line();
    private final Baler baler = new Baler();
    private final Furnace furnace = new Furnace();
    private final Heap heap = new Heap();
    private final Pit pit = new Pit();
    private int now;
    private int earned;

    public BinWard() {
        for (int i = 0; i < MOST_STREETS; i++) {
            streets[i] = new Street();
            spareStreets[i] = new Street();
        }
        for (int i = 0; i < MOST_LORRIES; i++) {
            lorries[i] = new Lorry();
        }
    }

    // ---- what is told

    public int street(int place, int dirt) throws IllegalArgumentException, IllegalStateException {
        checkValue(place, 1, FARTHEST_PLACE);
        checkValue(dirt, 0, MOST_DIRT);
        if (streetCount >= MOST_STREETS) {
            throw new IllegalStateException("there are 6 streets already");
        }
        Street told = streets[streetCount];
        told.place = place;
        told.dirt = dirt;
        streetCount++;
        return streetCount - 1;
    }

    public int habit(int street, int stream, int kilos)
            throws IndexOutOfBoundsException, IllegalArgumentException {
        Street told = streetAt(street);
        checkIndex(stream, STREAMS);
        checkValue(kilos, 0, MOST_HABIT);
        int before = told.habits[stream];
        told.habits[stream] = kilos;
        return before;
    }

    public int dirt(int street, int dirt) throws IndexOutOfBoundsException, IllegalArgumentException {
        Street told = streetAt(street);
        checkValue(dirt, 0, MOST_DIRT);
        int before = told.dirt;
        told.dirt = dirt;
        return before;
    }

    public int lorry(int shift, int first, int second)
            throws IllegalArgumentException, IllegalStateException {
        checkValue(shift, SHORTEST_SHIFT, LONGEST_SHIFT);
        checkValue(first, 0, STREAMS - 1);
        checkValue(second, 0, STREAMS - 1);
        if (lorryCount >= MOST_LORRIES) {
            throw new IllegalStateException("there are 3 lorries already");
        }
        Lorry told = lorries[lorryCount];
        told.shift = shift;
        told.streams[0] = first;
        told.streams[1] = second;
        lorryCount++;
        return lorryCount - 1;
    }

    public int round(int lorry, int day, int street)
            throws IndexOutOfBoundsException, IllegalStateException {
        Lorry told = lorryAt(lorry);
        checkIndex(day, WEEK);
        checkIndex(street, streetCount);
        if (told.comesTo(day, street)) {
            throw new IllegalStateException("the round has that street already");
        }
        told.addToRound(day, street);
        return told.lengths[day];
    }

    public int clear(int lorry, int day) throws IndexOutOfBoundsException {
        Lorry told = lorryAt(lorry);
        checkIndex(day, WEEK);
        int before = told.lengths[day];
        told.lengths[day] = 0;
        return before;
    }

    public int eye(int eye) throws IllegalArgumentException {
        checkValue(eye, 0, MOST_EYE);
        int before = line.eye;
        line.eye = eye;
        return before;
    }

    public int hand(int hand) throws IllegalArgumentException {
        checkValue(hand, 0, MOST_HAND);
        int before = line.hand;
        line.hand = hand;
        return before;
    }

    public int oven(int most) throws IllegalArgumentException {
        checkValue(most, 0, MOST_OVEN);
        int before = furnace.most;
        furnace.most = most;
        return before;
    }

    // ---- what is done

    public int pass(int days) throws IllegalArgumentException {
        checkValue(days, 1, MOST_DAYS);
        int fetched = 0;
        for (int i = 0; i < days; i++) {
            fetched += liveOneDay();
        }
        return fetched;
    }

    public boolean sell(int bale, int limit, int price)
            throws IndexOutOfBoundsException, IllegalArgumentException, IllegalStateException {
        Bale offered = baleAt(bale);
        checkValue(limit, 0, BALE_HOLDS);
        checkValue(price, 1, HIGHEST_PRICE);
        if (offered.state != STORED) {
            throw new IllegalStateException("the bale is not stored");
        }
        boolean taken = offered.dirty <= limit;
        offered.state = taken ? SOLD : BACK;
        earned += taken ? price : -COST_OF_BACK;
        return taken;
    }

    public int open(int bale) throws IndexOutOfBoundsException, IllegalStateException {
        Bale returned = baleAt(bale);
        if (returned.state != BACK) {
            throw new IllegalStateException("the bale is not back");
        }
        baler.unpack(returned);
        return baler.kilos();
    }

    public int sweep(int street) throws IndexOutOfBoundsException {
        Street swept = streetAt(street);
        int litter = swept.litter;
        swept.litter = 0;
        pit.takeIn(litter, litter / 2);
        return litter;
    }

    public boolean claim(int street, int day)
            throws IndexOutOfBoundsException, IllegalArgumentException, IllegalStateException {
        Street claiming = streetAt(street);
        checkValue(day, 0, now);
        if (diary.has(day, Diary.claimed(street))) {
            throw new IllegalStateException("the street claimed for that day already");
        }
        diary.note(day, Diary.claimed(street));
        boolean right = diary.has(day, Diary.missed(street));
        if (right) {
            claiming.rightClaims++;
        }
        return right;
    }

    // ---- what one asks

    public int ofStreet(int street, int what)
            throws IndexOutOfBoundsException, IllegalArgumentException {
        Street asked = streetAt(street);
        checkValue(what, 0, WHATS_OF_STREET - 1);
        switch (what) {
            case 0: return asked.place;
            case 1: return asked.dirt;
            case 2: return asked.litter;
            case 3: return asked.habits[REST];
            case 4: return asked.habits[PAPER];
            case 5: return asked.habits[GREEN];
            case 6: return asked.clean[REST];
            case 7: return asked.clean[PAPER];
            case 8: return asked.clean[GREEN];
            case 9: return asked.dirty[PAPER];
            case 10: return asked.dirty[GREEN];
            case 11: return asked.owes();
            default: return asked.missedDays;
        }
    }

    public int ofLorry(int lorry, int what)
            throws IndexOutOfBoundsException, IllegalArgumentException {
        Lorry asked = lorryAt(lorry);
        checkValue(what, 0, WHATS_OF_LORRY - 1);
        switch (what) {
            case 0: return asked.shift;
            case 1: return asked.streams[0];
            case 2: return asked.streams[1];
            case 3: return asked.latestMinutes;
            case 4: return asked.latestDone;
            case 5: return asked.latestHalf;
            default: return asked.fetched;
        }
    }

    public int ofBale(int bale, int what)
            throws IndexOutOfBoundsException, IllegalArgumentException {
        Bale asked = baleAt(bale);
        checkValue(what, 0, WHATS_OF_BALE - 1);
        switch (what) {
            case 0: return asked.clean;
            case 1: return asked.dirty;
            case 2: return asked.state;
            default: return asked.madeOn;
        }
    }

    public int many(int what) throws IllegalArgumentException {
        checkValue(what, 0, WHATS_OF_ALL - 1);
        switch (what) {
            case 0: return now;
            case 1: return baler.clean;
            case 2: return baler.dirty;
            case 3: return baler.count;
            case 4: return baler.countIn(STORED);
            case 5: return heap.clean;
            case 6: return heap.dirty;
            case 7: return heap.compost;
            case 8: return heap.gone;
            case 9: return pit.kilos;
            case 10: return pit.rotting;
            case 11: return pit.gas;
            case 12: return furnace.burnt;
            case 13: return furnace.ash;
            case 14: return furnace.heat;
            case 15: return earned - pit.cost;
            case 16: return fetchedEver();
            default: return litterIn(streets);
        }
    }

    public int rate(int rule) throws IllegalArgumentException {
        checkValue(rule, 0, RULES - 1);
        int fetched = fetchedEver();
        if (fetched <= 0) {
            return 0;
        }
        return 100 * countedAsUsed(rule) / fetched;
    }

    public double meanDirt() {
        int unopened = baler.count - baler.countIn(OPENED);
        if (unopened <= 0) {
            return 0.0;
        }
        // an OPENED BALE has no kilos left, so it adds nothing to the sum
        return (double) baler.dirtyInBales() / (double) unopened;
    }

    // ---- what would be (nothing is changed)

    public int fullIn(int street, int stream) throws IndexOutOfBoundsException {
        Street asked = streetAt(street);
        checkIndex(stream, STREAMS);
        int room = asked.roomIn(stream);
        if (room <= 0) {
            return 0;
        }
        int habit = asked.habits[stream];
        if (habit <= 0) {
            return NONE;
        }
        int days = roundedUp(room, habit);
        return days <= FULL_WITHIN ? days : NONE;
    }

    public int bestFetch(int lorry) throws IndexOutOfBoundsException {
        Lorry asked = lorryAt(lorry);
        search.run(asked, streets, streetCount);
        return search.bestKilos;
    }

    public int bestRound(int lorry) throws IndexOutOfBoundsException {
        Lorry asked = lorryAt(lorry);
        search.run(asked, streets, streetCount);
        return search.bestNumber;
    }

    public int wouldLie(int days) throws IllegalArgumentException {
        checkValue(days, 1, MOST_DAYS);
        for (int i = 0; i < streetCount; i++) {
            spareStreets[i].copyBins(streets[i]);
        }
        // where the LOADS go changes no LITTER, so the spare days leave out the HALL
        for (int i = 1; i <= days; i++) {
            fillBins(spareStreets);
            int weekday = Math.floorMod(now + i, WEEK);
            for (int k = 0; k < lorryCount; k++) {
                spareTrip.drive(lorries[k], weekday, spareStreets);
            }
        }
        return litterIn(spareStreets);
    }

    public long digest() {
        long d = 4812;
        for (int what = 0; what < WHATS_OF_ALL; what++) {
            d = d * 31 + many(what);
        }
        for (int rule = 0; rule < RULES; rule++) {
            d = d * 31 + rate(rule);
        }
        for (int i = 0; i < streetCount; i++) {
            d = digestOfStreet(d, i);
        }
        for (int i = 0; i < lorryCount; i++) {
            d = digestOfLorry(d, i);
        }
        for (int i = 0; i < baler.count; i++) {
            for (int what = 0; what < WHATS_OF_BALE; what++) {
                d = d * 31 + ofBale(i, what);
            }
        }
        return d * 31 + wouldLie(3);
    }

    private long digestOfStreet(long before, int street) {
        long d = before;
        for (int what = 0; what < WHATS_OF_STREET; what++) {
            d = d * 31 + ofStreet(street, what);
        }
        for (int stream = 0; stream < STREAMS; stream++) {
            d = d * 31 + fullIn(street, stream);
        }
        return d;
    }

    private long digestOfLorry(long before, int lorry) {
        long d = before;
        for (int what = 0; what < WHATS_OF_LORRY; what++) {
            d = d * 31 + ofLorry(lorry, what);
        }
        // one search answers what bestFetch() and bestRound() would
        search.run(lorries[lorry], streets, streetCount);
        d = d * 31 + search.bestKilos;
        return d * 31 + search.bestNumber;
    }

    // ---- one DAY

    /** Answers how many kilos were fetched on it. */
    private int liveOneDay() {
        now++;
        diary.reach(now);
        fillBins(streets);
        int fetched = driveRounds();
        sortLoads();
        heap.ripen();
        pit.giveGas();
        return fetched;
    }

    private void fillBins(Street[] which) {
        for (int i = 0; i < streetCount; i++) {
            which[i].throwAway();
        }
    }

    private int driveRounds() {
        int weekday = Math.floorMod(now, WEEK);
        int fetched = 0;
        for (int i = 0; i < lorryCount; i++) {
            Lorry lorry = lorries[i];
            lorry.trip.drive(lorry, weekday, streets);
            lorry.noteTrip(weekday);
            noteMissed(lorry, weekday);
            fetched += lorry.trip.fetched;
        }
        return fetched;
    }

    private void noteMissed(Lorry lorry, int weekday) {
        for (int i = lorry.trip.done; i < lorry.lengths[weekday]; i++) {
            int street = lorry.rounds[weekday][i];
            // two LORRIES may miss a STREET on one DAY: that is one DAY on which it was MISSED
            if (!diary.has(now, Diary.missed(street))) {
                diary.note(now, Diary.missed(street));
                streets[street].missedDays++;
            }
        }
    }

    private void sortLoads() {
        furnace.startDay();
        line.startDay();
        for (int stream = 0; stream < STREAMS; stream++) {
            for (int i = 0; i < lorryCount; i++) {
                for (int chamber = 0; chamber < CHAMBERS; chamber++) {
                    if (lorries[i].streams[chamber] == stream) {
                        bringIn(stream, lorries[i].trip, chamber);
                    }
                }
            }
        }
    }

    private void bringIn(int stream, Trip trip, int chamber) {
        int clean = trip.clean[chamber];
        int dirty = trip.dirty[chamber];
        if (clean + dirty == 0) {
            return;
        }
        if (stream == REST) {
            furnace.burn(clean + dirty, pit);
        } else if (stream == PAPER) {
            int rest = line.sort(clean, dirty, baler);
            furnace.burn(rest, pit);
            baler.press(now);
        } else {
            heap.takeIn(clean, dirty);
        }
    }

    // ---- sums

    private int fetchedEver() {
        int sum = 0;
        for (int i = 0; i < lorryCount; i++) {
            sum += lorries[i].fetched;
        }
        return sum;
    }

    private int litterIn(Street[] which) {
        int sum = 0;
        for (int i = 0; i < streetCount; i++) {
            sum += which[i].litter;
        }
        return sum;
    }

    private int countedAsUsed(int rule) {
        if (rule == 0) {
            return BALE_HOLDS * baler.countIn(SOLD) + heap.arrived;
        }
        int used = baler.cleanSold() + heap.compost;
        return rule == 1 ? used : used + furnace.ash;
    }

    /** Of a whole that is not below 0. */
    private static int roundedUp(int whole, int part) {
        return part <= 0 ? 0 : (whole + part - 1) / part;
    }

    // ---- what is refused

    private Street streetAt(int number) {
        checkIndex(number, streetCount);
        return streets[number];
    }

    private Lorry lorryAt(int number) {
        checkIndex(number, lorryCount);
        return lorries[number];
    }

    private Bale baleAt(int number) {
        checkIndex(number, baler.count);
        return baler.bales[number];
    }

    private static void checkIndex(int number, int end) {
        if (number < 0 || number >= end) {
            throw new IndexOutOfBoundsException("there is none of that number");
        }
    }

    private static void checkValue(int value, int least, int most) {
        if (value < least || value > most) {
            throw new IllegalArgumentException("the value is out of its range");
        }
    }

    private static final class Street {
        int place;
        int dirt;
        int litter;
        final int[] habits = new int[STREAMS];
        final int[] clean = new int[STREAMS];
        final int[] dirty = new int[STREAMS];
        final int[] fetched = new int[STREAMS];
        int rightClaims;
        int missedDays;

        int kilosIn(int stream) {
            return clean[stream] + dirty[stream];
        }

        int roomIn(int stream) {
            return BIN_HOLDS - kilosIn(stream);
        }

        /** What comes in one DAY. */
        void throwAway() {
            for (int stream = 0; stream < STREAMS; stream++) {
                int foul = stream == REST ? 0 : habits[stream] * dirt / 10;
                int pure = habits[stream] - foul;
                int pureIn = Math.min(pure, roomIn(stream));
                clean[stream] += pureIn;
                int foulIn = Math.min(foul, roomIn(stream));
                dirty[stream] += foulIn;
                litter += pure - pureIn + foul - foulIn;
            }
        }

        int owes() {
            return 3 * fetched[REST] + fetched[GREEN] - 2 * rightClaims;
        }

        /** All that decides how LITTER grows. */
        void copyBins(Street from) {
            place = from.place;
            dirt = from.dirt;
            litter = from.litter;
            for (int stream = 0; stream < STREAMS; stream++) {
                habits[stream] = from.habits[stream];
                clean[stream] = from.clean[stream];
                dirty[stream] = from.dirty[stream];
            }
        }
    }

    private static final class Lorry {
        int shift;
        final int[] streams = new int[CHAMBERS];
        final int[][] rounds = new int[WEEK][MOST_STREETS];
        final int[] lengths = new int[WEEK];
        final Trip trip = new Trip();
        int latestMinutes;
        int latestDone;
        int latestHalf;
        int fetched;

        boolean comesTo(int day, int street) {
            for (int i = 0; i < lengths[day]; i++) {
                if (rounds[day][i] == street) {
                    return true;
                }
            }
            return false;
        }

        void addToRound(int day, int street) {
            int length = lengths[day];
            if (length < MOST_STREETS) {
                rounds[day][length] = street;
                lengths[day] = length + 1;
            }
        }

        void noteTrip(int weekday) {
            fetched += trip.fetched;
            // a DAY without STREETS in its ROUND leaves what is told of the latest one
            if (lengths[weekday] > 0) {
                latestMinutes = trip.minutes;
                latestDone = trip.done;
                latestHalf = trip.half;
            }
        }
    }

    /** One ROUND on one DAY, and the CHAMBERS with what it brings to the HALL. */
    private static final class Trip {
        final int[] clean = new int[CHAMBERS];
        final int[] dirty = new int[CHAMBERS];
        int minutes;
        int done;
        int half;
        int fetched;

        void drive(Lorry lorry, int weekday, Street[] streets) {
            begin();
            int at = 0;
            int clock = 0;
            for (int i = 0; i < lorry.lengths[weekday]; i++) {
                Street street = streets[lorry.rounds[weekday][i]];
                int then = clock + Math.abs(street.place - at) + MINUTES_FOR_A_STREET;
                if (then + street.place > lorry.shift) {
                    break;
                }
                clock = then;
                at = street.place;
                empty(street, lorry);
            }
            minutes = clock + at;
        }

        private void begin() {
            for (int chamber = 0; chamber < CHAMBERS; chamber++) {
                clean[chamber] = 0;
                dirty[chamber] = 0;
            }
            done = 0;
            half = 0;
            fetched = 0;
        }

        private void empty(Street street, Lorry lorry) {
            int left = 0;
            for (int chamber = 0; chamber < CHAMBERS; chamber++) {
                load(street, lorry.streams[chamber], chamber);
            }
            for (int chamber = 0; chamber < CHAMBERS; chamber++) {
                left += street.kilosIn(lorry.streams[chamber]);
            }
            done++;
            if (left > 0) {
                half++;
            }
        }

        private void load(Street street, int stream, int chamber) {
            int room = CHAMBER_HOLDS - clean[chamber] - dirty[chamber];
            int pure = Math.min(street.clean[stream], room);
            int foul = Math.min(street.dirty[stream], room - pure);
            street.clean[stream] -= pure;
            street.dirty[stream] -= foul;
            street.fetched[stream] += pure + foul;
            clean[chamber] += pure;
            dirty[chamber] += foul;
            fetched += pure + foul;
        }
    }

    /**
     * Looks for the best ROUND set by set. The YARD lies at one end of all PLACES, so the shortest
     * order of a set drives to its farthest PLACE and back; and the order changes nothing in how
     * much is fetched, as the CHAMBERS of a STREAM fill one behind the other.
     */
    private static final class Search {
        int bestKilos;
        int bestNumber;
        private int bestMinutes;

        void run(Lorry lorry, Street[] streets, int count) {
            bestKilos = 0;
            bestNumber = 1;
            bestMinutes = 0;
            for (int set = 1; set < 1 << count; set++) {
                int minutes = wayHome(0, set, streets) + MINUTES_FOR_A_STREET * Integer.bitCount(set);
                int kilos = kilosOf(lorry, set, streets);
                if (minutes <= lorry.shift && kilos > 0) {
                    compare(kilos, minutes, smallestNumber(set, streets));
                }
            }
        }

        private void compare(int kilos, int minutes, int number) {
            boolean better = kilos > bestKilos
                    || kilos == bestKilos && minutes < bestMinutes
                    || kilos == bestKilos && minutes == bestMinutes && number < bestNumber;
            if (better) {
                bestKilos = kilos;
                bestMinutes = minutes;
                bestNumber = number;
            }
        }

        private static boolean isIn(int street, int set) {
            return (set >> street & 1) == 1;
        }

        private static int kilosOf(Lorry lorry, int set, Street[] streets) {
            int first = 0;
            int second = 0;
            for (int i = 0; i < streets.length; i++) {
                if (isIn(i, set)) {
                    first += streets[i].kilosIn(lorry.streams[0]);
                    second += streets[i].kilosIn(lorry.streams[1]);
                }
            }
            if (lorry.streams[0] == lorry.streams[1]) {
                return Math.min(first, CHAMBERS * CHAMBER_HOLDS);
            }
            return Math.min(first, CHAMBER_HOLDS) + Math.min(second, CHAMBER_HOLDS);
        }

        /** The fewest minutes of driving from a PLACE over all STREETS of the set to the YARD. */
        private static int wayHome(int from, int set, Street[] streets) {
            int farthest = from;
            for (int i = 0; i < streets.length; i++) {
                if (isIn(i, set)) {
                    farthest = Math.max(farthest, streets[i].place);
                }
            }
            return 2 * farthest - from;
        }

        /** Of the shortest orders of the set the one with the smallest digits. */
        private static int smallestNumber(int set, Street[] streets) {
            int number = 1;
            int at = 0;
            int left = set;
            for (int step = 0; step < streets.length && left != 0; step++) {
                int next = smallestNext(at, left, streets);
                number = 10 * number + next;
                at = streets[next].place;
                left &= ~(1 << next);
            }
            return number;
        }

        private static int smallestNext(int at, int left, Street[] streets) {
            int shortest = wayHome(at, left, streets);
            for (int i = 0; i < streets.length; i++) {
                if (isIn(i, left)) {
                    int place = streets[i].place;
                    int way = Math.abs(place - at) + wayHome(place, left & ~(1 << i), streets);
                    if (way == shortest) {
                        return i;
                    }
                }
            }
            return 0;
        }
    }

    /** Which STREETS were MISSED and which CLAIMED, DAY by DAY, as bits of one number. */
    private static final class Diary {
        private int[] marks = new int[32];

        static int missed(int street) {
            return 1 << street;
        }

        static int claimed(int street) {
            return 1 << MOST_STREETS + street;
        }

        /** Makes room for a DAY; it is told every DAY in turn. */
        void reach(int day) {
            if (day >= marks.length && marks.length <= LAST_DAY) {
                marks = Arrays.copyOf(marks, 2 * marks.length);
            }
        }

        boolean has(int day, int mark) {
            return day >= 0 && day < marks.length && (marks[day] & mark) != 0;
        }

        void note(int day, int mark) {
            if (day >= 0 && day < marks.length) {
                marks[day] |= mark;
            }
        }
    }

    private static final class Line {
        int eye = 60;
        int hand;
        private int handLeft;

        void startDay() {
            handLeft = hand;
        }

        /** Answers how many kilos of the LOAD of PAPER are REST. */
        int sort(int clean, int dirty, Baler baler) {
            int out = dirty * eye / 100;
            int byHand = Math.min(dirty - out, handLeft);
            handLeft -= byHand;
            int lost = clean * 5 / 100;
            baler.clean += clean - lost;
            baler.dirty += dirty - out - byHand;
            return out + byHand + lost;
        }
    }

    private static final class Baler {
        int clean;
        int dirty;
        final Bale[] bales = new Bale[MOST_BALES];
        int count;

        Baler() {
            for (int i = 0; i < MOST_BALES; i++) {
                bales[i] = new Bale();
            }
        }

        int kilos() {
            return clean + dirty;
        }

        void press(int day) {
            for (int i = count; i < MOST_BALES && kilos() >= BALE_HOLDS; i++) {
                Bale made = bales[i];
                made.dirty = dirty * BALE_HOLDS / kilos();
                made.clean = BALE_HOLDS - made.dirty;
                made.madeOn = day;
                dirty -= made.dirty;
                clean -= made.clean;
                count++;
            }
        }

        void unpack(Bale bale) {
            clean += bale.clean;
            dirty += bale.dirty;
            bale.clean = 0;
            bale.dirty = 0;
            bale.state = OPENED;
        }

        int countIn(int state) {
            int sum = 0;
            for (int i = 0; i < count; i++) {
                if (bales[i].state == state) {
                    sum++;
                }
            }
            return sum;
        }

        int dirtyInBales() {
            int sum = 0;
            for (int i = 0; i < count; i++) {
                sum += bales[i].dirty;
            }
            return sum;
        }

        int cleanSold() {
            int sum = 0;
            for (int i = 0; i < count; i++) {
                if (bales[i].state == SOLD) {
                    sum += bales[i].clean;
                }
            }
            return sum;
        }
    }

    private static final class Bale {
        int clean;
        int dirty;
        int state = STORED;
        int madeOn;
    }

    private static final class Furnace {
        int most = 50;
        private int left;
        int burnt;
        int ash;
        int heat;

        void startDay() {
            left = most;
        }

        /** Burns of a LOAD of REST what it can still today; ASH and the others go to the PIT. */
        void burn(int load, Pit pit) {
            int fire = Math.min(load, left);
            left -= fire;
            burnt += fire;
            heat += 3 * fire;
            int cinders = fire / 4;
            ash += cinders;
            pit.takeIn(cinders, 0);
            int unburnt = load - fire;
            pit.takeIn(unburnt, unburnt / 2);
        }
    }

    private static final class Heap {
        int clean;
        int dirty;
        int compost;
        int gone;
        int arrived;

        void takeIn(int pure, int foul) {
            clean += pure;
            dirty += foul;
            arrived += pure + foul;
        }

        void ripen() {
            int lost = roundedUp(clean, 10);
            int ripe = clean / 20;
            gone += lost;
            compost += ripe;
            clean -= lost + ripe;
        }
    }

    private static final class Pit {
        int kilos;
        int rotting;
        int gas;
        int cost;

        /** Each call is one kind of waste that pays by itself. */
        void takeIn(int more, int canRot) {
            kilos += more;
            rotting += canRot;
            cost += more / 10;
        }

        void giveGas() {
            int fresh = rotting / 50;
            gas += fresh;
            rotting -= fresh;
            kilos -= fresh;
        }
    }
}
