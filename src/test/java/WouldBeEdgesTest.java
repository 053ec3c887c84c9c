import java.math.BigInteger;

/** The promises 22 to 26: each sentence that names a boundary case. */
public final class WouldBeEdgesTest {
    private static final int REST = Town.REST;
    private static final int PAPER = Town.PAPER;
    private static final int GREEN = Town.GREEN;

    public static void main(String[] args) {
        full();
        best();
        lie();
        digests();
        Check.end();
    }

    private static void full() {
        fullInRefuses();
        fullIfItIs();
        fullBehindSoManyDays();
        neverFull();
        fullIfNothingWasFetched();
        fullWithDirtyKilos();
    }

    private static void best() {
        bestRefuses();
        nothingToFetch();
        couldDoToTheEnd();
        someOfTheStreets();
        chambersOfTheBestRound();
        bothChambersOfOneStreamFetchOnce();
        otherStreamsFetchNothing();
        theShortestOfSeveral();
        theSmallestNumberOfSeveral();
        ordersWithTheSmallestNumber();
        fewerDigitsAreSmaller();
        digitsBehindAOne();
        bestIsNow();
    }

    private static void lie() {
        wouldLieIsOneToThirty();
        wouldLieWithoutStreets();
        wouldLieFromWhatLies();
        wouldLieByTheDayOfTheWeek();
        wouldLieWithHalfAndMissed();
        wouldLieIsWhatComes();
    }

    private static void digests() {
        digestOfANewCity();
        digestWrapsAround();
        wouldBeChangesNothing();
    }

    // Promise 22: "if there is no such STREET, or stream is not 0 to 2"
    private static void fullInRefuses() {
        BinWard none = new BinWard();
        Check.index("no street at all", none, () -> none.fullIn(0, 0));
        BinWard x = Town.at(1, 2);
        Check.index("street -1", x, () -> x.fullIn(-1, 0));
        Check.index("street 2 of 2", x, () -> x.fullIn(2, 0));
        Check.index("the least street", x, () -> x.fullIn(Integer.MIN_VALUE, 0));
        Check.index("the greatest street", x, () -> x.fullIn(Integer.MAX_VALUE, 0));
        Check.index("stream -1", x, () -> x.fullIn(0, -1));
        Check.index("stream 3", x, () -> x.fullIn(0, 3));
        Check.index("the least stream", x, () -> x.fullIn(0, Integer.MIN_VALUE));
        Check.index("the greatest stream", x, () -> x.fullIn(0, Integer.MAX_VALUE));
        Check.same("street 1, stream 2", x.fullIn(1, 2), -1);
    }

    // "0, if it is"
    private static void fullIfItIs() {
        for (int stream = 0; stream < 3; stream++) {
            BinWard x = Town.at(1);
            Town.fill(x, 0, stream, 60, 0);
            Check.same("without a habit, stream " + stream, x.fullIn(0, stream), 0);
            x.habit(0, stream, 9);
            Check.same("with a habit, stream " + stream, x.fullIn(0, stream), 0);
            x.pass(1);
            Check.same("with litter, stream " + stream, x.fullIn(0, stream), 0);
        }
    }

    // "behind how many DAYS its BIN would be full"
    private static void fullBehindSoManyDays() {
        int[][] beforeHabitDays = {{0, 1, 60}, {0, 9, 7}, {0, 6, 10}, {0, 7, 9}, {51, 9, 1},
            {50, 9, 2}, {59, 1, 1}, {59, 9, 1}, {58, 1, 2}, {42, 9, 2}, {41, 9, 3}};
        for (int[] row : beforeHabitDays) {
            for (int stream = 0; stream < 3; stream++) {
                BinWard x = Town.at(1);
                Town.fill(x, 0, stream, row[0], 0);
                x.habit(0, stream, row[1]);
                Check.same(row[0] + " and " + row[1] + " a day, stream " + stream,
                    x.fullIn(0, stream), row[2]);
                for (int day = 1; day < row[2]; day++) {
                    x.pass(1);
                }
                Check.same("the day before, stream " + stream, x.fullIn(0, stream), 1);
                x.pass(1);
                Check.same("that day, stream " + stream, x.fullIn(0, stream), 0);
            }
        }
    }

    // "NONE, if not within 99"
    private static void neverFull() {
        BinWard x = Town.at(1);
        Town.fill(x, 0, REST, 59, 0);
        for (int stream = 0; stream < 3; stream++) {
            Check.same("without a habit, stream " + stream, x.fullIn(0, stream), -1);
        }
    }

    // "if nothing was fetched"
    private static void fullIfNothingWasFetched() {
        BinWard x = Town.at(1);
        x.habit(0, REST, 9);
        Town.daily(x, 60, REST, REST, 0);
        x.pass(5);
        Check.same("though it is fetched each day", x.fullIn(0, REST), 7);
    }

    // CLEAN and DIRTY fill it together, whatever DIRT says
    private static void fullWithDirtyKilos() {
        BinWard x = Town.at(1);
        Town.fill(x, 0, PAPER, 30, 20);
        Town.fill(x, 0, GREEN, 36, 24);
        x.dirt(0, 4);
        x.habit(0, PAPER, 5);
        Check.same("50 and 5 a day", x.fullIn(0, PAPER), 2);
        Check.same("36 and 24 are 60", x.fullIn(0, GREEN), 0);
    }

    // Promises 23 and 24: "IndexOutOfBoundsException if there is no such LORRY"
    private static void bestRefuses() {
        BinWard none = Town.at(1);
        Check.index("no lorry at all, kilos", none, () -> none.bestFetch(0));
        Check.index("no lorry at all, round", none, () -> none.bestRound(0));
        BinWard x = new BinWard();
        x.lorry(10, 0, 0);
        x.lorry(10, 0, 0);
        int[] wrong = {-1, 2, 3, Integer.MIN_VALUE, Integer.MAX_VALUE};
        for (int lorry : wrong) {
            Check.index("kilos of the lorry " + lorry, x, () -> x.bestFetch(lorry));
            Check.index("round of the lorry " + lorry, x, () -> x.bestRound(lorry));
        }
        Check.same("kilos of the lorry 1 of 2", x.bestFetch(1), 0);
        Check.same("round of the lorry 1 of 2", x.bestRound(1), 1);
    }

    // "1, if it would fetch nothing"
    private static void nothingToFetch() {
        BinWard x = new BinWard();
        x.lorry(120, REST, PAPER);
        Check.same("no street, kilos", x.bestFetch(0), 0);
        Check.same("no street, round", x.bestRound(0), 1);
        x.street(1, 0);
        x.habit(0, REST, 9);
        Check.same("nothing in the bins, kilos", x.bestFetch(0), 0);
        Check.same("nothing in the bins, round", x.bestRound(0), 1);
        x.pass(1);
        Check.same("9, kilos", x.bestFetch(0), 9);
        Check.same("9, round", x.bestRound(0), 10);
    }

    // "that it could do to the end"
    private static void couldDoToTheEnd() {
        int[][] placeShiftKilos = {{4, 10, 5}, {5, 11, 0}, {5, 12, 5}, {30, 61, 0}, {30, 62, 5}};
        for (int[] row : placeShiftKilos) {
            BinWard x = Town.at(row[0]);
            Town.fill(x, 0, REST, 5, 0);
            x.lorry(row[1], REST, REST);
            String what = " at " + row[0] + " in " + row[1];
            Check.same("kilos" + what, x.bestFetch(0), row[2]);
            Check.same("round" + what, x.bestRound(0), row[2] > 0 ? 10 : 1);
        }
        BinWard y = Town.at(4, 8);
        Town.fill(y, 0, REST, 5, 0);
        Town.fill(y, 1, REST, 7, 0);
        y.lorry(19, REST, REST);
        y.lorry(20, REST, REST);
        Check.same("only one in 19", y.bestFetch(0), 7);
        Check.same("the better one", y.bestRound(0), 11);
        Check.same("both in 20", y.bestFetch(1), 12);
        Check.same("both", y.bestRound(1), 101);
    }

    // "of all orders of all STREETS or some of them"
    private static void someOfTheStreets() {
        BinWard x = Town.at(10, 2, 3, 4);
        Town.fill(x, 0, REST, 20, 0);
        Town.fill(x, 1, REST, 8, 0);
        Town.fill(x, 2, REST, 7, 0);
        Town.fill(x, 3, REST, 6, 0);
        x.lorry(22, REST, REST);
        x.lorry(21, REST, REST);
        Check.same("the near ones fetch more than the far one", x.bestFetch(0), 21);
        Check.same("they are", x.bestRound(0), 1123);
        Town.fill(x, 0, REST, 2, 0);
        Check.same("now the far one fetches more", x.bestFetch(0), 22);
        Check.same("it is", x.bestRound(0), 10);
        Check.same("but is too far in 21", x.bestFetch(1), 21);
    }

    // as in a ROUND: each CHAMBER holds 150
    private static void chambersOfTheBestRound() {
        int[][] thirdKilos = {{29, 149}, {30, 150}, {31, 150}};
        for (int[] row : thirdKilos) {
            BinWard x = Town.at(1, 1, 1);
            Town.fill(x, 0, PAPER, 60, 0);
            Town.fill(x, 1, PAPER, 36, 24);
            Town.fill(x, 2, PAPER, row[0], 0);
            x.lorry(60, PAPER, REST);
            x.lorry(60, REST, PAPER);
            x.lorry(60, PAPER, PAPER);
            Check.same("the first chamber", x.bestFetch(0), row[1]);
            Check.same("the second chamber", x.bestFetch(1), row[1]);
            Check.same("both chambers", x.bestFetch(2), 120 + row[0]);
            Check.same("all three streets", x.bestRound(0), 1012);
        }
        BinWard y = Town.at(1, 1, 1, 1, 1, 1);
        for (int i = 0; i < 6; i++) {
            Town.fill(y, i, REST, 60, 0);
        }
        y.lorry(60, REST, REST);
        Check.same("300 of 360", y.bestFetch(0), 300);
        Check.same("by five streets", y.bestRound(0), 101234);
    }

    // "if both CHAMBERS are of one STREAM, the second one gets of what is left"
    private static void bothChambersOfOneStreamFetchOnce() {
        BinWard x = Town.at(1);
        Town.fill(x, 0, GREEN, 7, 0);
        x.lorry(60, GREEN, GREEN);
        Check.same("7, not 14", x.bestFetch(0), 7);
    }

    // its STREAMS alone
    private static void otherStreamsFetchNothing() {
        BinWard x = Town.at(1, 1);
        Town.fill(x, 0, PAPER, 60, 0);
        Town.fill(x, 1, GREEN, 1, 0);
        x.lorry(60, REST, GREEN);
        Check.same("1 of GREEN", x.bestFetch(0), 1);
        Check.same("by its street", x.bestRound(0), 11);
    }

    // "of several the shortest in minutes (with the way back)"
    private static void theShortestOfSeveral() {
        BinWard x = Town.at(9, 8, 7, 6);
        for (int i = 0; i < 4; i++) {
            Town.fill(x, i, REST, 60, 0);
        }
        x.lorry(120, REST, PAPER);
        Check.same("150 of 240", x.bestFetch(0), 150);
        Check.same("the three nearest", x.bestRound(0), 1123);
        Town.fill(x, 0, PAPER, 1, 0);
        Check.same("151 with the far one", x.bestFetch(0), 151);
        Check.same("the far one and any two others are as long", x.bestRound(0), 1012);
    }

    // "then the smallest number": of rounds that are as long
    private static void theSmallestNumberOfSeveral() {
        BinWard x = Town.at(4, 4, 4);
        for (int i = 0; i < 3; i++) {
            Town.fill(x, i, REST, 5, 0);
        }
        x.lorry(10, REST, PAPER);
        x.lorry(12, REST, PAPER);
        x.lorry(14, REST, PAPER);
        Check.same("one of three", x.bestRound(0), 10);
        Check.same("two of three", x.bestRound(1), 101);
        Check.same("all three", x.bestRound(2), 1012);
        Town.fill(x, 2, REST, 1, 0);
        Check.same("the fullest of three", x.bestRound(0), 12);
        Check.same("it and the first", x.bestRound(1), 102);
    }

    // "of all orders": the smallest number of those that are as long
    private static void ordersWithTheSmallestNumber() {
        BinWard x = Town.at(5, 10, 3);
        for (int i = 0; i < 3; i++) {
            Town.fill(x, i, REST, 5, 0);
        }
        x.lorry(60, REST, PAPER);
        Check.same("3 on the way back", x.bestRound(0), 1012);
        BinWard y = Town.at(10, 5, 3);
        for (int i = 0; i < 3; i++) {
            Town.fill(y, i, REST, 5, 0);
        }
        y.lorry(60, REST, PAPER);
        Check.same("both on the way back", y.bestRound(0), 1012);
        BinWard z = Town.at(3, 5, 10, 4);
        for (int i = 0; i < 4; i++) {
            Town.fill(z, i, REST, 5, 0);
        }
        z.lorry(60, REST, PAPER);
        Check.same("4 on the way back", z.bestRound(0), 10123);
        BinWard w = Town.at(5, 3, 10, 4);
        for (int i = 0; i < 4; i++) {
            Town.fill(w, i, REST, 5, 0);
        }
        w.lorry(60, REST, PAPER);
        Check.same("5 on the way there, 4 and 3 not in the order 1, 3", w.bestRound(0), 10231);
    }

    // "the smallest number": one STREET of as many kilos and minutes is less than two
    private static void fewerDigitsAreSmaller() {
        BinWard x = Town.at(4, 4, 5);
        Town.fill(x, 0, REST, 5, 0);
        Town.fill(x, 1, REST, 5, 0);
        Town.fill(x, 2, REST, 10, 0);
        x.lorry(12, REST, PAPER);
        Check.same("10 in 12 minutes", x.bestFetch(0), 10);
        Check.same("12, not 101", x.bestRound(0), 12);
    }

    // "as digits behind a 1"
    private static void digitsBehindAOne() {
        BinWard x = Town.at(6, 5, 4, 3, 2, 1);
        for (int i = 0; i < 6; i++) {
            Town.fill(x, i, REST, 5, 0);
        }
        x.lorry(24, REST, PAPER);
        x.lorry(23, REST, PAPER);
        Check.same("all six in 24", x.bestRound(0), 1012345);
        Check.same("their kilos", x.bestFetch(0), 30);
        Check.same("five in 23", x.bestFetch(1), 25);
        Check.same("without the far one they are shorter", x.bestRound(1), 112345);
        BinWard y = Town.at(1, 2, 3, 4, 5, 6);
        for (int i = 0; i < 6; i++) {
            Town.fill(y, i, REST, 5, 0);
        }
        y.lorry(24, REST, PAPER);
        Check.same("the other way", y.bestRound(0), 1012345);
    }

    // "it would fetch now ..., with BINS as they are": whatever ROUNDS are told
    private static void bestIsNow() {
        BinWard x = Town.at(1, 2);
        x.habit(0, REST, 9);
        x.habit(1, REST, 9);
        x.lorry(60, REST, REST);
        Check.same("not with what comes", x.bestFetch(0), 0);
        x.pass(1);
        x.round(0, 2, 0);
        Check.same("though its round has one street", x.bestFetch(0), 18);
        x.pass(1);
        Check.same("the other one's bin alone", x.bestFetch(0), 18);
        Check.same("it is", x.bestRound(0), 11);
    }

    // Promise 25: "IllegalArgumentException if days is not 1 to 30"
    private static void wouldLieIsOneToThirty() {
        BinWard x = Town.at(1);
        Town.fill(x, 0, REST, 60, 0);
        x.habit(0, REST, 2);
        Check.argument("0", x, () -> x.wouldLie(0));
        Check.argument("-1", x, () -> x.wouldLie(-1));
        Check.argument("31", x, () -> x.wouldLie(31));
        Check.argument("the least", x, () -> x.wouldLie(Integer.MIN_VALUE));
        Check.argument("the greatest", x, () -> x.wouldLie(Integer.MAX_VALUE));
        Check.same("1", x.wouldLie(1), 2);
        Check.same("30", x.wouldLie(30), 60);
        BinWard none = new BinWard();
        Check.argument("0 without a street", none, () -> none.wouldLie(0));
    }

    // "in all STREETS": 0 without any
    private static void wouldLieWithoutStreets() {
        BinWard x = new BinWard();
        x.lorry(60, REST, REST);
        Check.same("1 day", x.wouldLie(1), 0);
        Check.same("30 days", x.wouldLie(30), 0);
    }

    // "that there would be in all STREETS then": what lies there stays
    private static void wouldLieFromWhatLies() {
        BinWard x = Town.at(1, 2);
        x.habit(0, PAPER, 9);
        x.habit(1, GREEN, 9);
        x.pass(7);
        x.habit(0, PAPER, 0);
        x.habit(1, GREEN, 0);
        Check.same("3 and 3", x.wouldLie(30), 6);
        x.habit(1, GREEN, 1);
        Check.same("3 and 4", x.wouldLie(1), 7);
        x.sweep(0);
        Check.same("4", x.wouldLie(1), 4);
        Check.same("33", x.wouldLie(30), 33);
        x.habit(1, REST, 9);
        Check.same("an empty bin takes 6 days of it", x.wouldLie(6), 3 + 6);
        Check.same("and 6 of the seventh", x.wouldLie(7), 3 + 7 + 3);
    }

    // "if all went on as told": each ROUND on its day
    private static void wouldLieByTheDayOfTheWeek() {
        for (int weekday = 0; weekday < 7; weekday++) {
            BinWard x = Town.at(1);
            Town.fill(x, 0, REST, 60, 0);
            Check.same("NOW", x.many(0), 7);
            x.habit(0, REST, 1);
            x.lorry(60, REST, REST);
            x.round(0, weekday, 0);
            int first = weekday == 0 ? 7 : weekday;
            Check.same("before it comes on the day " + weekday, x.wouldLie(Math.max(1, first - 1)),
                Math.max(1, first - 1));
            Check.same("it comes when the kilo of that day lies", x.wouldLie(first), first);
            Check.same("then the bin has room", x.wouldLie(30), first);
        }
    }

    // the same: the SHIFT and the CHAMBERS count
    private static void wouldLieWithHalfAndMissed() {
        BinWard x = Town.at(4, 5);
        Town.fill(x, 0, REST, 60, 0);
        Town.fill(x, 1, REST, 60, 0);
        x.habit(0, REST, 1);
        x.habit(1, REST, 1);
        Town.daily(x, 13, REST, REST, 0, 1);
        Check.same("the second street is missed", x.wouldLie(30), 1 + 30);
        BinWard y = Town.at(1, 1, 1);
        for (int i = 0; i < 3; i++) {
            Town.fill(y, i, REST, 60, 0);
            y.habit(i, REST, 9);
            y.pass(1);
            y.habit(i, REST, 0);
            y.sweep(i);
        }
        y.habit(2, REST, 9);
        y.lorry(60, REST, PAPER);
        int next = (y.many(0) + 1) % 7;
        for (int i = 0; i < 3; i++) {
            y.round(0, next, i);
        }
        // 9 have no room before the round, 30 are left behind it: room for three days and 3 kilos
        Check.same("one day", y.wouldLie(1), 9);
        Check.same("four days", y.wouldLie(4), 9);
        Check.same("five days", y.wouldLie(5), 9 + 6);
    }

    // "the LITTER that there would be ... then"
    private static void wouldLieIsWhatComes() {
        for (int days = 1; days <= 30; days++) {
            BinWard x = mixed();
            int due = x.wouldLie(days);
            x.pass(days);
            Check.same("wouldLie(" + days + ")", due, x.many(17));
        }
    }

    private static BinWard mixed() {
        BinWard x = Town.at(2, 11, 29, 29, 7, 16);
        for (int i = 0; i < 6; i++) {
            x.dirt(i, i % 5);
            for (int stream = 0; stream < 3; stream++) {
                x.habit(i, stream, 9 - (i + stream) % 5);
            }
        }
        x.lorry(70, REST, PAPER);
        x.lorry(64, GREEN, GREEN);
        x.lorry(120, PAPER, REST);
        for (int day = 0; day < 7; day++) {
            x.round(day % 3, day, day % 6);
            x.round(day % 3, day, (day + 2) % 6);
            x.round(day % 3, day, (day + 3) % 6);
        }
        x.pass(10);
        return x;
    }

    // Promise 26: "A number d starts with 4812"
    private static void digestOfANewCity() {
        BinWard x = new BinWard();
        BigInteger d = BigInteger.valueOf(4812);
        for (int i = 0; i < 22; i++) {
            d = d.multiply(BigInteger.valueOf(31));
        }
        Check.same("18 and 3 and 1 times 31, and nothing more", x.digest(), d.longValue());
        x.street(1, 0);
        Check.no("a street changes it", x.digest() == d.longValue());
    }

    // "d becomes d * 31 + v, which wraps around as a 64-bit integer"
    private static void digestWrapsAround() {
        BinWard x = mixed();
        boolean below = false;
        boolean above = false;
        for (int i = 0; i < 12; i++) {
            BigInteger d = exact(x);
            Check.yes("beyond 64 bits", d.bitLength() > 64);
            Check.same("digest", x.digest(), d.longValue());
            below |= x.digest() < 0;
            above |= x.digest() > 0;
            if (x.many(3) > 1 && x.ofBale(1, 2) == 0) {
                x.sell(1, 0, 1);
            }
            x.claim(2, i);
            x.pass(1);
        }
        Check.yes("some below 0", below);
        Check.yes("some above 0", above);
        Check.yes("with a bale", x.many(3) > 1);
    }

    private static BigInteger exact(BinWard x) {
        BigInteger d = BigInteger.valueOf(4812);
        for (int what = 0; what <= 17; what++) {
            d = then(d, x.many(what));
        }
        for (int rule = 0; rule <= 2; rule++) {
            d = then(d, x.rate(rule));
        }
        for (int street = 0; street < 6; street++) {
            for (int what = 0; what <= 12; what++) {
                d = then(d, x.ofStreet(street, what));
            }
            for (int stream = 0; stream <= 2; stream++) {
                d = then(d, x.fullIn(street, stream));
            }
        }
        for (int lorry = 0; lorry < 3; lorry++) {
            for (int what = 0; what <= 6; what++) {
                d = then(d, x.ofLorry(lorry, what));
            }
            d = then(d, x.bestFetch(lorry));
            d = then(d, x.bestRound(lorry));
        }
        for (int bale = 0; bale < x.many(3); bale++) {
            for (int what = 0; what <= 3; what++) {
                d = then(d, x.ofBale(bale, what));
            }
        }
        return then(d, x.wouldLie(3));
    }

    private static BigInteger then(BigInteger d, int v) {
        return d.multiply(BigInteger.valueOf(31)).add(BigInteger.valueOf(v));
    }

    // "---- what would be (nothing is changed)"
    private static void wouldBeChangesNothing() {
        BinWard x = mixed();
        BinWard y = mixed();
        for (int lorry = 0; lorry < 3; lorry++) {
            x.bestFetch(lorry);
            x.bestRound(lorry);
        }
        for (int days = 1; days <= 30; days++) {
            x.wouldLie(days);
        }
        for (int street = 0; street < 6; street++) {
            for (int stream = 0; stream < 3; stream++) {
                x.fullIn(street, stream);
            }
        }
        x.digest();
        for (int day = 0; day < 14; day++) {
            Check.same("fetched", x.pass(1), y.pass(1));
            Check.same("digest", x.digest(), y.digest());
        }
        for (int day = 0; day <= 24; day++) {
            Check.same("claim", x.claim(2, day) ? 1 : 0, y.claim(2, day) ? 1 : 0);
        }
        Check.same("digest with claims", x.digest(), y.digest());
    }
}
