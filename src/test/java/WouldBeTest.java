/** Promises 22 to 26: what would be. */
public final class WouldBeTest {
    public static void main(String[] args) {
        fullIn();
        bestFetch();
        bestRound();
        bestOfSeveral();
        bestOfOneStream();
        wouldLie();
        wouldLieIfMissed();
        digest();
        Check.end();
    }

    // Promise 22
    private static void fullIn() {
        BinWard x = new BinWard();
        Check.index("no street", x, () -> x.fullIn(0, 0));
        x.street(1, 4);
        Check.index("street -1", x, () -> x.fullIn(-1, 0));
        Check.index("street 1", x, () -> x.fullIn(1, 0));
        Check.index("stream -1", x, () -> x.fullIn(0, -1));
        Check.index("stream 3", x, () -> x.fullIn(0, 3));
        Check.same("never", x.fullIn(0, 0), -1);
        x.habit(0, 0, 1);
        x.habit(0, 1, 9);
        x.habit(0, 2, 6);
        Check.same("1 a day", x.fullIn(0, 0), 60);
        Check.same("9 a day", x.fullIn(0, 1), 7);
        Check.same("6 a day", x.fullIn(0, 2), 10);
        x.pass(6);
        Check.same("54 days more", x.fullIn(0, 0), 54);
        Check.same("dirty kilos count, too", x.fullIn(0, 1), 1);
        x.pass(1);
        Check.same("full", x.fullIn(0, 1), 0);
        x.pass(30);
        x.pass(22);
        Check.same("room for 1", x.fullIn(0, 0), 1);
        x.pass(1);
        Check.same("room for none", x.fullIn(0, 0), 0);
        x.lorry(10, 2, 2);
        x.round(0, 5, 0);
        x.pass(1);
        Check.same("fetched just now", x.fullIn(0, 2), 10);
        x.habit(0, 1, 0);
        Check.same("full without a habit", x.fullIn(0, 1), 0);
        x.habit(0, 2, 0);
        Check.same("not full without a habit", x.fullIn(0, 2), -1);
        Check.same("the others stay", x.fullIn(0, 0), 0);
        long before = x.digest();
        x.fullIn(0, 0);
        Check.same("nothing is changed", x.digest(), before);
    }

    // Promise 23
    private static void bestFetch() {
        BinWard x = new BinWard();
        Check.index("no lorry", x, () -> x.bestFetch(0));
        x.lorry(20, 0, 1);
        Check.index("lorry -1", x, () -> x.bestFetch(-1));
        Check.index("lorry 1", x, () -> x.bestFetch(1));
        Check.same("no street", x.bestFetch(0), 0);
        x.street(9, 0);
        x.street(4, 0);
        x.street(3, 4);
        Check.same("nothing in the bins", x.bestFetch(0), 0);
        x.habit(0, 0, 7);
        x.habit(1, 0, 3);
        x.habit(2, 1, 3);
        x.habit(2, 2, 9);
        x.pass(1);
        // the far one alone takes 20 minutes; both near ones 12
        Check.same("the far one", x.bestFetch(0), 7);
        x.pass(1);
        x.habit(0, 0, 0);
        x.habit(1, 0, 8);
        x.pass(1);
        Check.same("both near ones", x.bestFetch(0), 14 + 9);
    }

    // Promise 24
    private static void bestRound() {
        BinWard x = new BinWard();
        Check.index("no lorry", x, () -> x.bestRound(0));
        x.lorry(120, 0, 1);
        x.lorry(10, 2, 2);
        Check.index("lorry -1", x, () -> x.bestRound(-1));
        Check.index("lorry 2", x, () -> x.bestRound(2));
        Check.same("no street", x.bestRound(0), 1);
        x.street(10, 0);
        x.street(20, 0);
        x.street(5, 0);
        Check.same("nothing to fetch", x.bestRound(0), 1);
        x.habit(0, 0, 1);
        x.habit(1, 0, 1);
        x.habit(2, 2, 9);
        x.pass(1);
        Check.same("no way by a street with nothing for it", x.bestRound(0), 101);
        x.habit(2, 1, 1);
        x.pass(1);
        // out over 10 to 20, back over 5: as short as 5, 10, 20
        Check.same("the smallest of the shortest", x.bestRound(0), 1012);
        Check.same("5 is too far for 10 minutes", x.bestRound(1), 1);
        Check.same("and fetches nothing", x.bestFetch(1), 0);
        x.street(4, 0);
        x.habit(3, 2, 1);
        x.pass(1);
        Check.same("4 is not", x.bestRound(1), 13);
        Check.same("and fetches 1", x.bestFetch(1), 1);
    }

    private static void bestOfSeveral() {
        BinWard x = new BinWard();
        int[] places = {10, 5, 8, 3};
        for (int i = 0; i < 4; i++) {
            x.street(places[i], 0);
            x.habit(i, 0, i == 0 ? 9 : 1);
        }
        x.lorry(27, 0, 1);
        x.lorry(25, 0, 1);
        x.lorry(23, 0, 1);
        x.pass(1);
        // the far one and any two others take 26 minutes: 1021, 1013 or 1023
        Check.same("the smallest number", x.bestRound(0), 1013);
        Check.same("its kilos", x.bestFetch(0), 11);
        Check.same("the far one and another one take 24", x.bestRound(1), 101);
        Check.same("its kilos", x.bestFetch(1), 10);
        Check.same("the far one alone takes 22", x.bestRound(2), 10);
        Check.same("its kilos", x.bestFetch(2), 9);
        x.habit(2, 1, 9);
        x.habit(3, 1, 9);
        x.pass(1);
        // 8 and 3, with 5 on the way: 22 minutes as well, and 24 kilos
        Check.same("without the far one", x.bestRound(2), 1123);
        Check.same("its kilos", x.bestFetch(2), 24);

        BinWard y = new BinWard();
        y.lorry(120, 0, 0);
        for (int i = 0; i < 6; i++) {
            y.street(1 + i, 0);
            y.habit(i, 0, 9);
        }
        y.pass(1);
        Check.same("all six", y.bestRound(0), 1012345);
        Check.same("their kilos", y.bestFetch(0), 54);
    }

    private static void bestOfOneStream() {
        BinWard x = new BinWard();
        for (int i = 0; i < 6; i++) {
            x.street(30 - i, 0);
            x.habit(i, 0, 9);
            x.habit(i, 1, 9);
        }
        x.pass(7);
        x.lorry(120, 0, 0);
        x.lorry(120, 0, 1);
        x.lorry(120, 2, 2);
        // 5 of 6 bins fill both chambers: without the farthest one it is shorter
        Check.same("300", x.bestFetch(0), 300);
        Check.same("the five near ones", x.bestRound(0), 112345);
        // 3 of 6 bins of each stream: 2 and a half fill a chamber
        Check.same("150 of each", x.bestFetch(1), 300);
        Check.same("the three near ones", x.bestRound(1), 1345);
        Check.same("nothing", x.bestRound(2), 1);
        Check.same("nothing", x.bestFetch(2), 0);
        x.habit(0, 2, 1);
        x.pass(1);
        Check.same("the far one", x.bestRound(2), 10);
    }

    // Promise 25
    private static void wouldLie() {
        BinWard x = new BinWard();
        Check.argument("days 0", x, () -> x.wouldLie(0));
        Check.argument("days -1", x, () -> x.wouldLie(-1));
        Check.argument("days 31", x, () -> x.wouldLie(31));
        Check.same("no street", x.wouldLie(30), 0);
        x.street(1, 4);
        x.street(2, 3);
        for (int stream = 0; stream < 3; stream++) {
            x.habit(0, stream, 9);
            x.habit(1, stream, 7 + stream);
        }
        x.lorry(11, 0, 1);
        x.round(0, 4, 0);
        x.round(0, 4, 1);
        x.lorry(10, 2, 2);
        x.round(1, 1, 1);
        x.pass(3);
        for (int days = 1; days <= 30; days++) {
            long before = x.digest();
            int due = litterAfter(x.many(0), days);
            Check.same("wouldLie(" + days + ")", x.wouldLie(days), due);
            Check.same("nothing is changed", x.digest(), before);
        }
        int due = x.wouldLie(30);
        x.pass(30);
        Check.same("as it was foretold", x.many(17), due);
        x.sweep(0);
        Check.same("from the litter that lies", x.wouldLie(1), x.many(17) + litterOfOneDay(x));
    }

    private static void wouldLieIfMissed() {
        BinWard x = new BinWard();
        x.street(8, 0);
        x.street(9, 0);
        x.habit(0, 0, 9);
        x.habit(1, 0, 9);
        x.lorry(18, 0, 0);
        for (int day = 0; day < 7; day++) {
            x.round(0, day, 0);
            x.round(0, day, 1);
        }
        Check.same("the far street is missed", x.wouldLie(7), 3);
        x.pass(30);
        Check.same("so it was", x.many(17), 210);
        Check.same("30 days more", x.wouldLie(30), 480);
    }

    /** The same city as in wouldLie(), lived from its beginning to the day asked for. */
    private static int litterAfter(int now, int days) {
        BinWard y = new BinWard();
        y.street(1, 4);
        y.street(2, 3);
        for (int stream = 0; stream < 3; stream++) {
            y.habit(0, stream, 9);
            y.habit(1, stream, 7 + stream);
        }
        y.lorry(11, 0, 1);
        y.round(0, 4, 0);
        y.round(0, 4, 1);
        y.lorry(10, 2, 2);
        y.round(1, 1, 1);
        for (int i = 0; i < now + days; i++) {
            y.pass(1);
        }
        return y.many(17);
    }

    private static int litterOfOneDay(BinWard x) {
        // what of the habits has no room in the bins
        int sum = 0;
        for (int street = 0; street < 2; street++) {
            for (int stream = 0; stream < 3; stream++) {
                int dirty = stream == 0 ? 0 : x.ofStreet(street, 8 + stream);
                int room = 60 - x.ofStreet(street, 6 + stream) - dirty;
                sum += Math.max(0, x.ofStreet(street, 3 + stream) - room);
            }
        }
        return sum;
    }

    // Promise 26
    private static void digest() {
        BinWard x = new BinWard();
        Check.same("of a new city", x.digest(), 7970081607338734028L);
        x.street(3, 4);
        x.street(8, 1);
        x.habit(0, 1, 9);
        x.habit(1, 0, 9);
        x.habit(1, 2, 9);
        x.lorry(30, 1, 0);
        x.lorry(30, 2, 1);
        x.round(0, 0, 0);
        x.round(0, 0, 1);
        x.round(1, 3, 1);
        x.round(1, 3, 0);
        Check.same("with streets and lorries", x.digest(), byHand(x));
        x.pass(30);
        Check.same("with bales", x.digest(), byHand(x));
        Check.yes("there are bales", x.many(3) > 1);
        x.sell(0, 0, 5);
        x.claim(0, 3);
        Check.same("after a sale", x.digest(), byHand(x));
        Check.same("twice the same", x.digest(), x.digest());
        x.clear(0, 0);
        x.clear(1, 3);
        x.pass(20);
        Check.yes("litter grows", x.wouldLie(2) < x.wouldLie(3) && x.wouldLie(3) < x.wouldLie(4));
        Check.same("with litter", x.digest(), byHand(x));
    }

    private static long byHand(BinWard x) {
        long d = 4812;
        for (int what = 0; what <= 17; what++) {
            d = d * 31 + x.many(what);
        }
        for (int rule = 0; rule <= 2; rule++) {
            d = d * 31 + x.rate(rule);
        }
        for (int street = 0; street < 2; street++) {
            for (int what = 0; what <= 12; what++) {
                d = d * 31 + x.ofStreet(street, what);
            }
            for (int stream = 0; stream <= 2; stream++) {
                d = d * 31 + x.fullIn(street, stream);
            }
        }
        for (int lorry = 0; lorry < 2; lorry++) {
            for (int what = 0; what <= 6; what++) {
                d = d * 31 + x.ofLorry(lorry, what);
            }
            d = d * 31 + x.bestFetch(lorry);
            d = d * 31 + x.bestRound(lorry);
        }
        for (int bale = 0; bale < x.many(3); bale++) {
            for (int what = 0; what <= 3; what++) {
                d = d * 31 + x.ofBale(bale, what);
            }
        }
        return d * 31 + x.wouldLie(3);
    }
}
