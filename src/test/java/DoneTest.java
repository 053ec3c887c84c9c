/** Promises 11 to 15: what is done, and the terms of a day (sections 1 to 4). */
public final class DoneTest {
    public static void main(String[] args) {
        passRefuses();
        binsFill();
        roundsEndWithTheShift();
        chambersFill();
        halfForOneKilo();
        restGoesToTheOven();
        loadsShareTheOven();
        paperGoesThroughTheLine();
        handIsPerDay();
        noMoreThanTwentyBales();
        heapRipens();
        pitGivesGas();
        sells();
        opens();
        sweeps();
        claims();
        eachDayAndStreetByItself();
        Check.end();
    }

    // Promise 11
    private static void passRefuses() {
        BinWard x = new BinWard();
        Check.argument("pass(0)", x, () -> x.pass(0));
        Check.argument("pass(-1)", x, () -> x.pass(-1));
        Check.argument("pass(31)", x, () -> x.pass(31));
        Check.same("pass(30)", x.pass(30), 0);
        Check.same("now", x.many(0), 30);
        Check.same("pass(1)", x.pass(1), 0);
        Check.same("now", x.many(0), 31);
    }

    private static void binsFill() {
        BinWard x = new BinWard();
        x.street(2, 4);
        x.habit(0, 1, 8);
        x.pass(7);
        // each day 5 clean and 3 dirty: 56 in the bin, 4 more have room
        Check.same("clean", x.ofStreet(0, 7), 35);
        Check.same("dirty", x.ofStreet(0, 9), 21);
        x.pass(1);
        Check.same("clean comes in first", x.ofStreet(0, 7), 39);
        Check.same("no dirty has room", x.ofStreet(0, 9), 21);
        Check.same("the others are litter", x.ofStreet(0, 2), 4);
        x.pass(2);
        Check.same("all is litter", x.ofStreet(0, 2), 20);
        Check.same("litter of all", x.many(17), 20);
        Check.same("litter costs nothing where it lies", x.many(15), 0);

        BinWard y = new BinWard();
        y.street(2, 4);
        y.habit(0, 2, 3);
        y.pass(1);
        y.habit(0, 2, 9);
        y.pass(6);
        // 1 dirty of 3, then 3 of 9: 57 in the bin; of the next 3 + 2 only 3 clean have room
        y.habit(0, 2, 5);
        y.pass(1);
        Check.same("green clean", y.ofStreet(0, 8), 41);
        Check.same("green dirty", y.ofStreet(0, 10), 19);
        Check.same("green litter", y.ofStreet(0, 2), 2);
    }

    private static void roundsEndWithTheShift() {
        BinWard x = new BinWard();
        x.street(4, 0);
        x.street(20, 0);
        x.street(3, 0);
        for (int i = 0; i < 3; i++) {
            x.habit(i, 0, 1);
        }
        x.lorry(10, 0, 0);
        // to the place 4 and back with 2 for the street: 10 minutes, just within
        x.round(0, 1, 0);
        x.round(0, 1, 1);
        x.round(0, 1, 2);
        Check.same("only the first street is fetched", x.pass(1), 1);
        Check.same("minutes", x.ofLorry(0, 3), 10);
        Check.same("done", x.ofLorry(0, 4), 1);
        Check.same("not missed", x.ofStreet(0, 12), 0);
        Check.same("missed", x.ofStreet(1, 12), 1);
        Check.same("missed behind it, near as it is", x.ofStreet(2, 12), 1);
        x.street(5, 0);
        x.round(0, 2, 3);
        x.round(0, 2, 2);
        Check.same("one minute too far", x.pass(1), 0);
        Check.same("no minutes", x.ofLorry(0, 3), 0);
        Check.same("none done", x.ofLorry(0, 4), 0);
        Check.same("missed both days", x.ofStreet(2, 12), 2);
        x.pass(1);
        Check.same("no round, not missed", x.ofStreet(2, 12), 2);
    }

    private static void chambersFill() {
        BinWard x = new BinWard();
        for (int i = 0; i < 6; i++) {
            x.street(1, 0);
            x.habit(i, 0, 9);
        }
        x.lorry(120, 0, 0);
        x.lorry(120, 2, 0);
        x.pass(7);
        for (int i = 0; i < 6; i++) {
            x.round(0, 1, i);
            x.round(1, 1, i);
        }
        Check.same("300 by the first lorry, 60 by the second", x.pass(1), 360);
        Check.same("300", x.ofLorry(0, 6), 300);
        Check.same("60", x.ofLorry(1, 6), 60);
        Check.same("done", x.ofLorry(0, 4), 6);
        Check.same("half done", x.ofLorry(0, 5), 1);
        Check.same("the second left nothing", x.ofLorry(1, 5), 0);
        Check.same("owes for what both fetched", x.ofStreet(5, 11), 180);

        BinWard y = new BinWard();
        for (int i = 0; i < 3; i++) {
            y.street(1, 4);
            y.habit(i, 1, 9);
        }
        y.lorry(120, 1, 0);
        y.pass(7);
        for (int i = 0; i < 3; i++) {
            y.round(0, 1, i);
        }
        // three bins of 60 with 42 clean, 18 dirty; the one chamber holds 30 of the last one
        Check.same("150 of 180", y.pass(1), 150);
        Check.same("clean goes first", y.ofStreet(2, 7), 12);
        Check.same("dirty stays", y.ofStreet(2, 9), 18);
        Check.same("half done", y.ofLorry(0, 5), 1);
        Check.same("paper is free", y.ofStreet(0, 11), 0);
        Check.same("114 clean, 36 dirty: 21 out, 5 lost", y.many(12), 26);
        y.lorry(10, 1, 1);
        y.round(1, 3, 2);
        Check.same("what was left, and two days more", y.pass(2), 48);
        Check.same("24 clean, 24 dirty: 14 out, 1 lost", y.many(12), 26 + 15);
        y.pass(5);
        Check.same("half done once more", y.ofLorry(0, 5), 1);
        y.clear(0, 1);
        y.round(0, 1, 0);
        y.pass(7);
        Check.same("half done no more", y.ofLorry(0, 5), 0);
    }

    private static void halfForOneKilo() {
        BinWard x = new BinWard();
        for (int i = 0; i < 3; i++) {
            x.street(1, 0);
            x.habit(i, 1, 9);
        }
        x.lorry(20, 0, 1);
        x.habit(2, 1, 0);
        x.pass(6);
        x.habit(2, 1, 9);
        x.pass(3);
        x.habit(2, 1, 4);
        for (int i = 0; i < 3; i++) {
            x.round(0, 3, i);
        }
        // bins of 60, 60 and 31
        Check.same("150 of 151", x.pass(1), 150);
        Check.same("1 is left", x.ofStreet(2, 7), 1);
        Check.same("that is half done", x.ofLorry(0, 5), 1);
        Check.same("all three are done", x.ofLorry(0, 4), 3);
    }

    private static void restGoesToTheOven() {
        BinWard x = new BinWard();
        x.street(1, 0);
        x.habit(0, 0, 9);
        x.lorry(10, 0, 0);
        x.round(0, 0, 0);
        x.pass(7);
        // 60 kilos of REST (one bin), 50 burnt, 12 ash, 10 to the pit
        Check.same("fetched", x.many(16), 60);
        Check.same("burnt", x.many(12), 50);
        Check.same("heat", x.many(14), 150);
        Check.same("ash", x.many(13), 12);
        Check.same("pit", x.many(9), 22);
        Check.same("can rot", x.many(10), 5);
        Check.same("1 for 12 of ash, 1 for 10", x.many(15), -2);
        Check.same("by the rule 2 ash counts", x.rate(2), 20);
        x.oven(200);
        x.pass(7);
        Check.same("all of 60 burnt", x.many(12), 110);
        Check.same("ash of 60", x.many(13), 27);
    }

    private static void loadsShareTheOven() {
        BinWard x = new BinWard();
        x.street(1, 0);
        x.street(1, 0);
        x.street(1, 0);
        x.habit(0, 0, 9);
        x.habit(1, 0, 9);
        x.habit(2, 0, 9);
        for (int i = 0; i < 3; i++) {
            x.lorry(10, 0, 0);
            x.round(i, 3, i);
        }
        x.oven(60);
        x.pass(3);
        // loads of 27, 27, 27: 27, 27, 6 burnt: 6, 6, 1 ash
        Check.same("burnt", x.many(12), 60);
        Check.same("ash of each load", x.many(13), 13);
        Check.same("pit", x.many(9), 13 + 21);
        Check.same("can rot", x.many(10), 10);
        Check.same("each by itself: only 21 costs", x.many(15), -2);
    }

    private static void paperGoesThroughTheLine() {
        BinWard x = new BinWard();
        x.street(1, 4);
        x.street(1, 4);
        x.habit(0, 1, 9);
        x.habit(1, 1, 9);
        x.lorry(20, 1, 0);
        x.round(0, 4, 0);
        x.round(0, 4, 1);
        x.hand(3);
        Check.same("two streets of 4 days of 9", x.pass(4), 72);
        // 48 clean, 24 dirty: 14 out, 3 by hand, 2 lost; 46 clean and 7 dirty come to the baler
        Check.same("a bale", x.many(3), 1);
        Check.same("its dirty", x.ofBale(0, 1), 5);
        Check.same("its clean", x.ofBale(0, 0), 35);
        Check.same("its day", x.ofBale(0, 3), 4);
        Check.same("stored", x.ofBale(0, 2), 0);
        Check.same("clean left", x.many(1), 11);
        Check.same("dirty left", x.many(2), 2);
        // 19 are REST: burnt, 4 ash
        Check.same("burnt of the paper", x.many(12), 19);
        Check.same("its ash", x.many(13), 4);

        BinWard y = new BinWard();
        y.street(1, 0);
        y.habit(0, 1, 8);
        y.lorry(10, 1, 1);
        y.round(0, 5, 0);
        y.pass(5);
        Check.same("38 make no bale", y.many(3), 0);
        y.pass(7);
        // 56 more come, 2 of them are lost: 92
        Check.same("two bales at once", y.many(3), 2);
        Check.same("12 are left", y.many(1), 12);
        Check.same("LOST is burnt", y.many(12), 4);

        BinWard z = new BinWard();
        z.street(1, 0);
        z.habit(0, 1, 6);
        z.lorry(10, 1, 1);
        z.round(0, 0, 0);
        z.pass(7);
        Check.same("just 40 make a bale", z.many(3), 1);
        Check.same("none is left", z.many(1), 0);

        BinWard w = new BinWard();
        w.street(1, 0);
        w.street(1, 0);
        w.habit(0, 1, 9);
        w.habit(1, 1, 3);
        w.lorry(20, 1, 0);
        w.pass(12);
        w.round(0, 6, 0);
        w.round(0, 6, 1);
        w.pass(1);
        Check.same("5 of 100 of 99, rounded down", w.many(12), 4);
    }

    private static void handIsPerDay() {
        BinWard x = new BinWard();
        x.street(1, 4);
        x.street(1, 4);
        x.habit(0, 1, 5);
        x.habit(1, 1, 5);
        x.lorry(10, 0, 1);
        x.lorry(10, 1, 1);
        for (int day = 0; day < 7; day++) {
            x.round(0, day, 0);
            x.round(1, day, 1);
        }
        x.eye(0);
        x.hand(3);
        x.pass(1);
        // two loads of 3 clean and 2 dirty: 2, then 1 by hand
        Check.same("dirty left of a day", x.many(2), 1);
        x.pass(1);
        Check.same("the hand works anew", x.many(2), 2);
        x.hand(50);
        x.pass(1);
        Check.same("no more than there is", x.many(2), 2);
        x.eye(50);
        x.pass(1);
        Check.same("nor than the eye left", x.many(2), 2);
        Check.same("each dirty kilo is burnt once", x.many(12), 3 + 3 + 4 + 4);
    }

    private static void noMoreThanTwentyBales() {
        BinWard x = new BinWard();
        for (int i = 0; i < 6; i++) {
            x.street(1, 0);
            x.habit(i, 1, 9);
        }
        x.lorry(120, 1, 1);
        for (int day = 0; day < 7; day++) {
            for (int i = 0; i < 6; i++) {
                x.round(0, day, i);
            }
        }
        x.pass(30);
        // 54 a day, 2 of them are lost: 1560 are 39 bales
        Check.same("20 bales", x.many(3), 20);
        Check.same("what is more stays", x.many(1), 1560 - 800);
        Check.index("no bale 20", x, () -> x.ofBale(20, 0));
        x.sell(0, 0, 99);
        x.pass(1);
        Check.same("no more ever", x.many(3), 20);
        Check.same("stored", x.many(4), 19);
    }

    private static void heapRipens() {
        BinWard x = new BinWard();
        x.street(1, 2);
        x.habit(0, 2, 9);
        x.lorry(10, 0, 2);
        x.round(0, 6, 0);
        x.pass(6);
        // 48 clean, 6 dirty; of 48 are 5 gone, 2 compost
        Check.same("heap clean", x.many(5), 41);
        Check.same("heap dirty", x.many(6), 6);
        Check.same("compost", x.many(7), 2);
        Check.same("gone", x.many(8), 5);
        Check.same("owes 1 for each kilo", x.ofStreet(0, 11), 54);
        Check.same("all is true by the rule 0", x.rate(0), 100);
        Check.same("2 of 54 by the rule 1", x.rate(1), 3);
        x.pass(1);
        Check.same("heap clean, a day on", x.many(5), 34);
        Check.same("dirty stays", x.many(6), 6);
        Check.same("gone 5 more", x.many(8), 10);

        BinWard y = new BinWard();
        y.street(1, 0);
        y.habit(0, 2, 1);
        y.lorry(10, 2, 2);
        y.round(0, 1, 0);
        y.pass(1);
        Check.same("a tenth of 1, rounded up", y.many(8), 1);
        Check.same("none is left", y.many(5), 0);
        Check.same("a twentieth of 1, rounded down", y.many(7), 0);

        BinWard z = new BinWard();
        z.street(1, 0);
        z.habit(0, 2, 9);
        z.lorry(10, 2, 2);
        z.round(0, 2, 0);
        z.pass(1);
        z.habit(0, 2, 1);
        z.pass(1);
        Check.same("10 less 1", z.many(5), 9);
        Check.same("gone of 10", z.many(8), 1);
        z.habit(0, 2, 2);
        z.pass(5);
        z.clear(0, 2);
        z.round(0, 1, 0);
        z.habit(0, 2, 5);
        z.pass(1);
        // 9, 8, 7, 6, 5, 4 by a tenth, rounded up; 15 come to them: 19
        Check.same("a twentieth of 19", z.many(7), 0);
        Check.same("a tenth of 19", z.many(5), 17);
    }

    private static void pitGivesGas() {
        BinWard x = new BinWard();
        for (int i = 0; i < 2; i++) {
            x.street(1, 0);
            x.habit(i, 0, 9);
        }
        x.lorry(20, 0, 0);
        x.round(0, 0, 0);
        x.round(0, 0, 1);
        x.oven(0);
        x.pass(7);
        // 120 come into the pit, 60 of them can rot: 1 is gas at once
        Check.same("gas", x.many(11), 1);
        Check.same("pit", x.many(9), 119);
        Check.same("can rot", x.many(10), 59);
        Check.same("cost", x.many(15), -12);
        x.pass(6);
        Check.same("1 a day", x.many(11), 7);
        Check.same("pit", x.many(9), 113);
        Check.same("can rot", x.many(10), 53);
        x.clear(0, 0);
        x.pass(30);
        Check.same("49 give no more", x.many(10), 49);
        Check.same("gas", x.many(11), 11);
    }

    // Promise 12
    private static void sells() {
        BinWard x = cityWithBales();
        Check.index("bale -1", x, () -> x.sell(-1, 0, 1));
        Check.index("bale 20 before a wrong limit", x, () -> x.sell(20, 41, 1));
        Check.argument("limit -1", x, () -> x.sell(0, -1, 1));
        Check.argument("limit 41", x, () -> x.sell(0, 41, 1));
        Check.argument("price 0", x, () -> x.sell(0, 0, 0));
        Check.argument("price 100", x, () -> x.sell(0, 0, 100));
        int dirty = x.ofBale(0, 1);
        int money = x.many(15);
        Check.yes("the bale has dirty kilos", dirty > 0);
        Check.yes("just enough", x.sell(0, dirty, 99));
        Check.same("sold", x.ofBale(0, 2), 1);
        Check.same("for its price", x.many(15), money + 99);
        Check.no("one too many", x.sell(1, x.ofBale(1, 1) - 1, 1));
        Check.same("back", x.ofBale(1, 2), 2);
        Check.same("that costs 15", x.many(15), money + 84);
        Check.yes("a limit of 40", x.sell(2, 40, 1));
        Check.same("for 1", x.many(15), money + 85);
        Check.state("sold already", x, () -> x.sell(0, 40, 1));
        Check.state("back already", x, () -> x.sell(1, 40, 1));
        x.open(1);
        Check.state("opened already", x, () -> x.sell(1, 40, 1));
        Check.argument("a wrong limit of a sold bale", x, () -> x.sell(0, 41, 1));
        Check.argument("a wrong price of a sold bale", x, () -> x.sell(0, 40, 100));
    }

    // Promise 13
    private static void opens() {
        BinWard x = cityWithBales();
        Check.index("bale -1", x, () -> x.open(-1));
        Check.index("no such bale", x, () -> x.open(x.many(3)));
        Check.state("stored", x, () -> x.open(0));
        x.sell(0, 40, 1);
        Check.state("sold", x, () -> x.open(0));
        x.sell(1, 0, 1);
        int made = x.many(3);
        int clean = x.many(1);
        int dirty = x.many(2);
        int itsClean = x.ofBale(1, 0);
        int itsDirty = x.ofBale(1, 1);
        int itsDay = x.ofBale(1, 3);
        Check.same("all in the baler", x.open(1), clean + dirty + 40);
        Check.same("clean", x.many(1), clean + itsClean);
        Check.same("dirty", x.many(2), dirty + itsDirty);
        Check.same("no bale is made at once", x.many(3), made);
        Check.same("no clean left in it", x.ofBale(1, 0), 0);
        Check.same("no dirty left in it", x.ofBale(1, 1), 0);
        Check.same("its state", x.ofBale(1, 2), 3);
        Check.same("its day stays", x.ofBale(1, 3), itsDay);
        Check.state("opened", x, () -> x.open(1));
        x.clear(0, 0);
        x.pass(7);
        Check.same("no bale is made without a load", x.many(3), made);
        x.round(0, 0, 0);
        x.pass(7);
        Check.yes("but behind the next load of paper", x.many(3) > made);
    }

    // Promise 14
    private static void sweeps() {
        BinWard x = new BinWard();
        Check.index("no street", x, () -> x.sweep(0));
        x.street(2, 0);
        x.street(3, 0);
        x.habit(0, 0, 9);
        x.habit(1, 0, 9);
        x.pass(9);
        Check.index("street -1", x, () -> x.sweep(-1));
        Check.index("street 2", x, () -> x.sweep(2));
        Check.same("litter", x.sweep(0), 21);
        Check.same("none is left", x.ofStreet(0, 2), 0);
        Check.same("that of the other stays", x.ofStreet(1, 2), 21);
        Check.same("it goes to the pit", x.many(9), 21);
        Check.same("a half can rot, rounded down", x.many(10), 10);
        Check.same("it costs", x.many(15), -2);
        Check.same("nothing to sweep", x.sweep(0), 0);
        Check.same("costs nothing", x.many(15), -2);
        Check.same("it is not fetched", x.many(16), 0);
        Check.same("nor owed", x.ofStreet(0, 11), 0);
    }

    // Promise 15
    private static void claims() {
        BinWard x = new BinWard();
        Check.index("no street", x, () -> x.claim(0, 0));
        x.street(20, 0);
        x.street(1, 0);
        x.lorry(10, 0, 0);
        x.lorry(10, 1, 1);
        x.round(0, 1, 0);
        x.round(1, 1, 0);
        x.round(1, 1, 1);
        Check.index("street -1 before a wrong day", x, () -> x.claim(-1, 1));
        Check.index("street 2 before a wrong day", x, () -> x.claim(2, -1));
        Check.argument("day -1", x, () -> x.claim(0, -1));
        Check.argument("a day to come", x, () -> x.claim(0, 1));
        Check.no("the day 0", x.claim(0, 0));
        Check.state("again, though it was not right", x, () -> x.claim(0, 0));
        x.pass(9);
        Check.same("missed by two lorries on the days 1 and 8", x.ofStreet(0, 12), 2);
        Check.yes("day 1", x.claim(0, 1));
        Check.same("2 less", x.ofStreet(0, 11), -2);
        Check.no("day 2", x.claim(0, 2));
        Check.same("2 less", x.ofStreet(0, 11), -2);
        Check.state("day 1 again", x, () -> x.claim(0, 1));
        Check.yes("day 8", x.claim(0, 8));
        Check.same("4 less", x.ofStreet(0, 11), -4);
        Check.no("day 9 is NOW", x.claim(0, 9));
        Check.argument("day 10", x, () -> x.claim(0, 10));
        Check.yes("the other street claims by itself", x.claim(1, 1));
        Check.same("fees are in no money", x.many(15), 0);
        for (int i = 0; i < 20; i++) {
            x.pass(30);
        }
        Check.yes("day 603", x.claim(1, 603));
        Check.no("day 604", x.claim(1, 604));
        Check.yes("a day long ago", x.claim(1, 8));
        Check.state("again", x, () -> x.claim(1, 603));
    }

    private static void eachDayAndStreetByItself() {
        BinWard x = new BinWard();
        x.lorry(10, 0, 0);
        for (int i = 0; i < 6; i++) {
            x.street(30, 0);
            x.round(0, i, i);
        }
        x.pass(30);
        x.pass(30);
        x.pass(30);
        for (int day = 90; day >= 30; day--) {
            for (int i = 0; i < 6; i++) {
                Check.same("claim(" + i + ", " + day + ")", x.claim(i, day) ? 1 : 0,
                    day % 7 == i ? 1 : 0);
            }
        }
        // the weekdays 6 and 0 come 8 and 9 times from 30 to 90
        Check.same("street 0", x.ofStreet(0, 11), -16);
        Check.same("street 2", x.ofStreet(2, 11), -18);
        Check.same("street 5 was missed", x.ofStreet(5, 12), 13);
    }

    private static BinWard cityWithBales() {
        BinWard x = new BinWard();
        for (int i = 0; i < 6; i++) {
            x.street(1, 4);
            x.habit(i, 1, 9);
        }
        x.lorry(120, 1, 1);
        for (int i = 0; i < 6; i++) {
            x.round(0, 0, i);
        }
        x.pass(7);
        return x;
    }
}
