/** Section 4 of the terms and the promises 12, 13, 15, 16, 18, 20, 21: each boundary case. */
public final class TradeEdgesTest {
    private static final int REST = Town.REST;
    private static final int PAPER = Town.PAPER;
    private static final int GREEN = Town.GREEN;

    public static void main(String[] args) {
        bales();
        fees();
        claims();
        money();
        rates();
        Check.end();
    }

    private static void bales() {
        limitIsZeroToForty();
        priceIsOneToNinetyNine();
        noMoreDirtyKilosThanTheLimit();
        backCostsFifteen();
        moneyOfSeveralBales();
        sellsAStoredBaleAlone();
        sellsNoBaleThatThereIsNot();
        sellNamesInItsOrder();
        opensABaleThatIsBackAlone();
        opensNoBaleThatThereIsNot();
        allItsKilosComeIntoTheBaler();
        openedIsNoMore();
        openMakesNoBale();
        ofBaleRefuses();
        ofBaleNamesTheIndexFirst();
    }

    private static void fees() {
        feesByStream();
        feesOfTheStreetItself();
        feesBelowZero();
        feesAreInNoMoney();
        ofStreetRefuses();
        ofStreetNamesTheIndexFirst();
    }

    private static void claims() {
        claimDayIsZeroToNow();
        claimOfNoStreet();
        claimNamesInItsOrder();
        claimOfEachDayOnce();
        claimThatWasNotRightCountsAsOne();
        refusedClaimIsNone();
        claimOfEachStreetByItself();
        claimOfTheFirstAndLastDay();
        claimAtTheEndOfAllCalls();
    }

    private static void money() {
        nineOfAshCostNothing();
        nineUnburntCostNothing();
        nineOfLitterCostNothing();
        eachCostsByItself();
        gasAndBurntCostNothing();
    }

    private static void rates() {
        ruleIsZeroToTwo();
        rateIsZeroWithoutAny();
        rateIsRoundedDown();
        rateCountsSoldBalesAlone();
        rateCountsTheCleanKilosOfEachBale();
        rateOfGreen();
        rateOfAsh();
        rateOfAllFetchedEver();
        meanDirtWithoutAny();
        meanDirtIsNotRounded();
        meanDirtLeavesOutTheOpened();
        meanDirtOfTwentyBales();
    }

    /** One bale of 39 clean and 1 dirty kilos, and an empty baler. */
    private static BinWard withBale() {
        BinWard x = Town.withLoad(PAPER, 41, 1);
        x.pass(1);
        Check.same("one bale", x.many(3), 1);
        Check.same("of 1 dirty kilo", x.ofBale(0, 1), 1);
        return x;
    }

    // "a LIMIT (0 to 40 ...)" / "IllegalArgumentException if limit is not 0 to 40"
    private static void limitIsZeroToForty() {
        BinWard x = withBale();
        Check.argument("limit -1", x, () -> x.sell(0, -1, 1));
        Check.argument("limit 41", x, () -> x.sell(0, 41, 1));
        Check.argument("the least limit", x, () -> x.sell(0, Integer.MIN_VALUE, 1));
        Check.argument("the greatest limit", x, () -> x.sell(0, Integer.MAX_VALUE, 1));
        Check.same("it is stored still", x.ofBale(0, 2), 0);
        Check.yes("limit 40", x.sell(0, 40, 1));
        BinWard y = withBale();
        Check.no("limit 0", y.sell(0, 0, 1));
    }

    // "a PRICE (1 to 99)" / "or price not 1 to 99"
    private static void priceIsOneToNinetyNine() {
        BinWard x = withBale();
        Check.argument("price 0", x, () -> x.sell(0, 1, 0));
        Check.argument("price -1", x, () -> x.sell(0, 1, -1));
        Check.argument("price 100", x, () -> x.sell(0, 1, 100));
        Check.argument("the least price", x, () -> x.sell(0, 1, Integer.MIN_VALUE));
        Check.argument("the greatest price", x, () -> x.sell(0, 1, Integer.MAX_VALUE));
        Check.argument("a wrong price for one that would be BACK", x, () -> x.sell(0, 0, 0));
        Check.yes("price 1", x.sell(0, 1, 1));
        Check.same("money", x.many(15), 1);
        BinWard y = withBale();
        Check.yes("price 99", y.sell(0, 1, 99));
        Check.same("money", y.many(15), 99);
    }

    // "if it has no more DIRTY kilos than the LIMIT, it is SOLD for the PRICE; otherwise it is BACK"
    private static void noMoreDirtyKilosThanTheLimit() {
        int[] limits = {5, 6, 7};
        for (int limit : limits) {
            BinWard x = Town.withLoad(PAPER, 42, 18);
            x.pass(1);
            Check.same("6 dirty kilos", x.ofBale(0, 1), 6);
            Check.same("sold at " + limit, x.sell(0, limit, 9) ? 1 : 0, limit >= 6 ? 1 : 0);
            Check.same("its state at " + limit, x.ofBale(0, 2), limit >= 6 ? 1 : 2);
            Check.same("its dirty stay at " + limit, x.ofBale(0, 1), 6);
            Check.same("its clean stay at " + limit, x.ofBale(0, 0), 34);
        }
        BinWard y = Town.withLoad(PAPER, 42, 0);
        y.pass(1);
        Check.yes("0 are no more than 0", y.sell(0, 0, 9));
    }

    // "otherwise it is BACK, that costs 15"
    private static void backCostsFifteen() {
        BinWard x = withBale();
        x.sell(0, 0, 99);
        Check.same("money, below 0", x.many(15), -15);
        Check.same("none is stored", x.many(4), 0);
        Check.same("made ever", x.many(3), 1);
    }

    // "MONEY is ...: PRICES and costs": of all BALES together
    private static void moneyOfSeveralBales() {
        BinWard x = Town.withLoad(PAPER, 126, 18);
        x.pass(1);
        Check.same("three bales", x.many(3), 3);
        int dirty = 0;
        for (int i = 0; i < 3; i++) {
            dirty += x.ofBale(i, 1);
        }
        Check.yes("of some dirty kilos", dirty > 2);
        x.sell(0, 40, 20);
        Check.same("20", x.many(15), 20);
        x.sell(1, 40, 30);
        Check.same("and 30", x.many(15), 50);
        x.sell(2, 0, 99);
        Check.same("less 15", x.many(15), 35);
        int clean = x.ofBale(0, 0) + x.ofBale(1, 0);
        Check.same("80 of 144", x.rate(0), 55);
        Check.same("the clean ones of both", x.rate(1), 100 * clean / 144);
        x.open(2);
        Check.same("open() costs nothing more", x.many(15), 35);
    }

    // "IllegalStateException if it is not STORED"
    private static void sellsAStoredBaleAlone() {
        BinWard sold = withBale();
        sold.sell(0, 1, 5);
        Check.state("SOLD", sold, () -> sold.sell(0, 1, 5));
        Check.state("SOLD, as one that would be BACK", sold, () -> sold.sell(0, 0, 5));
        BinWard back = withBale();
        back.sell(0, 0, 5);
        Check.state("BACK", back, () -> back.sell(0, 1, 5));
        back.open(0);
        Check.state("OPENED", back, () -> back.sell(0, 1, 5));
    }

    // "IndexOutOfBoundsException if there is no such BALE"
    private static void sellsNoBaleThatThereIsNot() {
        BinWard none = new BinWard();
        Check.index("none at all", none, () -> none.sell(0, 0, 1));
        BinWard x = withBale();
        Check.index("bale -1", x, () -> x.sell(-1, 0, 1));
        Check.index("bale 1 of 1", x, () -> x.sell(1, 0, 1));
        Check.index("bale 19", x, () -> x.sell(19, 0, 1));
        Check.index("bale 20", x, () -> x.sell(20, 0, 1));
        Check.index("the least bale", x, () -> x.sell(Integer.MIN_VALUE, 0, 1));
        Check.index("the greatest bale", x, () -> x.sell(Integer.MAX_VALUE, 0, 1));
    }

    // "If several exceptions apply, the one that is named first is thrown."
    private static void sellNamesInItsOrder() {
        BinWard x = withBale();
        x.sell(0, 1, 5);
        Check.index("no bale, wrong limit", x, () -> x.sell(1, 41, 1));
        Check.index("no bale, wrong price", x, () -> x.sell(1, 0, 0));
        Check.argument("wrong limit, not stored", x, () -> x.sell(0, 41, 1));
        Check.argument("wrong price, not stored", x, () -> x.sell(0, 0, 100));
    }

    // "IllegalStateException if it is not BACK"
    private static void opensABaleThatIsBackAlone() {
        BinWard x = withBale();
        Check.state("STORED", x, () -> x.open(0));
        BinWard sold = withBale();
        sold.sell(0, 1, 5);
        Check.state("SOLD", sold, () -> sold.open(0));
        x.sell(0, 0, 5);
        Check.same("BACK", x.open(0), 40);
        Check.state("OPENED", x, () -> x.open(0));
    }

    // "IndexOutOfBoundsException if there is no such BALE"
    private static void opensNoBaleThatThereIsNot() {
        BinWard none = new BinWard();
        Check.index("none at all", none, () -> none.open(0));
        BinWard x = withBale();
        Check.index("bale -1", x, () -> x.open(-1));
        Check.index("bale 1 of 1", x, () -> x.open(1));
        Check.index("bale 20", x, () -> x.open(20));
        Check.index("the least bale", x, () -> x.open(Integer.MIN_VALUE));
        Check.index("the greatest bale", x, () -> x.open(Integer.MAX_VALUE));
    }

    // "its kilos come into the BALER, all of them" / "Returns how many kilos the BALER has then."
    private static void allItsKilosComeIntoTheBaler() {
        BinWard x = Town.withLoad(PAPER, 42, 18);
        x.pass(1);
        Check.same("clean before", x.many(1), 6);
        Check.same("dirty before", x.many(2), 2);
        x.sell(0, 0, 1);
        Check.same("8 and 40", x.open(0), 48);
        Check.same("clean", x.many(1), 6 + 34);
        Check.same("dirty", x.many(2), 2 + 6);
        Check.same("it costs no more than it did", x.many(15), -15);
    }

    // "(it is no more; its number stays)" / "0 of one that was OPENED" / "(3, if it was OPENED)"
    private static void openedIsNoMore() {
        BinWard x = withBale();
        int day = x.many(0);
        x.sell(0, 0, 1);
        x.pass(3);
        x.open(0);
        int[] due = {0, 0, 3, day};
        for (int what = 0; what < 4; what++) {
            Check.same("ofBale(0, " + what + ")", x.ofBale(0, what), due[what]);
        }
        Check.same("made ever", x.many(3), 1);
        x.habit(0, PAPER, 1);
        x.pass(1);
        Check.same("the next one has the next number", x.many(3), 2);
        Check.same("it is stored", x.ofBale(1, 2), 0);
        Check.same("the opened one stays so", x.ofBale(0, 2), 3);
    }

    // a BALE is made "behind each LOAD of PAPER" alone
    private static void openMakesNoBale() {
        BinWard x = withBale();
        x.sell(0, 0, 1);
        x.open(0);
        Check.same("no new bale", x.many(3), 1);
        Check.same("40 lie in the baler", x.many(1) + x.many(2), 40);
        x.habit(0, REST, 9);
        x.habit(0, GREEN, 9);
        Town.daily(x, 60, REST, GREEN, 0);
        x.pass(7);
        Check.same("nor behind other loads", x.many(3), 1);
        x.eye(100);
        x.dirt(0, 4);
        x.habit(0, PAPER, 1);
        x.pass(1);
        Check.same("but behind one of PAPER", x.many(3), 2);
    }

    // Promise 18
    private static void ofBaleRefuses() {
        BinWard none = new BinWard();
        Check.index("none at all", none, () -> none.ofBale(0, 0));
        BinWard x = withBale();
        Check.index("bale -1", x, () -> x.ofBale(-1, 0));
        Check.index("bale 1 of 1", x, () -> x.ofBale(1, 0));
        Check.index("bale 20", x, () -> x.ofBale(20, 0));
        Check.index("the least bale", x, () -> x.ofBale(Integer.MIN_VALUE, 0));
        Check.index("the greatest bale", x, () -> x.ofBale(Integer.MAX_VALUE, 0));
        Check.argument("what -1", x, () -> x.ofBale(0, -1));
        Check.argument("what 4", x, () -> x.ofBale(0, 4));
        Check.argument("the least what", x, () -> x.ofBale(0, Integer.MIN_VALUE));
        Check.argument("the greatest what", x, () -> x.ofBale(0, Integer.MAX_VALUE));
        Check.same("what 0", x.ofBale(0, 0), 39);
        Check.same("what 3", x.ofBale(0, 3), x.many(0));
    }

    // "If several exceptions apply, the one that is named first is thrown."
    private static void ofBaleNamesTheIndexFirst() {
        BinWard x = withBale();
        Check.index("both wrong", x, () -> x.ofBale(1, 4));
        Check.index("both below 0", x, () -> x.ofBale(-1, -1));
    }

    // "3 for each kilo ... for REST, 1 for each from those for GREEN, CLEAN or DIRTY, none for PAPER"
    private static void feesByStream() {
        BinWard rest = Town.withLoad(REST, 1, 0);
        rest.pass(1);
        Check.same("3 for 1 of REST", rest.ofStreet(0, 11), 3);
        BinWard green = Town.withLoad(GREEN, 1, 0);
        green.pass(1);
        Check.same("1 for 1 of GREEN", green.ofStreet(0, 11), 1);
        BinWard dirty = Town.withLoad(GREEN, 3, 2);
        dirty.pass(1);
        Check.same("5 for 3 and 2 of GREEN", dirty.ofStreet(0, 11), 5);
        BinWard paper = Town.withLoad(PAPER, 36, 24);
        paper.pass(1);
        Check.same("none for PAPER", paper.ofStreet(0, 11), 0);
        BinWard lying = Town.at(1);
        Town.fill(lying, 0, REST, 60, 0);
        Check.same("none for what was not fetched", lying.ofStreet(0, 11), 0);
    }

    // "for each STREET a sum: ... that was fetched there ever"
    private static void feesOfTheStreetItself() {
        BinWard x = Town.at(1, 2);
        x.habit(0, REST, 2);
        x.habit(1, REST, 5);
        x.habit(1, GREEN, 7);
        Town.daily(x, 60, REST, GREEN, 0, 1);
        x.pass(1);
        Check.same("6", x.ofStreet(0, 11), 6);
        Check.same("15 and 7", x.ofStreet(1, 11), 22);
        x.pass(2);
        Check.same("18 ever", x.ofStreet(0, 11), 18);
        Check.same("66 ever", x.ofStreet(1, 11), 66);
    }

    // "less 2 for each claim that was right (it can be below 0 ...)"
    private static void feesBelowZero() {
        BinWard x = Town.at(30, 30);
        x.habit(0, REST, 1);
        Town.daily(x, 62, REST, REST, 0, 1);
        x.pass(2);
        Check.same("6 for 2 kilos", x.ofStreet(0, 11), 6);
        x.claim(1, 1);
        Check.same("2 less than 0", x.ofStreet(1, 11), -2);
        x.claim(1, 2);
        Check.same("4 less than 0", x.ofStreet(1, 11), -4);
        Check.no("a claim that is not right", x.claim(0, 1));
        Check.same("takes nothing off", x.ofStreet(0, 11), 6);
    }

    // "FEES are in no MONEY"
    private static void feesAreInNoMoney() {
        BinWard x = Town.at(30, 1);
        x.habit(1, REST, 9);
        Town.daily(x, 60, REST, REST, 1, 0);
        x.pass(1);
        Check.same("27 for 9 kilos", x.ofStreet(1, 11), 27);
        Check.yes("a claim that is right", x.claim(0, 1));
        Check.same("money", x.many(15), 0);
    }

    // Promise 16
    private static void ofStreetRefuses() {
        BinWard none = new BinWard();
        Check.index("no street at all", none, () -> none.ofStreet(0, 0));
        BinWard x = Town.at(7);
        Check.index("street -1", x, () -> x.ofStreet(-1, 0));
        Check.index("street 1 of 1", x, () -> x.ofStreet(1, 0));
        Check.index("the least street", x, () -> x.ofStreet(Integer.MIN_VALUE, 0));
        Check.index("the greatest street", x, () -> x.ofStreet(Integer.MAX_VALUE, 0));
        Check.argument("what -1", x, () -> x.ofStreet(0, -1));
        Check.argument("what 13", x, () -> x.ofStreet(0, 13));
        Check.argument("the least what", x, () -> x.ofStreet(0, Integer.MIN_VALUE));
        Check.argument("the greatest what", x, () -> x.ofStreet(0, Integer.MAX_VALUE));
        Check.same("what 0", x.ofStreet(0, 0), 7);
        Check.same("what 12", x.ofStreet(0, 12), 0);
    }

    // "If several exceptions apply, the one that is named first is thrown."
    private static void ofStreetNamesTheIndexFirst() {
        BinWard x = Town.at(7);
        Check.index("both wrong", x, () -> x.ofStreet(1, 13));
        Check.index("both below 0", x, () -> x.ofStreet(-1, -1));
    }

    /** Street 0 is missed on each day, street 1 on none. */
    private static BinWard withMissed() {
        BinWard x = Town.at(30, 1);
        Town.daily(x, 20, REST, REST, 1, 0);
        return x;
    }

    // "for a DAY (0 to NOW)" / "IllegalArgumentException if day is not 0 to NOW"
    private static void claimDayIsZeroToNow() {
        BinWard x = withMissed();
        Check.argument("day 1 on the day 0", x, () -> x.claim(0, 1));
        Check.argument("day -1 on the day 0", x, () -> x.claim(0, -1));
        x.pass(3);
        Check.argument("day -1", x, () -> x.claim(0, -1));
        Check.argument("day 4 on the day 3", x, () -> x.claim(0, 4));
        Check.argument("the least day", x, () -> x.claim(0, Integer.MIN_VALUE));
        Check.argument("the greatest day", x, () -> x.claim(0, Integer.MAX_VALUE));
        Check.no("day 0 has no rounds", x.claim(0, 0));
        Check.yes("day 1", x.claim(0, 1));
        Check.yes("day 3 on the day 3", x.claim(0, 3));
    }

    // "IndexOutOfBoundsException if there is no such STREET"
    private static void claimOfNoStreet() {
        BinWard none = new BinWard();
        Check.index("no street at all", none, () -> none.claim(0, 0));
        BinWard x = withMissed();
        Check.index("street -1", x, () -> x.claim(-1, 0));
        Check.index("street 2 of 2", x, () -> x.claim(2, 0));
        Check.index("the least street", x, () -> x.claim(Integer.MIN_VALUE, 0));
        Check.index("the greatest street", x, () -> x.claim(Integer.MAX_VALUE, 0));
        Check.no("street 1 of 2", x.claim(1, 0));
    }

    // "If several exceptions apply, the one that is named first is thrown."
    private static void claimNamesInItsOrder() {
        BinWard x = withMissed();
        x.pass(1);
        x.claim(0, 1);
        Check.index("no street, wrong day", x, () -> x.claim(2, 2));
        Check.index("no street, day -1", x, () -> x.claim(-1, -1));
        Check.index("no street, a day that was claimed", x, () -> x.claim(2, 1));
        Check.argument("wrong day", x, () -> x.claim(0, 2));
    }

    // "(each STREET and DAY once)" / "IllegalStateException if this STREET claimed for that DAY already"
    private static void claimOfEachDayOnce() {
        BinWard x = withMissed();
        x.pass(3);
        Check.yes("day 2", x.claim(0, 2));
        Check.state("day 2 again", x, () -> x.claim(0, 2));
        Check.yes("day 1 by itself", x.claim(0, 1));
        x.pass(1);
        Check.state("day 2 again, a day on", x, () -> x.claim(0, 2));
        Check.same("4 less", x.ofStreet(0, 11), -4);
    }

    // the same, of one that was not right
    private static void claimThatWasNotRightCountsAsOne() {
        BinWard x = withMissed();
        x.pass(1);
        Check.no("not missed", x.claim(1, 1));
        Check.state("again", x, () -> x.claim(1, 1));
        Check.same("0 less", x.ofStreet(1, 11), 0);
        Check.no("day 0", x.claim(0, 0));
        Check.state("day 0 again", x, () -> x.claim(0, 0));
    }

    // "A method that throws an exception changes nothing."
    private static void refusedClaimIsNone() {
        BinWard x = withMissed();
        Check.argument("a day to come", x, () -> x.claim(0, 1));
        Check.index("no street", x, () -> x.claim(2, 0));
        x.pass(1);
        Check.yes("it is free as it came", x.claim(0, 1));
        x.street(3, 0);
        Check.no("and that of the new street", x.claim(2, 0));
    }

    // "each STREET and DAY"
    private static void claimOfEachStreetByItself() {
        BinWard x = Town.at(30, 30, 30, 30, 30, 30);
        Town.daily(x, 20, REST, REST, 5, 4, 2, 1);
        x.pass(1);
        boolean[] due = {false, true, true, false, true, true};
        for (int street = 0; street < 6; street++) {
            Check.same("street " + street, x.claim(street, 1) ? 1 : 0, due[street] ? 1 : 0);
            Check.same("its days, street " + street, x.ofStreet(street, 12), due[street] ? 1 : 0);
        }
    }

    // "0 to NOW", on a later day
    private static void claimOfTheFirstAndLastDay() {
        BinWard x = withMissed();
        x.pass(30);
        x.pass(1);
        x.pass(1);
        for (int day = 0; day <= 32; day++) {
            Check.same("day " + day, x.claim(0, day) ? 1 : 0, day > 0 ? 1 : 0);
        }
        Check.same("2 less for each of 32", x.ofStreet(0, 11), -64);
    }

    // "An object is used for at most 512 calls": so many days can go by
    private static void claimAtTheEndOfAllCalls() {
        BinWard x = withMissed();
        for (int i = 0; i < 485; i++) {
            x.pass(30);
        }
        Check.same("NOW", x.many(0), 14550);
        Check.same("missed on each day", x.ofStreet(0, 12), 14550);
        Check.yes("the last day", x.claim(0, 14550));
        Check.yes("the first day", x.claim(0, 1));
        Check.no("the other street", x.claim(1, 14550));
        Check.same("4 less", x.ofStreet(0, 11), -4);
    }

    // "1 less for each 10 kilos into the PIT (ASH of a LOAD ...)": 39 burnt are 9, 40 are 10
    private static void nineOfAshCostNothing() {
        int[][] kilosMoney = {{39, 0}, {40, -1}, {79, -1}, {80, -2}};
        for (int[] row : kilosMoney) {
            BinWard x = Town.withLoad(REST, row[0], 0);
            x.oven(200);
            x.pass(1);
            Check.same("money for the ash of " + row[0], x.many(15), row[1]);
        }
    }

    // "what of it was not burnt"
    private static void nineUnburntCostNothing() {
        int[][] kilosMoney = {{9, 0}, {10, -1}, {19, -1}, {20, -2}};
        for (int[] row : kilosMoney) {
            BinWard x = Town.withLoad(REST, row[0], 0);
            x.oven(0);
            x.pass(1);
            Check.same("money for " + row[0] + " not burnt", x.many(15), row[1]);
        }
    }

    // "LITTER"
    private static void nineOfLitterCostNothing() {
        int[][] kilosMoney = {{9, 0}, {10, -1}, {19, -1}, {20, -2}};
        for (int[] row : kilosMoney) {
            BinWard x = Town.at(1);
            Town.fill(x, 0, REST, 60, 0);
            x.habit(0, 0, 1);
            x.pass(row[0]);
            Check.same("none where it lies", x.many(15), 0);
            x.sweep(0);
            Check.same("money for " + row[0] + " of litter", x.many(15), row[1]);
        }
    }

    // "each by itself, rounded down"
    private static void eachCostsByItself() {
        BinWard oneLoad = Town.withLoad(REST, 48, 0);
        oneLoad.oven(39);
        oneLoad.pass(1);
        Check.same("9 of ash, 9 not burnt", oneLoad.many(9), 18);
        Check.same("cost nothing", oneLoad.many(15), 0);
        BinWard twoLoads = Town.at(1, 1);
        Town.fill(twoLoads, 0, REST, 9, 0);
        Town.fill(twoLoads, 1, REST, 9, 0);
        Town.daily(twoLoads, 60, REST, REST, 0);
        Town.daily(twoLoads, 60, REST, REST, 1);
        twoLoads.oven(0);
        twoLoads.pass(1);
        Check.same("9 and 9 not burnt", twoLoads.many(9), 18);
        Check.same("cost nothing", twoLoads.many(15), 0);
        BinWard twice = Town.at(1);
        Town.fill(twice, 0, REST, 60, 0);
        twice.habit(0, 0, 9);
        twice.pass(1);
        twice.sweep(0);
        twice.pass(1);
        twice.sweep(0);
        Check.same("9 and 9 of litter", twice.many(9), 18);
        Check.same("cost nothing", twice.many(15), 0);
    }

    // nothing else is in MONEY
    private static void gasAndBurntCostNothing() {
        BinWard x = Town.withLoad(REST, 150, 0);
        x.oven(0);
        x.pass(1);
        Check.same("15 for 150", x.many(15), -15);
        x.pass(20);
        Check.same("gas came", x.many(11), 21);
        Check.same("for nothing", x.many(15), -15);
        BinWard y = Town.withLoad(GREEN, 60, 0);
        y.pass(10);
        Check.same("GREEN costs nothing", y.many(15), 0);
    }

    // "IllegalArgumentException if rule is not 0 to 2"
    private static void ruleIsZeroToTwo() {
        BinWard x = withBale();
        Check.argument("-1", x, () -> x.rate(-1));
        Check.argument("3", x, () -> x.rate(3));
        Check.argument("the least", x, () -> x.rate(Integer.MIN_VALUE));
        Check.argument("the greatest", x, () -> x.rate(Integer.MAX_VALUE));
        BinWard none = new BinWard();
        Check.argument("3 without any", none, () -> none.rate(3));
        Check.argument("-1 without any", none, () -> none.rate(-1));
    }

    // "(0 without any)"
    private static void rateIsZeroWithoutAny() {
        BinWard x = Town.at(1);
        Town.daily(x, 60, REST, GREEN, 0);
        x.pass(2);
        for (int rule = 0; rule < 3; rule++) {
            Check.same("rule " + rule, x.rate(rule), 0);
        }
    }

    // "in parts of 100, of all that was fetched ever" / "what is divided is rounded down"
    private static void rateIsRoundedDown() {
        BinWard x = Town.withLoad(PAPER, 42, 0);
        x.pass(1);
        x.sell(0, 0, 1);
        Check.same("40 of 42", x.rate(0), 95);
        BinWard y = Town.withLoad(GREEN, 36, 24);
        y.pass(1);
        Check.same("1 of 60", y.rate(1), 1);
        BinWard z = Town.withLoad(GREEN, 1, 0);
        z.pass(1);
        Check.same("1 of 1", z.rate(0), 100);
    }

    // "PAPER that was SOLD, CLEAN and DIRTY" / "CLEAN kilos of BALES that were SOLD"
    private static void rateCountsSoldBalesAlone() {
        BinWard x = withBale();
        for (int rule = 0; rule < 3; rule++) {
            Check.same("STORED, rule " + rule, x.rate(rule), 0);
        }
        x.sell(0, 0, 1);
        for (int rule = 0; rule < 3; rule++) {
            Check.same("BACK, rule " + rule, x.rate(rule), 0);
        }
        x.open(0);
        for (int rule = 0; rule < 3; rule++) {
            Check.same("OPENED, rule " + rule, x.rate(rule), 0);
        }
        BinWard y = withBale();
        y.sell(0, 1, 1);
        Check.same("40 of 42", y.rate(0), 95);
        Check.same("39 of 42", y.rate(1), 92);
        Check.same("39 of 42, and no ash", y.rate(2), 92);
    }

    // "CLEAN kilos of BALES that were SOLD": those of each, which may differ
    private static void rateCountsTheCleanKilosOfEachBale() {
        BinWard x = Town.at(1);
        Town.fill(x, 0, PAPER, 42, 0);
        int lorry = Town.daily(x, 60, PAPER, REST, 0);
        x.pass(1);
        Town.clearAll(x, lorry);
        Town.fill(x, 0, PAPER, 36, 24);
        x.eye(0);
        for (int day = 0; day < 7; day++) {
            x.round(lorry, day, 0);
        }
        x.pass(1);
        Check.same("clean of the first", x.ofBale(0, 0), 40);
        // 35 clean and 24 dirty came to the baler
        Check.same("clean of the second", x.ofBale(1, 0), 24);
        x.sell(0, 40, 1);
        x.sell(1, 40, 1);
        Check.same("80 of 102", x.rate(0), 78);
        Check.same("64 of 102", x.rate(1), 62);
    }

    // "GREEN that came to the HEAP, CLEAN and DIRTY" / "and COMPOST"
    private static void rateOfGreen() {
        BinWard x = Town.withLoad(GREEN, 36, 24);
        x.pass(1);
        Check.same("all of it", x.rate(0), 100);
        x.pass(30);
        Check.same("though much of it is gone", x.rate(0), 100);
        Check.same("compost of 60", x.rate(1), 100 * x.many(7) / 60);
        Check.yes("there is some", x.many(7) > 1);
        Check.same("no ash", x.rate(2), x.rate(1));
    }

    // "by the rule 2 as 1, and ASH"
    private static void rateOfAsh() {
        BinWard x = Town.withLoad(REST, 40, 0);
        x.pass(1);
        Check.same("rule 0", x.rate(0), 0);
        Check.same("rule 1", x.rate(1), 0);
        Check.same("10 of 40", x.rate(2), 25);
    }

    // "of all that was fetched ever": REST, too
    private static void rateOfAllFetchedEver() {
        BinWard x = Town.at(1);
        Town.fill(x, 0, REST, 30, 0);
        Town.fill(x, 0, GREEN, 10, 0);
        Town.daily(x, 60, REST, GREEN, 0);
        x.pass(1);
        Check.same("10 of 40", x.rate(0), 25);
        x.habit(0, REST, 2);
        x.pass(30);
        Check.same("10 of 100", x.rate(0), 10);
    }

    // "0 without any"
    private static void meanDirtWithoutAny() {
        BinWard none = new BinWard();
        Check.same("none was made", none.meanDirt(), 0.0);
        BinWard x = withBale();
        x.sell(0, 0, 1);
        x.open(0);
        Check.same("all are opened", x.meanDirt(), 0.0);
    }

    // "not rounded"
    private static void meanDirtIsNotRounded() {
        BinWard x = Town.at(1, 1, 1);
        Town.fill(x, 0, PAPER, 41, 1);
        Town.fill(x, 1, PAPER, 42, 0);
        Town.fill(x, 2, PAPER, 42, 0);
        Town.daily(x, 60, PAPER, PAPER, 0);
        Town.daily(x, 60, PAPER, PAPER, 1);
        x.pass(1);
        Check.same("1 and 0", x.meanDirt(), 0.5);
        Town.daily(x, 60, PAPER, PAPER, 2);
        x.pass(1);
        Check.same("1, 0 and 0", x.meanDirt(), 1.0 / 3.0);
    }

    // "of all BALES that are not OPENED"
    private static void meanDirtLeavesOutTheOpened() {
        BinWard x = Town.at(1, 1);
        Town.fill(x, 0, PAPER, 41, 1);
        Town.fill(x, 1, PAPER, 36, 24);
        Town.daily(x, 60, PAPER, PAPER, 0);
        Town.daily(x, 60, PAPER, PAPER, 1);
        x.pass(1);
        Check.same("35 and 10 make the second", x.ofBale(1, 1), 8);
        Check.same("1 and 8", x.meanDirt(), 4.5);
        x.sell(1, 40, 1);
        Check.same("one that is SOLD counts", x.meanDirt(), 4.5);
        x.sell(0, 0, 1);
        Check.same("one that is BACK counts", x.meanDirt(), 4.5);
        x.open(0);
        Check.same("one that is OPENED does not", x.meanDirt(), 8.0);
    }

    // "of all BALES": at most 20 there are
    private static void meanDirtOfTwentyBales() {
        BinWard x = Town.at(1, 1);
        for (int i = 0; i < 2; i++) {
            x.dirt(i, 4);
            x.habit(i, PAPER, 9);
        }
        Town.daily(x, 60, PAPER, PAPER, 0, 1);
        x.eye(0);
        x.pass(30);
        x.pass(30);
        Check.same("20 bales", x.many(3), 20);
        int dirty = 0;
        for (int i = 0; i < 20; i++) {
            dirty += x.ofBale(i, 1);
        }
        Check.same("of 20", x.meanDirt(), dirty / 20.0);
        int first = x.ofBale(0, 1);
        for (int i = 0; i < 20; i++) {
            Check.no("BACK", x.sell(i, 0, 1));
        }
        x.open(0);
        Check.same("of 19", x.meanDirt(), (dirty - first) / 19.0);
        for (int i = 1; i < 20; i++) {
            x.open(i);
        }
        Check.same("of none", x.meanDirt(), 0.0);
        Check.same("15 for each", x.many(15), -300);
    }
}
