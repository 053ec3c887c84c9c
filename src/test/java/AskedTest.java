/** Promises 16 to 21: what one asks. */
public final class AskedTest {
    public static void main(String[] args) {
        ofStreet();
        ofLorry();
        ofBale();
        many();
        rate();
        meanDirt();
        Check.end();
    }

    // Promise 16
    private static void ofStreet() {
        BinWard x = new BinWard();
        Check.index("no street before a wrong what", x, () -> x.ofStreet(0, 13));
        x.street(7, 3);
        x.habit(0, 0, 9);
        x.habit(0, 1, 8);
        x.habit(0, 2, 7);
        Check.index("street -1", x, () -> x.ofStreet(-1, 0));
        Check.index("street 1", x, () -> x.ofStreet(1, 0));
        Check.argument("what -1", x, () -> x.ofStreet(0, -1));
        Check.argument("what 13", x, () -> x.ofStreet(0, 13));
        x.lorry(16, 0, 2);
        x.lorry(10, 1, 1);
        x.round(0, 2, 0);
        x.round(1, 2, 0);
        x.pass(3);
        int[] due = {7, 3, 0, 9, 8, 7, 9, 18, 5, 6, 2, 3 * 18 + 14, 1};
        for (int what = 0; what < due.length; what++) {
            Check.same("ofStreet(0, " + what + ")", x.ofStreet(0, what), due[what]);
        }
        x.claim(0, 2);
        Check.same("2 less for a claim", x.ofStreet(0, 11), 3 * 18 + 12);
        x.pass(5);
        x.clear(0, 2);
        x.pass(1);
        // PAPER: 9 days of 8, REST: 7 days of 9 since it was fetched, but 60 have room
        Check.same("litter", x.ofStreet(0, 2), 12 + 3);
        Check.same("missed on two days", x.ofStreet(0, 12), 2);
    }

    // Promise 17
    private static void ofLorry() {
        BinWard x = new BinWard();
        Check.index("no lorry before a wrong what", x, () -> x.ofLorry(0, 7));
        x.lorry(33, 2, 1);
        Check.index("lorry -1", x, () -> x.ofLorry(-1, 0));
        Check.index("lorry 1", x, () -> x.ofLorry(1, 0));
        Check.argument("what -1", x, () -> x.ofLorry(0, -1));
        Check.argument("what 7", x, () -> x.ofLorry(0, 7));
        x.street(5, 0);
        x.street(9, 0);
        x.habit(0, 1, 3);
        x.habit(1, 2, 4);
        x.round(0, 1, 1);
        x.round(0, 1, 0);
        x.round(0, 2, 0);
        x.pass(1);
        // 9 and 2, 4 and 2, 5 back
        int[] due = {33, 2, 1, 22, 2, 0, 7};
        for (int what = 0; what < due.length; what++) {
            Check.same("ofLorry(0, " + what + ")", x.ofLorry(0, what), due[what]);
        }
        x.pass(1);
        Check.same("the latest day", x.ofLorry(0, 3), 12);
        Check.same("the latest day", x.ofLorry(0, 4), 1);
        Check.same("fetched ever", x.ofLorry(0, 6), 10);
        x.pass(1);
        Check.same("a day without a round changes nothing", x.ofLorry(0, 3), 12);
        x.clear(0, 2);
        Check.same("nor does clear", x.ofLorry(0, 4), 1);
    }

    // Promise 18
    private static void ofBale() {
        BinWard x = paperCity();
        Check.index("no bale before a wrong what", x, () -> x.ofBale(0, 4));
        x.pass(7);
        Check.same("bales", x.many(3), 1);
        Check.index("bale -1", x, () -> x.ofBale(-1, 0));
        Check.index("bale 1", x, () -> x.ofBale(1, 0));
        Check.argument("what -1", x, () -> x.ofBale(0, -1));
        Check.argument("what 4", x, () -> x.ofBale(0, 4));
        // 42 clean, 18 dirty: 10 out, 2 lost: of 40 and 8 is 6 dirty
        int[] due = {34, 6, 0, 7};
        for (int what = 0; what < due.length; what++) {
            Check.same("ofBale(0, " + what + ")", x.ofBale(0, what), due[what]);
        }
        x.sell(0, 6, 50);
        Check.same("sold keeps its clean", x.ofBale(0, 0), 34);
        Check.same("sold", x.ofBale(0, 2), 1);
    }

    // Promise 19
    private static void many() {
        BinWard x = paperCity();
        x.habit(0, 0, 9);
        x.habit(0, 2, 9);
        x.lorry(10, 0, 2);
        x.round(1, 0, 0);
        Check.argument("what -1", x, () -> x.many(-1));
        Check.argument("what 18", x, () -> x.many(18));
        x.pass(7);
        // REST 60: 50 burnt, 12 ash, 10 to the pit; of PAPER 12 are REST, to the pit
        // GREEN 42 clean, 18 dirty: 5 gone, 2 compost
        int[] due = {7, 6, 2, 1, 1, 35, 18, 2, 5, 34, 11, 0, 50, 12, 150, -3, 180, 9};
        for (int what = 0; what < due.length; what++) {
            Check.same("many(" + what + ")", x.many(what), due[what]);
        }
        x.sell(0, 40, 9);
        Check.same("made", x.many(3), 1);
        Check.same("stored", x.many(4), 0);
        Check.same("money", x.many(15), 6);
    }

    // Promise 20
    private static void rate() {
        BinWard x = paperCity();
        Check.argument("rule -1", x, () -> x.rate(-1));
        Check.argument("rule 3", x, () -> x.rate(3));
        for (int rule = 0; rule < 3; rule++) {
            Check.same("0 without any", x.rate(rule), 0);
        }
        x.habit(0, 2, 9);
        x.lorry(10, 2, 2);
        x.round(1, 0, 0);
        x.pass(7);
        // 120 fetched; 60 GREEN came to the heap, 2 are compost; 12 burnt are 3 ash
        Check.same("rule 0, nothing sold", x.rate(0), 50);
        Check.same("rule 1", x.rate(1), 1);
        Check.same("rule 2", x.rate(2), 4);
        x.sell(0, 40, 9);
        Check.same("rule 0 counts dirty, too", x.rate(0), 83);
        Check.same("rule 1 clean alone", x.rate(1), 30);
        Check.same("rule 2 ash, too", x.rate(2), 32);
        BinWard y = new BinWard();
        y.street(1, 0);
        y.habit(0, 2, 1);
        y.lorry(10, 2, 2);
        y.round(0, 1, 0);
        y.pass(1);
        Check.same("of 1 kilo", y.rate(0), 100);
    }

    // Promise 21
    private static void meanDirt() {
        BinWard x = paperCity();
        Check.same("0 without any", x.meanDirt(), 0.0);
        x.pass(7);
        Check.same("of one", x.meanDirt(), 6.0);
        x.dirt(0, 0);
        x.pass(30);
        // later bales have less dirt
        int made = x.many(3);
        int sum = 0;
        for (int i = 0; i < made; i++) {
            sum += x.ofBale(i, 1);
        }
        Check.yes("several", made > 2);
        Check.same("not rounded", x.meanDirt(), (double) sum / made);
        int first = x.ofBale(0, 1);
        x.sell(0, 0, 1);
        Check.same("one that is back counts", x.meanDirt(), (double) sum / made);
        x.open(0);
        Check.same("one that is opened does not", x.meanDirt(), (double) (sum - first) / (made - 1));
        x.sell(1, 40, 1);
        Check.same("one that is sold counts", x.meanDirt(), (double) (sum - first) / (made - 1));

        BinWard y = paperCity();
        y.pass(7);
        y.sell(0, 0, 1);
        y.open(0);
        Check.same("0 if all are opened", y.meanDirt(), 0.0);
    }

    private static BinWard paperCity() {
        BinWard x = new BinWard();
        x.street(1, 4);
        x.habit(0, 1, 9);
        x.lorry(10, 1, 1);
        x.round(0, 0, 0);
        return x;
    }
}
