/**
 * "A method that throws an exception changes nothing": of two cities that were told the same, one
 * refuses calls, and then both answer the same to all that follows.
 */
public final class RefusedTest {
    private interface Wrong {
        void run(BinWard x);
    }

    private static final class Refusal {
        final String call;
        final Class<?> due;
        final Wrong wrong;

        Refusal(String call, Class<?> due, Wrong wrong) {
            this.call = call;
            this.due = due;
            this.wrong = wrong;
        }
    }

    private static final Class<?> INDEX = IndexOutOfBoundsException.class;
    private static final Class<?> ARGUMENT = IllegalArgumentException.class;
    private static final Class<?> STATE = IllegalStateException.class;

    private static final Refusal[] REFUSALS = {
        new Refusal("street(31, 1)", ARGUMENT, x -> x.street(31, 1)),
        new Refusal("street(1, 5)", ARGUMENT, x -> x.street(1, 5)),
        new Refusal("street(9, 1)", STATE, x -> x.street(9, 1)),
        new Refusal("habit(6, 0, 1)", INDEX, x -> x.habit(6, 0, 1)),
        new Refusal("habit(0, 3, 1)", INDEX, x -> x.habit(0, 3, 1)),
        new Refusal("habit(0, 0, 10)", ARGUMENT, x -> x.habit(0, 0, 10)),
        new Refusal("dirt(6, 1)", INDEX, x -> x.dirt(6, 1)),
        new Refusal("dirt(0, 5)", ARGUMENT, x -> x.dirt(0, 5)),
        new Refusal("lorry(9, 0, 0)", ARGUMENT, x -> x.lorry(9, 0, 0)),
        new Refusal("lorry(10, 3, 0)", ARGUMENT, x -> x.lorry(10, 3, 0)),
        new Refusal("lorry(10, 0, 3)", ARGUMENT, x -> x.lorry(10, 0, 3)),
        new Refusal("lorry(10, 0, 0)", STATE, x -> x.lorry(10, 0, 0)),
        new Refusal("round(3, 0, 0)", INDEX, x -> x.round(3, 0, 0)),
        new Refusal("round(0, 7, 0)", INDEX, x -> x.round(0, 7, 0)),
        new Refusal("round(0, 0, 6)", INDEX, x -> x.round(0, 0, 6)),
        new Refusal("round(0, 0, 0)", STATE, x -> x.round(0, 0, 0)),
        new Refusal("clear(3, 0)", INDEX, x -> x.clear(3, 0)),
        new Refusal("clear(0, 7)", INDEX, x -> x.clear(0, 7)),
        new Refusal("clear(0, -1)", INDEX, x -> x.clear(0, -1)),
        new Refusal("eye(101)", ARGUMENT, x -> x.eye(101)),
        new Refusal("eye(-1)", ARGUMENT, x -> x.eye(-1)),
        new Refusal("hand(51)", ARGUMENT, x -> x.hand(51)),
        new Refusal("hand(-1)", ARGUMENT, x -> x.hand(-1)),
        new Refusal("oven(201)", ARGUMENT, x -> x.oven(201)),
        new Refusal("oven(-1)", ARGUMENT, x -> x.oven(-1)),
        new Refusal("pass(0)", ARGUMENT, x -> x.pass(0)),
        new Refusal("pass(31)", ARGUMENT, x -> x.pass(31)),
        new Refusal("sell(20, 1, 1)", INDEX, x -> x.sell(20, 1, 1)),
        new Refusal("sell(3, 41, 1)", ARGUMENT, x -> x.sell(3, 41, 1)),
        new Refusal("sell(3, 0, 100)", ARGUMENT, x -> x.sell(3, 0, 100)),
        new Refusal("sell(0, 40, 99)", STATE, x -> x.sell(0, 40, 99)),
        new Refusal("sell(1, 40, 99)", STATE, x -> x.sell(1, 40, 99)),
        new Refusal("sell(2, 40, 99)", STATE, x -> x.sell(2, 40, 99)),
        new Refusal("open(-1)", INDEX, x -> x.open(-1)),
        new Refusal("open(20)", INDEX, x -> x.open(20)),
        new Refusal("open(0)", STATE, x -> x.open(0)),
        new Refusal("open(2)", STATE, x -> x.open(2)),
        new Refusal("open(3)", STATE, x -> x.open(3)),
        new Refusal("sweep(6)", INDEX, x -> x.sweep(6)),
        new Refusal("claim(6, 1)", INDEX, x -> x.claim(6, 1)),
        new Refusal("claim(0, 22)", ARGUMENT, x -> x.claim(0, 22)),
        new Refusal("claim(0, -1)", ARGUMENT, x -> x.claim(0, -1)),
        new Refusal("claim(5, 1)", STATE, x -> x.claim(5, 1)),
        new Refusal("claim(5, 0)", STATE, x -> x.claim(5, 0)),
        new Refusal("ofStreet(6, 0)", INDEX, x -> x.ofStreet(6, 0)),
        new Refusal("ofStreet(0, 13)", ARGUMENT, x -> x.ofStreet(0, 13)),
        new Refusal("ofLorry(3, 0)", INDEX, x -> x.ofLorry(3, 0)),
        new Refusal("ofLorry(0, 7)", ARGUMENT, x -> x.ofLorry(0, 7)),
        new Refusal("ofBale(20, 0)", INDEX, x -> x.ofBale(20, 0)),
        new Refusal("ofBale(0, 4)", ARGUMENT, x -> x.ofBale(0, 4)),
        new Refusal("many(18)", ARGUMENT, x -> x.many(18)),
        new Refusal("rate(3)", ARGUMENT, x -> x.rate(3)),
        new Refusal("fullIn(6, 0)", INDEX, x -> x.fullIn(6, 0)),
        new Refusal("fullIn(0, 3)", INDEX, x -> x.fullIn(0, 3)),
        new Refusal("bestFetch(3)", INDEX, x -> x.bestFetch(3)),
        new Refusal("bestRound(3)", INDEX, x -> x.bestRound(3)),
        new Refusal("wouldLie(0)", ARGUMENT, x -> x.wouldLie(0)),
        new Refusal("wouldLie(31)", ARGUMENT, x -> x.wouldLie(31)),
    };

    public static void main(String[] args) {
        for (Refusal refusal : REFUSALS) {
            BinWard x = city();
            refuse(x, refusal);
            goOn(refusal.call, x, city());
        }
        BinWard x = city();
        for (Refusal refusal : REFUSALS) {
            refuse(x, refusal);
        }
        goOn("all of them", x, city());
        Check.end();
    }

    private static void refuse(BinWard x, Refusal refusal) {
        Class<?> thrown = null;
        try {
            refusal.wrong.run(x);
        } catch (RuntimeException e) {
            thrown = e.getClass();
        }
        Check.yes(refusal.call + " threw " + thrown + ", due is " + refusal.due,
            thrown == refusal.due);
    }

    /** With bales that are sold (0), back (1), opened (2) and stored (3), on the day 21. */
    private static BinWard city() {
        BinWard x = Town.at(3, 5, 8, 12, 20, 30);
        for (int i = 0; i < 6; i++) {
            x.dirt(i, 4 - i % 3);
            for (int stream = 0; stream < 3; stream++) {
                x.habit(i, stream, 9 - stream);
            }
        }
        x.lorry(80, 0, 1);
        x.lorry(50, 1, 2);
        x.lorry(61, 2, 0);
        for (int day = 0; day < 7; day++) {
            x.round(0, day, 0);
            x.round(0, day, 1 + day % 4);
            x.round(1, day, 4 - day % 4);
            x.round(2, day, 5);
        }
        x.eye(40);
        x.hand(2);
        x.oven(30);
        x.pass(21);
        x.sell(0, 40, 10);
        x.sell(1, 0, 10);
        x.sell(2, 0, 10);
        x.open(2);
        x.claim(5, 0);
        x.claim(5, 1);
        return x;
    }

    private static void goOn(String call, BinWard x, BinWard y) {
        Check.same(call + ", digest", x.digest(), y.digest());
        Check.same(call + ", meanDirt", x.meanDirt(), y.meanDirt());
        Check.same(call + ", eye", x.eye(80), y.eye(80));
        Check.same(call + ", hand", x.hand(1), y.hand(1));
        Check.same(call + ", oven", x.oven(40), y.oven(40));
        Check.same(call + ", the next bale", x.sell(3, 0, 7) ? 1 : 0, y.sell(3, 0, 7) ? 1 : 0);
        Check.same(call + ", the bale that is back", x.open(1), y.open(1));
        for (int day = 0; day < 8; day++) {
            Check.same(call + ", fetched", x.pass(1), y.pass(1));
            Check.same(call + ", digest of a day", x.digest(), y.digest());
        }
        for (int day = 2; day < 29; day++) {
            Check.same(call + ", claim", x.claim(5, day) ? 1 : 0, y.claim(5, day) ? 1 : 0);
            Check.same(call + ", claim", x.claim(0, day) ? 1 : 0, y.claim(0, day) ? 1 : 0);
        }
        for (int i = 0; i < 21; i++) {
            Check.same(call + ", clear", x.clear(i / 7, i % 7), y.clear(i / 7, i % 7));
        }
        Check.same(call + ", digest at last", x.digest(), y.digest());
    }
}
