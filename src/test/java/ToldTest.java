/** Promises 1 to 10: what is told. */
public final class ToldTest {
    public static void main(String[] args) {
        newCity();
        streets();
        habits();
        dirt();
        lorries();
        rounds();
        clears();
        eye();
        hand();
        oven();
        Check.end();
    }

    // Promise 1
    private static void newCity() {
        BinWard x = new BinWard();
        for (int what = 0; what <= 17; what++) {
            Check.same("many(" + what + ") of a new city", x.many(what), 0);
        }
        Check.same("digest() of a new city", x.digest(), 7970081607338734028L);
        Check.index("no street in a new city", x, () -> x.ofStreet(0, 0));
        Check.index("no lorry in a new city", x, () -> x.ofLorry(0, 0));
        Check.index("no bale in a new city", x, () -> x.ofBale(0, 0));
        Check.same("eye of a new city", x.eye(60), 60);
        Check.same("hand of a new city", x.hand(0), 0);
        Check.same("oven of a new city", x.oven(50), 50);
        BinWard y = new BinWard();
        x.street(1, 0);
        Check.index("two cities share nothing", y, () -> y.ofStreet(0, 0));
    }

    // Promise 2
    private static void streets() {
        BinWard x = new BinWard();
        Check.argument("place 0", x, () -> x.street(0, 0));
        Check.argument("place 31", x, () -> x.street(31, 0));
        Check.argument("dirt -1", x, () -> x.street(1, -1));
        Check.argument("dirt 5", x, () -> x.street(1, 5));
        Check.argument("least int", x, () -> x.street(Integer.MIN_VALUE, 0));
        Check.argument("greatest int", x, () -> x.street(1, Integer.MAX_VALUE));
        Check.same("street(1, 0)", x.street(1, 0), 0);
        Check.same("street(30, 4)", x.street(30, 4), 1);
        Check.same("place of 0", x.ofStreet(0, 0), 1);
        Check.same("dirt of 0", x.ofStreet(0, 1), 0);
        Check.same("place of 1", x.ofStreet(1, 0), 30);
        Check.same("dirt of 1", x.ofStreet(1, 1), 4);
        Check.same("two streets may share a place", x.street(30, 4), 2);
        for (int i = 3; i < 6; i++) {
            Check.same("street " + i, x.street(i, 1), i);
        }
        Check.state("a seventh street", x, () -> x.street(7, 1));
        Check.argument("a seventh street at a wrong place", x, () -> x.street(31, 1));
        Check.argument("a seventh street of wrong dirt", x, () -> x.street(1, 5));
    }

    // Promise 3
    private static void habits() {
        BinWard x = new BinWard();
        Check.index("no street, wrong kilos", x, () -> x.habit(0, 0, 10));
        x.street(5, 2);
        x.street(6, 2);
        Check.index("street -1", x, () -> x.habit(-1, 0, 1));
        Check.index("street 2", x, () -> x.habit(2, 0, 1));
        Check.index("stream -1", x, () -> x.habit(0, -1, 1));
        Check.index("stream 3, wrong kilos", x, () -> x.habit(0, 3, 10));
        Check.argument("kilos -1", x, () -> x.habit(0, 0, -1));
        Check.argument("kilos 10", x, () -> x.habit(0, 0, 10));
        Check.same("at first", x.habit(1, 0, 9), 0);
        Check.same("before", x.habit(1, 0, 4), 9);
        Check.same("paper", x.habit(1, 1, 5), 0);
        Check.same("green", x.habit(1, 2, 6), 0);
        Check.same("rest of 1", x.ofStreet(1, 3), 4);
        Check.same("paper of 1", x.ofStreet(1, 4), 5);
        Check.same("green of 1", x.ofStreet(1, 5), 6);
        Check.same("rest of 0", x.ofStreet(0, 3), 0);
        x.pass(1);
        Check.same("rest in the bin", x.ofStreet(1, 6), 4);
        Check.same("paper in the bin", x.ofStreet(1, 7) + x.ofStreet(1, 9), 5);
        Check.same("green in the bin", x.ofStreet(1, 8) + x.ofStreet(1, 10), 6);
        Check.same("back to 0", x.habit(1, 1, 0), 5);
        x.pass(1);
        Check.same("no more paper", x.ofStreet(1, 7) + x.ofStreet(1, 9), 5);
    }

    // Promise 4
    private static void dirt() {
        BinWard x = new BinWard();
        Check.index("no street, wrong dirt", x, () -> x.dirt(0, 5));
        x.street(5, 4);
        Check.index("street 1", x, () -> x.dirt(1, 0));
        Check.index("street -1", x, () -> x.dirt(-1, 0));
        Check.argument("dirt 5", x, () -> x.dirt(0, 5));
        Check.argument("dirt -1", x, () -> x.dirt(0, -1));
        x.habit(0, 1, 5);
        x.habit(0, 0, 5);
        x.pass(1);
        Check.same("dirty of 5 at 4", x.ofStreet(0, 9), 2);
        Check.same("clean of 5 at 4", x.ofStreet(0, 7), 3);
        Check.same("rest is all clean", x.ofStreet(0, 6), 5);
        Check.same("dirt before", x.dirt(0, 0), 4);
        Check.same("dirt now", x.ofStreet(0, 1), 0);
        Check.same("what lies there stays dirty", x.ofStreet(0, 9), 2);
        x.pass(1);
        Check.same("no more dirty", x.ofStreet(0, 9), 2);
        Check.same("but clean", x.ofStreet(0, 7), 8);
        Check.same("dirt before", x.dirt(0, 4), 0);
    }

    // Promise 5
    private static void lorries() {
        BinWard x = new BinWard();
        Check.argument("shift 9", x, () -> x.lorry(9, 0, 0));
        Check.argument("shift 121", x, () -> x.lorry(121, 0, 0));
        Check.argument("first -1", x, () -> x.lorry(10, -1, 0));
        Check.argument("first 3", x, () -> x.lorry(10, 3, 0));
        Check.argument("second -1", x, () -> x.lorry(10, 0, -1));
        Check.argument("second 3", x, () -> x.lorry(10, 0, 3));
        Check.same("lorry(10, 0, 2)", x.lorry(10, 0, 2), 0);
        Check.same("lorry(120, 1, 1)", x.lorry(120, 1, 1), 1);
        Check.same("lorry(60, 2, 0)", x.lorry(60, 2, 0), 2);
        Check.state("a fourth lorry", x, () -> x.lorry(60, 2, 0));
        Check.argument("a fourth lorry of a wrong shift", x, () -> x.lorry(121, 2, 0));
        Check.argument("a fourth lorry of a wrong stream", x, () -> x.lorry(60, 2, 3));
        Check.same("shift of 0", x.ofLorry(0, 0), 10);
        Check.same("first of 0", x.ofLorry(0, 1), 0);
        Check.same("second of 0", x.ofLorry(0, 2), 2);
        Check.same("shift of 1", x.ofLorry(1, 0), 120);
        Check.same("first of 2", x.ofLorry(2, 1), 2);
        Check.same("second of 2", x.ofLorry(2, 2), 0);
    }

    // Promise 6
    private static void rounds() {
        BinWard x = new BinWard();
        Check.index("nothing there", x, () -> x.round(0, 0, 0));
        x.street(1, 0);
        Check.index("no lorry", x, () -> x.round(0, 0, 0));
        x.lorry(120, 0, 0);
        Check.index("lorry -1", x, () -> x.round(-1, 0, 0));
        Check.index("lorry 1", x, () -> x.round(1, 0, 0));
        Check.index("day -1", x, () -> x.round(0, -1, 0));
        Check.index("day 7", x, () -> x.round(0, 7, 0));
        Check.index("street -1", x, () -> x.round(0, 0, -1));
        Check.index("street 1", x, () -> x.round(0, 0, 1));
        Check.same("the first", x.round(0, 3, 0), 1);
        Check.state("again", x, () -> x.round(0, 3, 0));
        Check.same("on another day", x.round(0, 4, 0), 1);
        for (int i = 1; i < 6; i++) {
            x.street(1 + i, 0);
        }
        for (int i = 5; i >= 1; i--) {
            Check.same("street " + i, x.round(0, 3, i), 7 - i);
        }
        Check.state("each once", x, () -> x.round(0, 3, 4));
        Check.index("a wrong day before a street that it has", x, () -> x.round(0, 7, 0));
        x.pass(3);
        Check.same("they are done on the day 3", x.ofLorry(0, 4), 6);
        // 1, then 6 5 4 3 2: 1 + 5 + 4 of driving, 12 for the streets, 2 back
        Check.same("in their order", x.ofLorry(0, 3), 24);
    }

    // Promise 7
    private static void clears() {
        BinWard x = new BinWard();
        Check.index("no lorry", x, () -> x.clear(0, 0));
        x.lorry(50, 0, 0);
        x.street(3, 0);
        x.street(4, 0);
        Check.index("lorry -1", x, () -> x.clear(-1, 0));
        Check.index("lorry 1", x, () -> x.clear(1, 0));
        Check.index("day -1", x, () -> x.clear(0, -1));
        Check.index("day 7", x, () -> x.clear(0, 7));
        Check.same("an empty one", x.clear(0, 0), 0);
        x.round(0, 1, 0);
        x.round(0, 1, 1);
        x.round(0, 2, 1);
        Check.same("two", x.clear(0, 1), 2);
        Check.same("none is left", x.clear(0, 1), 0);
        x.habit(0, 0, 5);
        x.habit(1, 0, 5);
        Check.same("nothing is fetched on the day 1", x.pass(1), 0);
        Check.same("the day 2 was not cleared", x.pass(1), 10);
        Check.same("it can be told anew", x.round(0, 1, 1), 1);
        Check.same("and added to", x.round(0, 1, 0), 2);
    }

    // Promise 8
    private static void eye() {
        BinWard x = paperCity(4);
        Check.argument("eye -1", x, () -> x.eye(-1));
        Check.argument("eye 101", x, () -> x.eye(101));
        Check.same("eye at first", x.eye(100), 60);
        Check.same("eye before", x.eye(0), 100);
        x.pass(7);
        // a full bin of 42 clean and 18 dirty: nothing is thrown out, 5 of 100 of 42 are lost
        Check.same("clean with the eye 0", x.many(1) + bales(x, 0), 40);
        Check.same("dirty with the eye 0", x.many(2) + bales(x, 1), 18);
        BinWard y = paperCity(4);
        y.eye(100);
        y.pass(7);
        Check.same("clean with the eye 100", y.many(1) + bales(y, 0), 40);
        Check.same("dirty with the eye 100", y.many(2) + bales(y, 1), 0);
        BinWard z = paperCity(4);
        z.eye(99);
        z.pass(7);
        Check.same("dirty with the eye 99", z.many(2) + bales(z, 1), 1);
    }

    // Promise 9
    private static void hand() {
        BinWard x = paperCity(4);
        Check.argument("hand -1", x, () -> x.hand(-1));
        Check.argument("hand 51", x, () -> x.hand(51));
        Check.same("hand at first", x.hand(50), 0);
        Check.same("hand before", x.hand(5), 50);
        x.pass(7);
        // 18 dirty: the eye throws out 10, the hand 5
        Check.same("dirty with the hand 5", x.many(2) + bales(x, 1), 3);
    }

    // Promise 10
    private static void oven() {
        BinWard x = new BinWard();
        Check.argument("oven -1", x, () -> x.oven(-1));
        Check.argument("oven 201", x, () -> x.oven(201));
        Check.same("oven at first", x.oven(200), 50);
        Check.same("oven before", x.oven(7), 200);
        x.street(1, 0);
        x.habit(0, 0, 9);
        x.lorry(10, 0, 0);
        x.round(0, 1, 0);
        x.pass(1);
        Check.same("burnt of 9", x.many(12), 7);
        Check.same("oven before", x.oven(0), 7);
    }

    private static BinWard paperCity(int dirt) {
        BinWard x = new BinWard();
        x.street(1, dirt);
        x.habit(0, 1, 9);
        x.lorry(10, 1, 1);
        x.round(0, 0, 0);
        return x;
    }

    private static int bales(BinWard x, int what) {
        int sum = 0;
        for (int i = 0; i < x.many(3); i++) {
            sum += x.ofBale(i, what);
        }
        return sum;
    }
}
