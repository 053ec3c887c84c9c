/** Section 1 of the terms and the promises 2 to 4: each sentence that names a boundary case. */
public final class StreetEdgesTest {
    public static void main(String[] args) {
        streetsAreAtMostSix();
        streetsAreNumberedFromZero();
        placeIsOneToThirty();
        dirtOfANewStreetIsZeroToFour();
        wrongArgumentsAreNamedBeforeTooManyStreets();
        refusedStreetTakesNoNumber();
        habitIsZeroAtFirst();
        habitIsZeroToNine();
        habitStreamIsZeroToTwo();
        habitOfNoStreet();
        habitNamesTheIndexFirst();
        habitsOfTheStreamsStandApart();
        dirtToldIsZeroToFour();
        dirtOfNoStreet();
        dirtNamesTheIndexFirst();
        dirtCountsFromNowOn();
        binHoldsSixty();
        binsOfTheStreamsStandApart();
        allRestIsClean();
        dirtyKilosAreRoundedDown();
        cleanComesInFirst();
        litterOfAStreetIsOneSum();
        litterOfAllStreets();
        Check.end();
    }

    // "STREETS: at most 6" / "Throws IllegalStateException if there were 6"
    private static void streetsAreAtMostSix() {
        BinWard x = Town.at(1, 2, 3, 4, 5);
        Check.same("the sixth street", x.street(6, 0), 5);
        Check.state("a seventh street", x, () -> x.street(7, 0));
        Check.index("there is no street 6", x, () -> x.ofStreet(6, 0));
        Check.same("the sixth one stays", x.ofStreet(5, 0), 6);
    }

    // "numbered from 0"
    private static void streetsAreNumberedFromZero() {
        BinWard x = new BinWard();
        Check.index("none yet", x, () -> x.ofStreet(0, 0));
        Check.same("the first", x.street(1, 0), 0);
        Check.index("there is no street 1 yet", x, () -> x.ofStreet(1, 0));
        Check.same("the second", x.street(1, 0), 1);
        Check.index("street -1", x, () -> x.ofStreet(-1, 0));
    }

    // "each at a PLACE (1 to 30)" / "IllegalArgumentException if place is not 1 to 30"
    private static void placeIsOneToThirty() {
        BinWard x = new BinWard();
        Check.argument("place 0", x, () -> x.street(0, 0));
        Check.argument("place 31", x, () -> x.street(31, 0));
        Check.argument("place -1", x, () -> x.street(-1, 0));
        Check.argument("the least place", x, () -> x.street(Integer.MIN_VALUE, 0));
        Check.argument("the greatest place", x, () -> x.street(Integer.MAX_VALUE, 0));
        Check.same("place 1", x.street(1, 0), 0);
        Check.same("place 30", x.street(30, 0), 1);
        Check.same("it is 1", x.ofStreet(0, 0), 1);
        Check.same("it is 30", x.ofStreet(1, 0), 30);
    }

    // "and DIRT (0 to 4 ...)" / "or dirt not 0 to 4"
    private static void dirtOfANewStreetIsZeroToFour() {
        BinWard x = new BinWard();
        Check.argument("dirt -1", x, () -> x.street(1, -1));
        Check.argument("dirt 5", x, () -> x.street(1, 5));
        Check.argument("the least dirt", x, () -> x.street(1, Integer.MIN_VALUE));
        Check.argument("the greatest dirt", x, () -> x.street(1, Integer.MAX_VALUE));
        Check.same("dirt 0", x.street(1, 0), 0);
        Check.same("dirt 4", x.street(1, 4), 1);
        Check.same("it is 0", x.ofStreet(0, 1), 0);
        Check.same("it is 4", x.ofStreet(1, 1), 4);
    }

    // "If several exceptions apply, the one that is named first is thrown."
    private static void wrongArgumentsAreNamedBeforeTooManyStreets() {
        BinWard x = Town.at(1, 2, 3, 4, 5, 6);
        Check.argument("a seventh street at 0", x, () -> x.street(0, 0));
        Check.argument("a seventh street at 31", x, () -> x.street(31, 0));
        Check.argument("a seventh street of dirt -1", x, () -> x.street(1, -1));
        Check.argument("a seventh street of dirt 5", x, () -> x.street(1, 5));
    }

    // "A method that throws an exception changes nothing."
    private static void refusedStreetTakesNoNumber() {
        BinWard x = new BinWard();
        Check.argument("place 31", x, () -> x.street(31, 4));
        Check.argument("dirt 5", x, () -> x.street(30, 5));
        Check.same("the first that is told", x.street(2, 1), 0);
        Check.same("its place", x.ofStreet(0, 0), 2);
        Check.same("its dirt", x.ofStreet(0, 1), 1);
    }

    // "a HABIT (... 0 at first ...)"
    private static void habitIsZeroAtFirst() {
        BinWard x = Town.at(1);
        x.pass(30);
        for (int stream = 0; stream < 3; stream++) {
            Check.same("asked, stream " + stream, x.ofStreet(0, 3 + stream), 0);
            Check.same("nothing comes, stream " + stream, Town.kilosIn(x, 0, stream), 0);
            Check.same("told, stream " + stream, x.habit(0, stream, 1), 0);
        }
    }

    // "0 to 9 for each STREAM" / "IllegalArgumentException if kilos is not 0 to 9"
    private static void habitIsZeroToNine() {
        BinWard x = Town.at(1);
        for (int stream = 0; stream < 3; stream++) {
            int s = stream;
            Check.same("9", x.habit(0, s, 9), 0);
            Check.argument("kilos -1", x, () -> x.habit(0, s, -1));
            Check.argument("kilos 10", x, () -> x.habit(0, s, 10));
            Check.argument("the least kilos", x, () -> x.habit(0, s, Integer.MIN_VALUE));
            Check.argument("the greatest kilos", x, () -> x.habit(0, s, Integer.MAX_VALUE));
            Check.same("9 as before", x.ofStreet(0, 3 + s), 9);
            Check.same("0", x.habit(0, s, 0), 9);
            Check.same("0 now", x.ofStreet(0, 3 + s), 0);
        }
    }

    // "IndexOutOfBoundsException if ... stream is not 0 to 2"
    private static void habitStreamIsZeroToTwo() {
        BinWard x = Town.at(1);
        Check.index("stream -1", x, () -> x.habit(0, -1, 1));
        Check.index("stream 3", x, () -> x.habit(0, 3, 1));
        Check.index("the least stream", x, () -> x.habit(0, Integer.MIN_VALUE, 1));
        Check.index("the greatest stream", x, () -> x.habit(0, Integer.MAX_VALUE, 1));
        Check.same("stream 0", x.habit(0, 0, 1), 0);
        Check.same("stream 2", x.habit(0, 2, 1), 0);
    }

    // "IndexOutOfBoundsException if there is no such STREET"
    private static void habitOfNoStreet() {
        BinWard none = new BinWard();
        Check.index("no street at all", none, () -> none.habit(0, 0, 1));
        BinWard x = Town.at(1, 2);
        Check.index("street -1", x, () -> x.habit(-1, 0, 1));
        Check.index("street 2 of 2", x, () -> x.habit(2, 0, 1));
        Check.index("the least street", x, () -> x.habit(Integer.MIN_VALUE, 0, 1));
        Check.index("the greatest street", x, () -> x.habit(Integer.MAX_VALUE, 0, 1));
        Check.same("street 1 of 2", x.habit(1, 0, 1), 0);
    }

    // "If several exceptions apply, the one that is named first is thrown."
    private static void habitNamesTheIndexFirst() {
        BinWard x = Town.at(1);
        Check.index("wrong street and kilos", x, () -> x.habit(1, 0, 10));
        Check.index("wrong stream and kilos", x, () -> x.habit(0, 3, -1));
        Check.index("all wrong", x, () -> x.habit(-1, -1, -1));
    }

    // "0 to 9 for each STREAM ...; what comes in a DAY"
    private static void habitsOfTheStreamsStandApart() {
        BinWard x = Town.at(1, 2);
        x.habit(1, 0, 2);
        x.habit(1, 1, 5);
        x.habit(1, 2, 9);
        x.pass(1);
        int[] due = {2, 5, 9};
        for (int stream = 0; stream < 3; stream++) {
            Check.same("of a day, stream " + stream, Town.kilosIn(x, 1, stream), due[stream]);
            Check.same("the other street, stream " + stream, Town.kilosIn(x, 0, stream), 0);
        }
    }

    // "IllegalArgumentException if dirt is not 0 to 4"
    private static void dirtToldIsZeroToFour() {
        BinWard x = new BinWard();
        x.street(1, 3);
        Check.argument("dirt -1", x, () -> x.dirt(0, -1));
        Check.argument("dirt 5", x, () -> x.dirt(0, 5));
        Check.argument("the least dirt", x, () -> x.dirt(0, Integer.MIN_VALUE));
        Check.argument("the greatest dirt", x, () -> x.dirt(0, Integer.MAX_VALUE));
        Check.same("4, 3 before", x.dirt(0, 4), 3);
        Check.same("0, 4 before", x.dirt(0, 0), 4);
        Check.same("0 now", x.ofStreet(0, 1), 0);
    }

    // "IndexOutOfBoundsException if there is no such STREET"
    private static void dirtOfNoStreet() {
        BinWard none = new BinWard();
        Check.index("no street at all", none, () -> none.dirt(0, 1));
        BinWard x = Town.at(1, 2);
        Check.index("street -1", x, () -> x.dirt(-1, 1));
        Check.index("street 2 of 2", x, () -> x.dirt(2, 1));
        Check.index("the least street", x, () -> x.dirt(Integer.MIN_VALUE, 1));
        Check.index("the greatest street", x, () -> x.dirt(Integer.MAX_VALUE, 1));
        Check.same("street 1 of 2", x.dirt(1, 1), 0);
        Check.same("street 0 stays", x.ofStreet(0, 1), 0);
    }

    // "If several exceptions apply, the one that is named first is thrown."
    private static void dirtNamesTheIndexFirst() {
        BinWard x = Town.at(1);
        Check.index("both wrong", x, () -> x.dirt(1, 5));
        Check.index("both below 0", x, () -> x.dirt(-1, -1));
    }

    // "Tells the DIRT of a STREET from now on."
    private static void dirtCountsFromNowOn() {
        BinWard x = new BinWard();
        x.street(1, 4);
        x.habit(0, 1, 5);
        x.habit(0, 2, 5);
        x.pass(1);
        x.dirt(0, 0);
        Check.same("PAPER that lies there stays dirty", x.ofStreet(0, 9), 2);
        Check.same("GREEN, too", x.ofStreet(0, 10), 2);
        x.pass(1);
        Check.same("no more dirty PAPER", x.ofStreet(0, 9), 2);
        Check.same("clean PAPER comes", x.ofStreet(0, 7), 8);
    }

    // "with a BIN for each STREAM that holds 60" / "what a BIN does not hold lies ... as LITTER"
    private static void binHoldsSixty() {
        for (int stream = 0; stream < 3; stream++) {
            BinWard x = Town.at(1);
            x.habit(0, stream, 6);
            x.pass(9);
            Check.same("54 have room, stream " + stream, Town.kilosIn(x, 0, stream), 54);
            x.pass(1);
            Check.same("60 have room, stream " + stream, Town.kilosIn(x, 0, stream), 60);
            Check.same("no litter of 60, stream " + stream, x.ofStreet(0, 2), 0);
            x.habit(0, stream, 1);
            x.pass(1);
            Check.same("no more than 60, stream " + stream, Town.kilosIn(x, 0, stream), 60);
            Check.same("the 61st kilo is litter, stream " + stream, x.ofStreet(0, 2), 1);
        }
    }

    // "a BIN for each STREAM": a full one takes nothing from the room of the others
    private static void binsOfTheStreamsStandApart() {
        BinWard x = Town.at(1, 1);
        Town.fill(x, 0, Town.PAPER, 60, 0);
        for (int stream = 0; stream < 3; stream++) {
            x.habit(0, stream, 1);
            x.habit(1, stream, 1);
        }
        x.pass(1);
        Check.same("REST has room", x.ofStreet(0, 6), 1);
        Check.same("GREEN has room", x.ofStreet(0, 8), 1);
        Check.same("PAPER has none", x.ofStreet(0, 2), 1);
        Check.same("the other street has room", x.ofStreet(1, 2), 0);
    }

    // "of REST all are CLEAN"
    private static void allRestIsClean() {
        BinWard x = new BinWard();
        x.street(1, 4);
        x.habit(0, 0, 9);
        x.pass(1);
        Check.same("9 clean of 9 at dirt 4", x.ofStreet(0, 6), 9);
    }

    // "HABIT times DIRT, divided by 10, is DIRTY, the rest CLEAN" / "divided is rounded down"
    private static void dirtyKilosAreRoundedDown() {
        int[][] habitDirtDirty = {{9, 0, 0}, {9, 1, 0}, {4, 2, 0}, {5, 2, 1}, {9, 2, 1}, {3, 3, 0},
            {4, 3, 1}, {6, 3, 1}, {7, 3, 2}, {9, 3, 2}, {2, 4, 0}, {3, 4, 1}, {5, 4, 2}, {7, 4, 2},
            {8, 4, 3}, {9, 4, 3}, {0, 4, 0}};
        for (int[] row : habitDirtDirty) {
            for (int stream = 1; stream < 3; stream++) {
                BinWard x = new BinWard();
                x.street(1, row[1]);
                x.habit(0, stream, row[0]);
                x.pass(1);
                String what = row[0] + " at dirt " + row[1] + ", stream " + stream;
                Check.same("dirty of " + what, x.ofStreet(0, 8 + stream), row[2]);
                Check.same("clean of " + what, x.ofStreet(0, 6 + stream), row[0] - row[2]);
            }
        }
    }

    // "(the CLEAN comes in first)": 3 clean and 2 dirty come to what the bin has before
    private static void cleanComesInFirst() {
        int[][] beforeCleanDirtyLitter = {{55, 58, 2, 0}, {56, 59, 1, 1}, {57, 60, 0, 2},
            {58, 60, 0, 3}, {59, 60, 0, 4}, {60, 60, 0, 5}};
        for (int[] row : beforeCleanDirtyLitter) {
            for (int stream = 1; stream < 3; stream++) {
                BinWard x = Town.at(1);
                Town.fill(x, 0, stream, row[0], 0);
                x.dirt(0, 4);
                x.habit(0, stream, 5);
                x.pass(1);
                String what = ", " + row[0] + " before, stream " + stream;
                Check.same("clean" + what, x.ofStreet(0, 6 + stream), row[1]);
                Check.same("dirty" + what, x.ofStreet(0, 8 + stream), row[2]);
                Check.same("litter" + what, x.ofStreet(0, 2), row[3]);
            }
        }
    }

    // "lies in the STREET as LITTER": of all its bins together, day by day
    private static void litterOfAStreetIsOneSum() {
        BinWard x = new BinWard();
        x.street(1, 4);
        for (int stream = 0; stream < 3; stream++) {
            Town.fill(x, 0, stream, 60, 0);
        }
        x.dirt(0, 4);
        x.habit(0, 0, 2);
        x.habit(0, 1, 3);
        x.habit(0, 2, 9);
        x.pass(1);
        Check.same("of the three streams", x.ofStreet(0, 2), 14);
        x.pass(2);
        Check.same("of three days", x.ofStreet(0, 2), 42);
    }

    // "17 LITTER in all STREETS"
    private static void litterOfAllStreets() {
        BinWard x = Town.at(1, 2, 3);
        Check.same("none", x.many(17), 0);
        for (int street = 0; street < 3; street++) {
            x.habit(street, 0, 9);
        }
        x.pass(7);
        Check.same("3 of each", x.many(17), 9);
        Check.same("3 of the last one", x.ofStreet(2, 2), 3);
        x.sweep(1);
        Check.same("without what was swept", x.many(17), 6);
    }
}
