/** Section 3 of the terms and the promises 8 to 11, 14 and 19: each sentence with a boundary case. */
public final class DayEdgesTest {
    private static final int REST = Town.REST;
    private static final int PAPER = Town.PAPER;
    private static final int GREEN = Town.GREEN;

    public static void main(String[] args) {
        day();
        line();
        baler();
        heap();
        ovenAndPit();
        refusals();
        Check.end();
    }

    private static void day() {
        passIsOneToThirty();
        passAnswersWhatWasFetched();
        manyDaysAreAsOneByOne();
        nowIsZeroAtFirst();
        theWeekBeginsAgain();
        habitsComeBeforeTheRounds();
        lorriesGoByNumbers();
        restBeforePaperOfOneLorry();
        restBeforePaperOfAnotherLorry();
        loadsOfRestByLorries();
        loadsOfRestByChambers();
        loadsOfPaperByLorries();
        loadsOfPaperByChambers();
    }

    private static void line() {
        eyeIsZeroToOneHundred();
        eyeIsSixtyAtFirst();
        outIsRoundedDown();
        handIsZeroToFifty();
        handIsZeroAtFirst();
        handTakesWhatTheEyeLeft();
        handOfFifty();
        handOfADayForAllLoads();
        handIsNotKeptForLater();
        lostIsRoundedDown();
        outHandAndLostAreOneLoad();
        eachLoadOfPaperIsSortedAtOnce();
        aLoadOfDirtyKilosAlone();
        aLoadOfAsManyCleanAsDirty();
    }

    private static void baler() {
        baleOfFortyOrMore();
        twoLoadsMakeOneBale();
        dirtyOfABaleIsRoundedDown();
        secondBaleOfWhatIsLeft();
        baleHasItsDay();
        twentyBalesEver();
        openedBalesMakeNoRoomForMore();
    }

    private static void heap() {
        goneIsRoundedUpAndCompostDown();
        heapRipensEachDay();
        dirtyStaysInTheHeap();
        allLoadsComeToOneHeap();
    }

    private static void ovenAndPit() {
        mostIsZeroToTwoHundred();
        mostIsFiftyAtFirst();
        ovenBurnsUpToItsMost();
        mostOfTwoHundred();
        mostOfZero();
        mostForAllLoadsOfADay();
        mostIsAnewEachDay();
        paperGetsWhatRestLeftOfTheOven();
        heatIsThreeForEachKilo();
        ashIsAQuarterRoundedDown();
        ashOfEachLoadByItself();
        ashDoesNotRot();
        aHalfOfTheUnburntCanRot();
        theHalfOfEachLoadByItself();
        gasFromFiftyOn();
        gasOfSweptLitterTheNextDay();
    }

    private static void refusals() {
        sweepOfNoStreet();
        sweepOfNothing();
        aHalfOfTheLitterCanRot();
        manyIsAskedZeroToSeventeen();
    }

    // "IllegalArgumentException if days is not 1 to 30"
    private static void passIsOneToThirty() {
        BinWard x = Town.at(1);
        x.habit(0, 0, 1);
        Check.argument("0 days", x, () -> x.pass(0));
        Check.argument("-1 days", x, () -> x.pass(-1));
        Check.argument("31 days", x, () -> x.pass(31));
        Check.argument("the least days", x, () -> x.pass(Integer.MIN_VALUE));
        Check.argument("the greatest days", x, () -> x.pass(Integer.MAX_VALUE));
        Check.same("no day went by", x.many(0), 0);
        x.pass(1);
        Check.same("1 day", x.many(0), 1);
        x.pass(30);
        Check.same("30 days more", x.many(0), 31);
        Check.same("31 habits", x.ofStreet(0, 6), 31);
    }

    // "Returns how many kilos were fetched."
    private static void passAnswersWhatWasFetched() {
        BinWard x = Town.at(1, 30);
        x.habit(0, 0, 2);
        x.habit(0, 1, 3);
        x.habit(1, 2, 5);
        Check.same("none without a lorry", x.pass(1), 0);
        Town.daily(x, 30, 0, 1, 0);
        Town.daily(x, 62, 2, 2, 1);
        Check.same("of all streets, streams and lorries, with what lay there", x.pass(1), 20);
        Check.same("of all days of this call", x.pass(30), 300);
        Check.same("of the last call alone", x.pass(2), 20);
        Check.same("ever", x.many(16), 340);
    }

    // "Lets DAYS go by."
    private static void manyDaysAreAsOneByOne() {
        BinWard x = busy();
        BinWard y = busy();
        int sum = 0;
        for (int i = 0; i < 30; i++) {
            sum += y.pass(1);
        }
        Check.same("fetched", x.pass(30), sum);
        Check.same("digest", x.digest(), y.digest());
    }

    private static BinWard busy() {
        BinWard x = Town.at(3, 9, 20);
        for (int i = 0; i < 3; i++) {
            x.dirt(i, 2 + i);
            for (int stream = 0; stream < 3; stream++) {
                x.habit(i, stream, 9 - 2 * i - stream);
            }
        }
        x.hand(2);
        x.oven(20);
        x.lorry(45, 1, 0);
        x.lorry(60, 2, 0);
        for (int day = 0; day < 7; day++) {
            x.round(day % 2, day, day % 3);
            x.round(day % 2, day, (day + 1) % 3);
        }
        return x;
    }

    // "NOW is 1 more (0 at first)": the first DAY is 1
    private static void nowIsZeroAtFirst() {
        BinWard x = Town.at(1);
        x.habit(0, 0, 1);
        x.lorry(60, 0, 0);
        x.round(0, 0, 0);
        Check.same("at first", x.many(0), 0);
        Check.same("the first day is none of the weekday 0", x.pass(1), 0);
        Check.same("NOW is 1", x.many(0), 1);
        BinWard y = Town.at(1);
        y.habit(0, 0, 1);
        y.lorry(60, 0, 0);
        y.round(0, 1, 0);
        Check.same("but of the weekday 1", y.pass(1), 1);
    }

    // "the DAY of the week is NOW modulo 7"
    private static void theWeekBeginsAgain() {
        BinWard x = Town.at(1);
        x.habit(0, 0, 1);
        x.lorry(60, 0, 0);
        x.round(0, 0, 0);
        for (int day = 1; day <= 22; day++) {
            Check.same("fetched on the day " + day, x.pass(1), day % 7 == 0 ? 7 : 0);
        }
        x.clear(0, 0);
        x.round(0, 6, 0);
        Check.same("not from 23 to 26", x.pass(4), 0);
        Check.same("27 is of the weekday 6", x.pass(1), 6);
    }

    // "(1) Each STREET, STREAM by STREAM, gets its HABIT. (2) LORRIES ...: the ROUND of that DAY."
    private static void habitsComeBeforeTheRounds() {
        BinWard x = Town.at(1);
        x.habit(0, 0, 9);
        Town.daily(x, 60, 0, 0, 0);
        Check.same("what comes that day is fetched", x.pass(1), 9);
        Check.same("none is left", x.ofStreet(0, 6), 0);
        BinWard y = Town.at(1);
        Town.fill(y, 0, REST, 60, 0);
        y.habit(0, 0, 9);
        Town.daily(y, 60, 0, 0, 0);
        Check.same("what has no room that day is not", y.pass(1), 60);
        Check.same("it is litter", y.ofStreet(0, 2), 9);
    }

    // "(2) LORRIES by numbers"
    private static void lorriesGoByNumbers() {
        BinWard x = Town.at(1);
        x.habit(0, 0, 9);
        Town.daily(x, 60, 1, 0, 0);
        Town.daily(x, 60, 0, 0, 0);
        x.pass(1);
        Check.same("the first gets all", x.ofLorry(0, 6), 9);
        Check.same("the second gets nothing", x.ofLorry(1, 6), 0);
        Check.same("though it came", x.ofLorry(1, 4), 1);
    }

    // "LOADS in order, REST first": else 1 of PAPER would burn, and 2 of REST rot by a half
    private static void restBeforePaperOfOneLorry() {
        BinWard x = Town.at(1);
        Town.fill(x, 0, REST, 11, 0);
        Town.fill(x, 0, PAPER, 20, 0);
        Town.daily(x, 60, PAPER, REST, 0);
        x.oven(10);
        x.pass(1);
        Check.same("burnt", x.many(12), 10);
        Check.same("2 of ash, 1 of REST, 1 of PAPER", x.many(9), 4);
        Check.same("halves of 1 and 1", x.many(10), 0);
    }

    // the same
    private static void restBeforePaperOfAnotherLorry() {
        BinWard x = Town.at(1);
        Town.fill(x, 0, REST, 11, 0);
        Town.fill(x, 0, PAPER, 20, 0);
        Town.daily(x, 60, PAPER, PAPER, 0);
        Town.daily(x, 60, REST, REST, 0);
        x.oven(10);
        x.pass(1);
        Check.same("burnt", x.many(12), 10);
        Check.same("2 of ash, 1 of REST, 1 of PAPER", x.many(9), 4);
        Check.same("halves of 1 and 1", x.many(10), 0);
    }

    // "(of one STREAM by LORRIES, ...)": else 4 of 5 would burn first, with 1 of ash
    private static void loadsOfRestByLorries() {
        BinWard x = Town.at(1, 1);
        Town.fill(x, 0, REST, 3, 0);
        Town.fill(x, 1, REST, 5, 0);
        Town.daily(x, 60, REST, REST, 0);
        Town.daily(x, 60, REST, REST, 1);
        x.oven(4);
        x.pass(1);
        Check.same("no ash of 3 and 1", x.many(13), 0);
        Check.same("a half of 4 can rot", x.many(10), 2);
    }

    // "(... the first CHAMBER first)": 5 burn of the load of 150, none of the load of 5
    private static void loadsOfRestByChambers() {
        BinWard x = Town.at(1, 1, 1);
        Town.fill(x, 0, REST, 60, 0);
        Town.fill(x, 1, REST, 60, 0);
        Town.fill(x, 2, REST, 35, 0);
        Town.daily(x, 60, REST, REST, 0, 1, 2);
        x.oven(5);
        x.pass(1);
        Check.same("halves of 145 and 5, 1 is gas", x.many(10), 72 + 2 - 1);
    }

    // by LORRIES: the first bale is of the dirty load
    private static void loadsOfPaperByLorries() {
        BinWard x = Town.at(1, 1);
        Town.fill(x, 0, PAPER, 36, 24);
        Town.fill(x, 1, PAPER, 40, 0);
        Town.daily(x, 60, REST, PAPER, 0);
        Town.daily(x, 60, PAPER, REST, 1);
        x.eye(0);
        x.pass(1);
        Check.same("24 times 40 by 59", x.ofBale(0, 1), 16);
        Check.same("8 times 40 by 57", x.ofBale(1, 1), 5);
    }

    // the first CHAMBER first: 143 clean kilos make three bales before the dirty ones come
    private static void loadsOfPaperByChambers() {
        BinWard x = Town.at(1, 1, 1, 1);
        Town.fill(x, 0, PAPER, 60, 0);
        Town.fill(x, 1, PAPER, 60, 0);
        Town.fill(x, 2, PAPER, 30, 0);
        Town.fill(x, 3, PAPER, 36, 24);
        Town.daily(x, 60, PAPER, PAPER, 0, 1, 2, 3);
        x.eye(0);
        x.pass(1);
        int[] dirty = {0, 0, 0, 11, 12};
        Check.same("bales", x.many(3), 5);
        for (int i = 0; i < 5; i++) {
            Check.same("dirty of the bale " + i, x.ofBale(i, 1), dirty[i]);
        }
    }

    // "an EYE (0 to 100 ...)" / "IllegalArgumentException if eye is not 0 to 100"
    private static void eyeIsZeroToOneHundred() {
        BinWard x = new BinWard();
        x.eye(37);
        Check.argument("-1", x, () -> x.eye(-1));
        Check.argument("101", x, () -> x.eye(101));
        Check.argument("the least", x, () -> x.eye(Integer.MIN_VALUE));
        Check.argument("the greatest", x, () -> x.eye(Integer.MAX_VALUE));
        Check.same("0, 37 before", x.eye(0), 37);
        Check.same("100, 0 before", x.eye(100), 0);
        Check.same("100 before", x.eye(1), 100);
    }

    // "60 at first"
    private static void eyeIsSixtyAtFirst() {
        BinWard x = Town.withLoad(PAPER, 15, 10);
        x.pass(1);
        Check.same("6 of 10 are out", x.many(2), 4);
        Check.same("told", x.eye(0), 60);
    }

    // "OUT is DIRTY times EYE, divided by 100"
    private static void outIsRoundedDown() {
        int[][] eyeDirtyOut = {{0, 10, 0}, {1, 10, 0}, {9, 10, 0}, {10, 10, 1}, {19, 10, 1},
            {50, 1, 0}, {50, 2, 1}, {50, 3, 1}, {60, 1, 0}, {60, 2, 1}, {99, 1, 0}, {99, 10, 9},
            {100, 1, 1}, {100, 10, 10}};
        for (int[] row : eyeDirtyOut) {
            BinWard x = Town.withLoad(PAPER, 15, row[1]);
            x.eye(row[0]);
            x.pass(1);
            String what = row[1] + " by the eye " + row[0];
            Check.same("dirty left of " + what, x.many(2), row[1] - row[2]);
            Check.same("no clean kilo is out: " + what, x.many(1), 15);
            Check.same("out is burnt: " + what, x.many(12), row[2]);
        }
    }

    // "a HAND (0 to 50 ...)" / "IllegalArgumentException if hand is not 0 to 50"
    private static void handIsZeroToFifty() {
        BinWard x = new BinWard();
        x.hand(7);
        Check.argument("-1", x, () -> x.hand(-1));
        Check.argument("51", x, () -> x.hand(51));
        Check.argument("the least", x, () -> x.hand(Integer.MIN_VALUE));
        Check.argument("the greatest", x, () -> x.hand(Integer.MAX_VALUE));
        Check.same("0, 7 before", x.hand(0), 7);
        Check.same("50, 0 before", x.hand(50), 0);
        Check.same("50 before", x.hand(1), 50);
    }

    // "0 at first"
    private static void handIsZeroAtFirst() {
        BinWard x = Town.withLoad(PAPER, 15, 10);
        x.eye(0);
        x.pass(1);
        Check.same("all 10 are left", x.many(2), 10);
        Check.same("told", x.hand(3), 0);
    }

    // "then the HAND's what is left of that, as much as it can still today"
    private static void handTakesWhatTheEyeLeft() {
        int[][] handLeft = {{0, 4}, {1, 3}, {3, 1}, {4, 0}, {5, 0}, {50, 0}};
        for (int[] row : handLeft) {
            BinWard x = Town.withLoad(PAPER, 15, 10);
            x.hand(row[0]);
            x.pass(1);
            Check.same("left by the hand " + row[0] + " of 4", x.many(2), row[1]);
            Check.same("burnt with the hand " + row[0], x.many(12), 10 - row[1]);
            Check.same("clean with the hand " + row[0], x.many(1), 15);
        }
    }

    // "0 to 50 DIRTY kilos that people throw out in a DAY": loads of 48 and 24 dirty
    private static void handOfFifty() {
        BinWard x = Town.at(1, 1, 1);
        for (int i = 0; i < 3; i++) {
            Town.fill(x, i, PAPER, 36, 24);
        }
        Town.daily(x, 60, PAPER, PAPER, 0, 1, 2);
        x.eye(0);
        x.hand(50);
        x.pass(1);
        int dirty = x.many(2);
        for (int i = 0; i < x.many(3); i++) {
            dirty += x.ofBale(i, 1);
        }
        Check.same("22 of 72 are left", dirty, 22);
    }

    // "in a DAY"
    private static void handOfADayForAllLoads() {
        BinWard x = Town.at(1, 1);
        Town.fill(x, 0, PAPER, 3, 2);
        Town.fill(x, 1, PAPER, 3, 2);
        Town.daily(x, 60, PAPER, PAPER, 0);
        Town.daily(x, 60, PAPER, PAPER, 1);
        x.eye(0);
        x.hand(3);
        x.pass(1);
        Check.same("2 and 1 of 4", x.many(2), 1);
        Check.same("3 are burnt", x.many(12), 3);
    }

    // "as much as it can still today"
    private static void handIsNotKeptForLater() {
        BinWard x = Town.at(1);
        Town.daily(x, 60, PAPER, PAPER, 0);
        x.eye(0);
        x.hand(1);
        x.pass(5);
        x.dirt(0, 4);
        x.habit(0, PAPER, 5);
        x.pass(1);
        Check.same("1 of 2", x.many(2), 1);
        x.pass(1);
        Check.same("1 of 2 more", x.many(2), 2);
    }

    // "LOST is CLEAN times 5, divided by 100"
    private static void lostIsRoundedDown() {
        int[][] cleanLost = {{1, 0}, {19, 0}, {20, 1}, {39, 1}, {40, 2}, {59, 2}, {60, 3}, {99, 4},
            {100, 5}, {139, 6}, {149, 7}, {150, 7}};
        for (int[] row : cleanLost) {
            BinWard x = Town.withLoad(PAPER, row[0], 0);
            x.pass(1);
            int left = x.many(1) + 40 * x.many(3);
            Check.same("left of " + row[0], left, row[0] - row[1]);
            Check.same("lost of " + row[0], x.many(12), row[1]);
        }
        BinWard y = Town.withLoad(PAPER, 12, 8);
        y.eye(0);
        y.pass(1);
        Check.same("none of 12 clean, though 20 came", y.many(12), 0);
    }

    // "OUT, what the HAND threw out, and LOST together are REST, as a LOAD of it"
    private static void outHandAndLostAreOneLoad() {
        BinWard x = Town.withLoad(PAPER, 20, 4);
        x.eye(50);
        x.hand(1);
        x.pass(1);
        Check.same("2, 1 and 1 are burnt", x.many(12), 4);
        Check.same("1 is ash of the 4", x.many(13), 1);
        BinWard y = Town.withLoad(PAPER, 20, 4);
        y.eye(50);
        y.hand(1);
        y.oven(0);
        y.pass(1);
        Check.same("a half of the 4 can rot", y.many(10), 2);
    }

    // "as a LOAD of it, at once": not all PAPER of the DAY together
    private static void eachLoadOfPaperIsSortedAtOnce() {
        BinWard x = Town.at(1, 1);
        Town.fill(x, 0, PAPER, 40, 0);
        Town.fill(x, 1, PAPER, 40, 0);
        Town.daily(x, 60, PAPER, PAPER, 0);
        Town.daily(x, 60, PAPER, PAPER, 1);
        x.pass(1);
        Check.same("2 and 2 are lost", x.many(12), 4);
        Check.same("no ash of 2 and 2", x.many(13), 0);
    }

    // "its CHAMBERS with something in them are LOADS": what the first lorry left is 4 dirty
    private static void aLoadOfDirtyKilosAlone() {
        for (int stream = 1; stream < 3; stream++) {
            BinWard x = Town.at(1, 1, 1);
            Town.fill(x, 0, stream, 60, 0);
            Town.fill(x, 1, stream, 60, 0);
            Town.fill(x, 2, stream, 30, 4);
            Town.daily(x, 60, stream, REST, 0, 1, 2);
            Town.daily(x, 60, stream, REST, 2);
            x.eye(50);
            x.pass(1);
            Check.same("150 by the first, stream " + stream, x.ofLorry(0, 6), 150);
            Check.same("4 by the second, stream " + stream, x.ofLorry(1, 6), 4);
            Check.same("of PAPER 2 are out, stream " + stream, x.many(2), stream == PAPER ? 2 : 0);
            Check.same("of GREEN 4 stay, stream " + stream, x.many(6), stream == GREEN ? 4 : 0);
        }
    }

    // the same: what the first lorry left is 4 clean and 4 dirty
    private static void aLoadOfAsManyCleanAsDirty() {
        for (int stream = 1; stream < 3; stream++) {
            BinWard x = Town.at(1, 1, 1);
            Town.fill(x, 0, stream, 60, 0);
            Town.fill(x, 1, stream, 60, 0);
            Town.fill(x, 2, stream, 34, 4);
            Town.daily(x, 60, stream, REST, 0, 1, 2);
            Town.daily(x, 60, stream, REST, 2);
            x.eye(50);
            x.pass(1);
            Check.same("8 by the second, stream " + stream, x.ofLorry(1, 6), 8);
            Check.same("of PAPER 2 are out, stream " + stream, x.many(2), stream == PAPER ? 2 : 0);
            Check.same("of GREEN 4 stay, stream " + stream, x.many(6), stream == GREEN ? 4 : 0);
        }
    }

    // "as long as it has 40 or more, CLEAN and DIRTY together, a BALE is made of 40"
    private static void baleOfFortyOrMore() {
        int[][] cleanBalesLeft = {{41, 0, 39}, {42, 1, 0}, {43, 1, 1}, {83, 1, 39}, {84, 2, 0},
            {85, 2, 1}};
        for (int[] row : cleanBalesLeft) {
            BinWard x = Town.withLoad(PAPER, row[0], 0);
            x.pass(1);
            Check.same("bales of " + row[0], x.many(3), row[1]);
            Check.same("left of " + row[0], x.many(1), row[2]);
            Check.same("stored of " + row[0], x.many(4), row[1]);
        }
        BinWard y = Town.withLoad(PAPER, 24, 15);
        y.eye(0);
        y.pass(1);
        Check.same("23 and 15 are 38", y.many(3), 0);
        BinWard z = Town.withLoad(PAPER, 25, 16);
        z.eye(0);
        z.pass(1);
        Check.same("24 and 16 are 40", z.many(3), 1);
        Check.same("its clean", z.ofBale(0, 0), 24);
        Check.same("its dirty", z.ofBale(0, 1), 16);
    }

    // "behind each LOAD of PAPER": what is in the BALER before counts, too
    private static void twoLoadsMakeOneBale() {
        BinWard x = Town.at(1, 1);
        Town.fill(x, 0, PAPER, 30, 0);
        Town.fill(x, 1, PAPER, 30, 0);
        Town.daily(x, 60, PAPER, PAPER, 0);
        Town.daily(x, 60, PAPER, PAPER, 1);
        x.pass(1);
        Check.same("29 and 29", x.many(3), 1);
        Check.same("18 are left", x.many(1), 18);
        BinWard y = Town.at(1);
        Town.daily(y, 60, PAPER, PAPER, 0);
        y.habit(0, PAPER, 8);
        y.pass(4);
        Check.same("32 in four days", y.many(1), 32);
        y.pass(1);
        Check.same("40 in five", y.many(3), 1);
    }

    // "of DIRTY its DIRTY times 40, divided by all it has, of CLEAN the others"
    private static void dirtyOfABaleIsRoundedDown() {
        int[][] cleanDirtyBaleLeft = {{41, 1, 1, 0}, {42, 1, 0, 1}, {41, 2, 1, 1}, {42, 2, 1, 1}};
        for (int[] row : cleanDirtyBaleLeft) {
            BinWard x = Town.withLoad(PAPER, row[0], row[1]);
            x.eye(0);
            x.pass(1);
            String what = " of " + (row[0] - 2) + " and " + row[1];
            Check.same("dirty" + what, x.ofBale(0, 1), row[2]);
            Check.same("clean" + what, x.ofBale(0, 0), 40 - row[2]);
            Check.same("dirty left" + what, x.many(2), row[3]);
            Check.same("clean left" + what, x.many(1), row[0] - 2 - 40 + row[2]);
        }
    }

    // "divided by all it has": as it is then
    private static void secondBaleOfWhatIsLeft() {
        BinWard x = Town.withLoad(PAPER, 93, 37);
        x.eye(0);
        x.pass(1);
        // 89 and 37; then 60 and 26; then 32 and 14
        int[] dirty = {11, 12, 12};
        Check.same("bales", x.many(3), 3);
        for (int i = 0; i < 3; i++) {
            Check.same("dirty of the bale " + i, x.ofBale(i, 1), dirty[i]);
        }
        Check.same("clean left", x.many(1), 4);
        Check.same("dirty left", x.many(2), 2);
    }

    // "3 on which DAY it was made"
    private static void baleHasItsDay() {
        BinWard x = Town.at(1);
        x.habit(0, PAPER, 8);
        Town.daily(x, 60, PAPER, PAPER, 0);
        x.pass(30);
        Check.same("240 kilos", x.many(3), 6);
        for (int i = 0; i < 6; i++) {
            Check.same("day of the bale " + i, x.ofBale(i, 3), 5 * (i + 1));
        }
    }

    // "BALES: at most 20 ever are kept apart ... (no more are made then; ... stays)"
    private static void twentyBalesEver() {
        BinWard x = sixStreetsOfPaper(0);
        x.pass(15);
        Check.same("780 kilos", x.many(3), 19);
        Check.same("20 are left", x.many(1), 20);
        Check.index("there is no bale 19 yet", x, () -> x.ofBale(19, 0));
        x.pass(1);
        Check.same("832 kilos", x.many(3), 20);
        Check.same("32 are left", x.many(1), 32);
        Check.same("the bale 19", x.ofBale(19, 0), 40);
        x.pass(1);
        Check.same("884 kilos", x.many(3), 20);
        Check.same("84 stay", x.many(1), 84);
        Check.index("there is no bale 20", x, () -> x.ofBale(20, 0));
    }

    // "at most 20 ever": those that are sold or opened count, too
    private static void openedBalesMakeNoRoomForMore() {
        BinWard x = sixStreetsOfPaper(4);
        x.eye(0);
        x.pass(16);
        Check.same("848 kilos", x.many(3), 20);
        Check.same("48 are left", x.many(1) + x.many(2), 48);
        x.sell(0, 40, 1);
        x.sell(1, 0, 1);
        Check.same("88 then", x.open(1), 88);
        x.pass(1);
        Check.same("no more", x.many(3), 20);
        Check.same("141 stay", x.many(1) + x.many(2), 141);
        Check.same("18 are stored", x.many(4), 18);
    }

    /** Brings one load of 54 kilos a day, in one chamber. */
    private static BinWard sixStreetsOfPaper(int dirt) {
        BinWard x = Town.at(1, 1, 1, 1, 1, 1);
        for (int i = 0; i < 6; i++) {
            x.dirt(i, dirt);
            x.habit(i, PAPER, 9);
        }
        Town.daily(x, 60, PAPER, REST, 0, 1, 2, 3, 4, 5);
        return x;
    }

    // "a tenth, rounded up, is GONE ..., a twentieth of the same is COMPOST (both are in it no more)"
    private static void goneIsRoundedUpAndCompostDown() {
        int[][] cleanGoneCompost = {{1, 1, 0}, {9, 1, 0}, {10, 1, 0}, {11, 2, 0}, {19, 2, 0},
            {20, 2, 1}, {21, 3, 1}, {30, 3, 1}, {39, 4, 1}, {40, 4, 2}, {41, 5, 2}};
        for (int[] row : cleanGoneCompost) {
            BinWard x = Town.withLoad(GREEN, row[0], 0);
            x.pass(1);
            Check.same("gone of " + row[0], x.many(8), row[1]);
            Check.same("compost of " + row[0], x.many(7), row[2]);
            Check.same("left of " + row[0], x.many(5), row[0] - row[1] - row[2]);
        }
        BinWard none = new BinWard();
        none.pass(30);
        Check.same("nothing gone of nothing", none.many(8), 0);
    }

    // "each DAY, of its CLEAN GREEN as it is then"
    private static void heapRipensEachDay() {
        BinWard x = Town.withLoad(GREEN, 41, 0);
        int[][] leftGoneCompost = {{34, 5, 2}, {29, 9, 3}, {25, 12, 4}, {21, 15, 5}, {17, 18, 6},
            {15, 20, 6}};
        for (int[] row : leftGoneCompost) {
            x.pass(1);
            Check.same("left", x.many(5), row[0]);
            Check.same("gone ever", x.many(8), row[1]);
            Check.same("compost ever", x.many(7), row[2]);
        }
    }

    // "DIRTY kilos stay in it"
    private static void dirtyStaysInTheHeap() {
        BinWard x = Town.withLoad(GREEN, 3, 2);
        int[] left = {2, 1, 0, 0};
        for (int i = 0; i < left.length; i++) {
            x.pass(1);
            Check.same("clean left, day " + i, x.many(5), left[i]);
            Check.same("dirty left, day " + i, x.many(6), 2);
        }
        Check.same("3 are gone", x.many(8), 3);
        BinWard y = Town.withLoad(GREEN, 36, 24);
        y.pass(1);
        Check.same("a twentieth of 36, not of 60", y.many(7), 1);
        Check.same("a tenth of 36, not of 60", y.many(8), 4);
    }

    // "GREEN to the HEAP": of all LOADS of a DAY, with what lies there
    private static void allLoadsComeToOneHeap() {
        BinWard x = Town.at(1, 1);
        Town.fill(x, 0, GREEN, 6, 4);
        Town.fill(x, 1, GREEN, 13, 2);
        Town.daily(x, 60, GREEN, REST, 0);
        Town.daily(x, 60, REST, GREEN, 1);
        x.pass(1);
        Check.same("2 of 19 are gone", x.many(5), 17);
        Check.same("none of 19 is compost", x.many(7), 0);
        Check.same("4 and 2 dirty", x.many(6), 6);
        Check.same("all that came counts", x.rate(0), 100);
        x.dirt(0, 2);
        x.habit(0, GREEN, 5);
        x.pass(1);
        Check.same("3 and 1 of 21", x.many(5), 17);
        Check.same("1 dirty more", x.many(6), 7);
        Check.same("all that came counts", x.rate(0), 100);
    }

    // "MOST in a DAY: 0 to 200" / "IllegalArgumentException if most is not 0 to 200"
    private static void mostIsZeroToTwoHundred() {
        BinWard x = new BinWard();
        x.oven(7);
        Check.argument("-1", x, () -> x.oven(-1));
        Check.argument("201", x, () -> x.oven(201));
        Check.argument("the least", x, () -> x.oven(Integer.MIN_VALUE));
        Check.argument("the greatest", x, () -> x.oven(Integer.MAX_VALUE));
        Check.same("0, 7 before", x.oven(0), 7);
        Check.same("200, 0 before", x.oven(200), 0);
        Check.same("200 before", x.oven(1), 200);
    }

    // "50 at first"
    private static void mostIsFiftyAtFirst() {
        BinWard x = Town.withLoad(REST, 60, 0);
        x.pass(1);
        Check.same("burnt", x.many(12), 50);
        Check.same("told", x.oven(0), 50);
    }

    // "up to its MOST in a DAY ..., what is more to the PIT"
    private static void ovenBurnsUpToItsMost() {
        int[][] kilosBurnt = {{49, 49}, {50, 50}, {51, 50}};
        for (int[] row : kilosBurnt) {
            BinWard x = Town.withLoad(REST, row[0], 0);
            x.pass(1);
            Check.same("burnt of " + row[0], x.many(12), row[1]);
            Check.same("12 of ash and what is more of " + row[0], x.many(9), 12 + row[0] - row[1]);
        }
    }

    // "0 to 200": loads of 150 and 51
    private static void mostOfTwoHundred() {
        BinWard x = Town.at(1, 1, 1, 1);
        for (int i = 0; i < 3; i++) {
            Town.fill(x, i, REST, 60, 0);
        }
        Town.fill(x, 3, REST, 21, 0);
        Town.daily(x, 60, REST, REST, 0, 1, 2, 3);
        x.oven(200);
        x.pass(1);
        Check.same("200 of 201", x.many(12), 200);
        Check.same("37, 12 and 1", x.many(9), 50);
    }

    // "0 to 200": nothing burns
    private static void mostOfZero() {
        BinWard x = Town.withLoad(REST, 40, 0);
        x.oven(0);
        x.pass(1);
        Check.same("burnt", x.many(12), 0);
        Check.same("ash", x.many(13), 0);
        Check.same("heat", x.many(14), 0);
        Check.same("all to the pit", x.many(9), 40);
    }

    // "(all LOADS together up to its MOST in a DAY ...)"
    private static void mostForAllLoadsOfADay() {
        BinWard x = Town.at(1, 1, 1);
        for (int i = 0; i < 3; i++) {
            Town.fill(x, i, REST, 10, 0);
        }
        for (int i = 0; i < 3; i++) {
            Town.daily(x, 60, REST, PAPER, i);
        }
        x.oven(15);
        x.pass(1);
        Check.same("10, 5 and 0", x.many(12), 15);
        Check.same("ash of 10 and 5", x.many(13), 3);
        Check.same("with 5 and 10 that are not burnt", x.many(9), 18);
        Check.same("halves of 5 and 10", x.many(10), 7);
    }

    // "in a DAY"
    private static void mostIsAnewEachDay() {
        BinWard x = Town.at(1);
        Town.daily(x, 60, REST, REST, 0);
        x.oven(5);
        x.pass(3);
        x.habit(0, REST, 9);
        x.pass(1);
        Check.same("5 of 9, though there was none before", x.many(12), 5);
        x.pass(1);
        Check.same("5 more", x.many(12), 10);
    }

    // "as a LOAD of it, at once": the OVEN's MOST counts for it, too
    private static void paperGetsWhatRestLeftOfTheOven() {
        BinWard x = Town.at(1);
        Town.fill(x, 0, REST, 8, 0);
        Town.fill(x, 0, PAPER, 60, 0);
        Town.daily(x, 60, REST, PAPER, 0);
        x.oven(10);
        x.pass(1);
        Check.same("8 and 2 of 3", x.many(12), 10);
        Check.same("2 of ash and 1", x.many(9), 3);
    }

    // "it gives HEAT of 3 for each kilo"
    private static void heatIsThreeForEachKilo() {
        for (int kilos = 1; kilos < 4; kilos++) {
            BinWard x = Town.withLoad(REST, kilos, 0);
            x.pass(1);
            Check.same("heat of " + kilos, x.many(14), 3 * kilos);
        }
        BinWard y = Town.at(1, 1);
        y.habit(0, REST, 1);
        y.habit(1, REST, 2);
        Town.daily(y, 60, REST, REST, 0);
        Town.daily(y, 60, REST, REST, 1);
        y.pass(1);
        Check.same("heat of 1 and 2", y.many(14), 9);
        y.pass(2);
        Check.same("heat ever", y.many(14), 27);
    }

    // "a quarter of what it has of one LOAD, rounded down, is ASH, that goes to the PIT at once"
    private static void ashIsAQuarterRoundedDown() {
        int[][] kilosAsh = {{1, 0}, {3, 0}, {4, 1}, {7, 1}, {8, 2}, {50, 12}, {60, 12}};
        for (int[] row : kilosAsh) {
            BinWard x = Town.withLoad(REST, row[0], 0);
            x.pass(1);
            Check.same("ash of " + row[0], x.many(13), row[1]);
            Check.same("pit of " + row[0], x.many(9), row[1] + Math.max(0, row[0] - 50));
        }
    }

    // "of one LOAD"
    private static void ashOfEachLoadByItself() {
        BinWard x = Town.at(1, 1);
        Town.fill(x, 0, REST, 3, 0);
        Town.fill(x, 1, REST, 3, 0);
        Town.daily(x, 60, REST, REST, 0);
        Town.daily(x, 60, REST, REST, 1);
        x.pass(1);
        Check.same("burnt", x.many(12), 6);
        Check.same("no ash of 3 and 3", x.many(13), 0);
    }

    // "(and does not rot)"
    private static void ashDoesNotRot() {
        BinWard x = Town.withLoad(REST, 40, 0);
        x.pass(1);
        Check.same("10 in the pit", x.many(9), 10);
        Check.same("none of them can rot", x.many(10), 0);
    }

    // "of what is not burnt of a LOAD of REST a half, rounded down, can rot"
    private static void aHalfOfTheUnburntCanRot() {
        int[][] kilosRot = {{51, 0}, {52, 1}, {53, 1}, {54, 2}};
        for (int[] row : kilosRot) {
            BinWard x = Town.withLoad(REST, row[0], 0);
            x.pass(1);
            Check.same("can rot of " + row[0], x.many(10), row[1]);
        }
    }

    // "of a LOAD"
    private static void theHalfOfEachLoadByItself() {
        BinWard x = Town.at(1, 1);
        Town.fill(x, 0, REST, 1, 0);
        Town.fill(x, 1, REST, 1, 0);
        Town.daily(x, 60, REST, REST, 0);
        Town.daily(x, 60, REST, REST, 1);
        x.oven(0);
        x.pass(1);
        Check.same("2 in the pit", x.many(9), 2);
        Check.same("halves of 1 and 1", x.many(10), 0);
    }

    // "GAS is more by the PIT's kilos that can rot, divided by 50, and these, and all its kilos, ..."
    private static void gasFromFiftyOn() {
        int[][] kilosRotGas = {{99, 49, 0}, {100, 49, 1}, {102, 50, 1}, {150, 74, 1}};
        for (int[] row : kilosRotGas) {
            BinWard x = Town.withLoad(REST, row[0], 0);
            x.oven(0);
            x.pass(1);
            Check.same("gas of " + row[0], x.many(11), row[2]);
            Check.same("can rot of " + row[0], x.many(10), row[1]);
            Check.same("pit of " + row[0], x.many(9), row[0] - row[2]);
        }
        BinWard y = Town.withLoad(REST, 102, 0);
        y.oven(0);
        y.pass(2);
        Check.same("1 of 51, 1 of 50", y.many(11), 2);
        y.pass(30);
        Check.same("none of 49", y.many(11), 2);
        Check.same("100 stay", y.many(9), 100);
    }

    // "(4) The HEAP, the PIT": each DAY, not as the LITTER comes
    private static void gasOfSweptLitterTheNextDay() {
        BinWard x = Town.at(1);
        Town.fill(x, 0, REST, 60, 0);
        x.habit(0, 0, 5);
        x.pass(20);
        x.habit(0, 0, 0);
        Check.same("100 of litter", x.sweep(0), 100);
        Check.same("no gas yet", x.many(11), 0);
        Check.same("50 can rot", x.many(10), 50);
        x.pass(1);
        Check.same("1 the next day", x.many(11), 1);
        Check.same("99 in the pit", x.many(9), 99);
    }

    // Promise 14: "IndexOutOfBoundsException if there is no such STREET"
    private static void sweepOfNoStreet() {
        BinWard none = new BinWard();
        Check.index("no street at all", none, () -> none.sweep(0));
        BinWard x = Town.at(1, 2);
        Check.index("street -1", x, () -> x.sweep(-1));
        Check.index("street 2 of 2", x, () -> x.sweep(2));
        Check.index("the least street", x, () -> x.sweep(Integer.MIN_VALUE));
        Check.index("the greatest street", x, () -> x.sweep(Integer.MAX_VALUE));
        Check.same("street 1 of 2", x.sweep(1), 0);
    }

    // "Returns how much it was.": 0 changes nothing
    private static void sweepOfNothing() {
        BinWard x = Town.at(1);
        Town.fill(x, 0, REST, 60, 0);
        long before = x.digest();
        Check.same("a full bin is no litter", x.sweep(0), 0);
        Check.same("nothing is changed", x.digest(), before);
        x.habit(0, 0, 9);
        x.pass(1);
        Check.same("9", x.sweep(0), 9);
        Check.same("none is left", x.sweep(0), 0);
        Check.same("nor in the street", x.ofStreet(0, 2), 0);
        Check.same("the bin stays", x.ofStreet(0, 6), 60);
    }

    // "(a half of it, rounded down, can rot)"
    private static void aHalfOfTheLitterCanRot() {
        for (int kilos = 1; kilos < 5; kilos++) {
            BinWard x = Town.at(1);
            Town.fill(x, 0, GREEN, 60, 0);
            x.habit(0, GREEN, kilos);
            x.pass(1);
            Check.same("litter", x.sweep(0), kilos);
            Check.same("pit of " + kilos, x.many(9), kilos);
            Check.same("can rot of " + kilos, x.many(10), kilos / 2);
        }
    }

    // Promise 19: "IllegalArgumentException if what is not 0 to 17"
    private static void manyIsAskedZeroToSeventeen() {
        BinWard x = Town.at(1);
        Check.argument("-1", x, () -> x.many(-1));
        Check.argument("18", x, () -> x.many(18));
        Check.argument("the least", x, () -> x.many(Integer.MIN_VALUE));
        Check.argument("the greatest", x, () -> x.many(Integer.MAX_VALUE));
        for (int what = 0; what < 18; what++) {
            Check.same("many(" + what + ") before any day", x.many(what), 0);
        }
        x.habit(0, 0, 1);
        x.pass(1);
        Check.same("0 is NOW", x.many(0), 1);
        x.pass(30);
        x.pass(30);
        Check.same("17 is the litter", x.many(17), 1);
    }
}
