/** Section 2 of the terms and the promises 5 to 7 and 17: each sentence with a boundary case. */
public final class LorryEdgesTest {
    private static final int REST = Town.REST;
    private static final int PAPER = Town.PAPER;
    private static final int GREEN = Town.GREEN;

    public static void main(String[] args) {
        lorriesAreAtMostThree();
        shiftIsTenToOneHundredAndTwenty();
        chambersHaveStreamsZeroToTwo();
        wrongArgumentsAreNamedBeforeTooManyLorries();
        bothChambersCanBeOfOneStream();
        noRoundAtFirst();
        roundHasAtMostSixStreets();
        roundHasEachStreetOnce();
        roundDayIsZeroToSix();
        roundOfNoLorryOrStreet();
        roundNamesTheIndexFirst();
        roundIsDrivenInItsOrder();
        roundsOfDaysAndLorriesStandApart();
        clearAnswersHowMany();
        clearOfNothing();
        justBackWithinTheShift();
        theSecondStreetJustWithinTheShift();
        theLongestShift();
        theRoundEndsAtTheFirstThatIsTooFar();
        missedThoughAnotherLorryComes();
        missedByTwoLorriesOnOneDay();
        missedOnEachDay();
        notMissedWithoutARound();
        streetsMayShareAPlace();
        noMinutesIfNoneWasDone();
        backFromTheLastThatWasDone();
        latestDayWithARound();
        chamberHoldsOneHundredAndFifty();
        chamberTakesCleanFirst();
        dirtyKilosTakeRoomInAChamber();
        chambersOfTwoStreamsShareNoRoom();
        secondChamberOfOneStreamGetsWhatIsLeft();
        firstChamberFirst();
        threeHundredOfOneStream();
        halfDoneByTheFirstStreamAlone();
        halfDoneByTheSecondStreamAlone();
        otherStreamsDoNotMakeItHalf();
        halfDoneIsOfThatDayAlone();
        emptyBinsAreDone();
        fullChambersDriveOn();
        anEmptyChamberIsNoLoad();
        ofLorryRefuses();
        fetchedByEachLorry();
        Check.end();
    }

    // "LORRIES: at most 3, numbered from 0" / "IllegalStateException if there were 3"
    private static void lorriesAreAtMostThree() {
        BinWard x = new BinWard();
        Check.index("none yet", x, () -> x.ofLorry(0, 0));
        Check.same("the first", x.lorry(11, 0, 0), 0);
        Check.same("the second", x.lorry(12, 0, 0), 1);
        Check.index("there is no lorry 2 yet", x, () -> x.ofLorry(2, 0));
        Check.same("the third", x.lorry(13, 0, 0), 2);
        Check.state("a fourth", x, () -> x.lorry(14, 0, 0));
        Check.index("there is no lorry 3", x, () -> x.ofLorry(3, 0));
        Check.same("the third one stays", x.ofLorry(2, 0), 13);
    }

    // "with a SHIFT (10 to 120 minutes)" / "IllegalArgumentException if shift is not 10 to 120"
    private static void shiftIsTenToOneHundredAndTwenty() {
        BinWard x = new BinWard();
        Check.argument("shift 9", x, () -> x.lorry(9, 0, 0));
        Check.argument("shift 121", x, () -> x.lorry(121, 0, 0));
        Check.argument("shift 0", x, () -> x.lorry(0, 0, 0));
        Check.argument("the least shift", x, () -> x.lorry(Integer.MIN_VALUE, 0, 0));
        Check.argument("the greatest shift", x, () -> x.lorry(Integer.MAX_VALUE, 0, 0));
        Check.same("shift 10, and no number was taken", x.lorry(10, 0, 0), 0);
        Check.same("shift 120", x.lorry(120, 0, 0), 1);
        Check.same("it is 10", x.ofLorry(0, 0), 10);
        Check.same("it is 120", x.ofLorry(1, 0), 120);
    }

    // "or a STREAM not 0 to 2"
    private static void chambersHaveStreamsZeroToTwo() {
        BinWard x = new BinWard();
        Check.argument("first -1", x, () -> x.lorry(20, -1, 0));
        Check.argument("first 3", x, () -> x.lorry(20, 3, 0));
        Check.argument("second -1", x, () -> x.lorry(20, 0, -1));
        Check.argument("second 3", x, () -> x.lorry(20, 0, 3));
        Check.argument("the least first", x, () -> x.lorry(20, Integer.MIN_VALUE, 0));
        Check.argument("the greatest first", x, () -> x.lorry(20, Integer.MAX_VALUE, 0));
        Check.argument("the least second", x, () -> x.lorry(20, 0, Integer.MIN_VALUE));
        Check.argument("the greatest second", x, () -> x.lorry(20, 0, Integer.MAX_VALUE));
        Check.same("0 and 2", x.lorry(20, 0, 2), 0);
        Check.same("2 and 0", x.lorry(20, 2, 0), 1);
        Check.same("first 0", x.ofLorry(0, 1), 0);
        Check.same("second 2", x.ofLorry(0, 2), 2);
        Check.same("first 2", x.ofLorry(1, 1), 2);
        Check.same("second 0", x.ofLorry(1, 2), 0);
    }

    // "If several exceptions apply, the one that is named first is thrown."
    private static void wrongArgumentsAreNamedBeforeTooManyLorries() {
        BinWard x = new BinWard();
        x.lorry(10, 0, 0);
        x.lorry(10, 0, 0);
        x.lorry(10, 0, 0);
        Check.argument("shift 9", x, () -> x.lorry(9, 0, 0));
        Check.argument("shift 121", x, () -> x.lorry(121, 0, 0));
        Check.argument("first 3", x, () -> x.lorry(10, 3, 0));
        Check.argument("second -1", x, () -> x.lorry(10, 0, -1));
    }

    // "for one STREAM each (both can be the same)"
    private static void bothChambersCanBeOfOneStream() {
        BinWard x = new BinWard();
        for (int stream = 0; stream < 3; stream++) {
            Check.same("lorry of " + stream, x.lorry(50, stream, stream), stream);
            Check.same("its first", x.ofLorry(stream, 1), stream);
            Check.same("its second", x.ofLorry(stream, 2), stream);
        }
    }

    // "a ROUND: ... (none at first)"
    private static void noRoundAtFirst() {
        BinWard x = Town.at(1);
        x.habit(0, 0, 1);
        x.lorry(120, 0, 0);
        Check.same("nothing is fetched on any day", x.pass(14), 0);
        Check.same("no minutes", x.ofLorry(0, 3), 0);
        Check.same("none done", x.ofLorry(0, 4), 0);
        Check.same("none half done", x.ofLorry(0, 5), 0);
        Check.same("not missed", x.ofStreet(0, 12), 0);
        for (int day = 0; day < 7; day++) {
            Check.same("cleared, day " + day, x.clear(0, day), 0);
        }
    }

    // "at most 6 STREETS in order" / "Returns how many it has then."
    private static void roundHasAtMostSixStreets() {
        BinWard x = Town.at(1, 1, 1, 1, 1, 1);
        x.lorry(120, 0, 0);
        for (int i = 0; i < 6; i++) {
            Check.same("how many then", x.round(0, 1, i), i + 1);
        }
        for (int i = 0; i < 6; i++) {
            int street = i;
            Check.state("no seventh, street " + i, x, () -> x.round(0, 1, street));
        }
        x.pass(1);
        Check.same("six are done", x.ofLorry(0, 4), 6);
        Check.same("six were there", x.clear(0, 1), 6);
    }

    // "each once" / "IllegalStateException if it has that STREET already"
    private static void roundHasEachStreetOnce() {
        BinWard x = Town.at(1, 2, 3);
        x.lorry(60, 0, 0);
        x.round(0, 4, 1);
        x.round(0, 4, 0);
        x.round(0, 4, 2);
        Check.state("the first of it", x, () -> x.round(0, 4, 1));
        Check.state("the second of it", x, () -> x.round(0, 4, 0));
        Check.state("the last of it", x, () -> x.round(0, 4, 2));
        Check.same("still three", x.clear(0, 4), 3);
        Check.same("after clear it has none of them", x.round(0, 4, 1), 1);
        Check.state("then it has it again", x, () -> x.round(0, 4, 1));
    }

    // "or day is not 0 to 6"
    private static void roundDayIsZeroToSix() {
        BinWard x = Town.at(1);
        x.lorry(60, 0, 0);
        Check.index("day -1", x, () -> x.round(0, -1, 0));
        Check.index("day 7", x, () -> x.round(0, 7, 0));
        Check.index("the least day", x, () -> x.round(0, Integer.MIN_VALUE, 0));
        Check.index("the greatest day", x, () -> x.round(0, Integer.MAX_VALUE, 0));
        Check.same("day 0", x.round(0, 0, 0), 1);
        Check.same("day 6", x.round(0, 6, 0), 1);
    }

    // "IndexOutOfBoundsException if there is no such LORRY, or STREET"
    private static void roundOfNoLorryOrStreet() {
        BinWard noLorry = Town.at(1);
        Check.index("no lorry at all", noLorry, () -> noLorry.round(0, 0, 0));
        BinWard noStreet = new BinWard();
        noStreet.lorry(60, 0, 0);
        Check.index("no street at all", noStreet, () -> noStreet.round(0, 0, 0));
        BinWard x = Town.at(1, 2);
        x.lorry(60, 0, 0);
        Check.index("lorry -1", x, () -> x.round(-1, 0, 0));
        Check.index("lorry 1 of 1", x, () -> x.round(1, 0, 0));
        Check.index("the least lorry", x, () -> x.round(Integer.MIN_VALUE, 0, 0));
        Check.index("the greatest lorry", x, () -> x.round(Integer.MAX_VALUE, 0, 0));
        Check.index("street -1", x, () -> x.round(0, 0, -1));
        Check.index("street 2 of 2", x, () -> x.round(0, 0, 2));
        Check.index("the least street", x, () -> x.round(0, 0, Integer.MIN_VALUE));
        Check.index("the greatest street", x, () -> x.round(0, 0, Integer.MAX_VALUE));
        Check.same("street 1 of 2, and nothing was added", x.round(0, 0, 1), 1);
    }

    // "If several exceptions apply, the one that is named first is thrown."
    private static void roundNamesTheIndexFirst() {
        BinWard x = Town.at(1);
        x.lorry(60, 0, 0);
        for (int day = 0; day < 7; day++) {
            x.round(0, day, 0);
        }
        Check.state("it has it", x, () -> x.round(0, 0, 0));
        Check.index("it has it, but no such lorry", x, () -> x.round(1, 0, 0));
        Check.index("it has it, but no such day", x, () -> x.round(0, 7, 0));
    }

    // "STREET by STREET: to drive takes as many minutes as the PLACES are apart, and 2 more"
    private static void roundIsDrivenInItsOrder() {
        BinWard x = Town.at(8, 3, 5);
        Town.daily(x, 60, 0, 0, 0, 1, 2);
        x.pass(1);
        Check.same("8, 5 and 2 apart, 6 for three streets, 5 back", x.ofLorry(0, 3), 26);
        BinWard y = Town.at(8, 3, 5);
        Town.daily(y, 60, 0, 0, 1, 2, 0);
        y.pass(1);
        Check.same("3, 2 and 3 apart, 6 for three streets, 8 back", y.ofLorry(0, 3), 22);
    }

    // "for each of the 7 days of a week a ROUND"
    private static void roundsOfDaysAndLorriesStandApart() {
        BinWard x = Town.at(1, 2);
        x.lorry(60, 0, 0);
        x.lorry(60, 0, 0);
        Check.same("the day 2", x.round(0, 2, 0), 1);
        Check.same("the day 3", x.round(0, 3, 0), 1);
        Check.same("another lorry", x.round(1, 2, 0), 1);
        Check.same("two on the day 3", x.round(0, 3, 1), 2);
        Check.same("clear the day 2", x.clear(0, 2), 1);
        Check.same("the day 3 stays", x.clear(0, 3), 2);
        Check.same("the other lorry's stays", x.clear(1, 2), 1);
    }

    // "Returns how many it had."
    private static void clearAnswersHowMany() {
        BinWard x = Town.at(1, 1, 1, 1, 1, 1);
        x.lorry(120, 0, 0);
        Check.same("none", x.clear(0, 6), 0);
        x.round(0, 6, 3);
        Check.same("one", x.clear(0, 6), 1);
        for (int i = 0; i < 6; i++) {
            x.round(0, 6, i);
        }
        Check.same("six", x.clear(0, 6), 6);
        Check.same("none is left", x.clear(0, 6), 0);
    }

    // "IndexOutOfBoundsException if there is no such LORRY, or day is not 0 to 6"
    private static void clearOfNothing() {
        BinWard x = Town.at(1);
        Check.index("no lorry at all", x, () -> x.clear(0, 0));
        Town.daily(x, 60, 0, 0, 0);
        Check.index("lorry -1", x, () -> x.clear(-1, 0));
        Check.index("lorry 1 of 1", x, () -> x.clear(1, 0));
        Check.index("the least lorry", x, () -> x.clear(Integer.MIN_VALUE, 0));
        Check.index("the greatest lorry", x, () -> x.clear(Integer.MAX_VALUE, 0));
        Check.index("day -1", x, () -> x.clear(0, -1));
        Check.index("day 7", x, () -> x.clear(0, 7));
        Check.index("the least day", x, () -> x.clear(0, Integer.MIN_VALUE));
        Check.index("the greatest day", x, () -> x.clear(0, Integer.MAX_VALUE));
        for (int day = 0; day < 7; day++) {
            Check.same("no round was cleared, day " + day, x.clear(0, day), 1);
        }
    }

    // "it is done, if then it can still drive back within the SHIFT"
    private static void justBackWithinTheShift() {
        BinWard x = Town.at(4);
        Town.daily(x, 10, 0, 0, 0);
        x.pass(1);
        Check.same("4, 2 and 4 are 10", x.ofLorry(0, 3), 10);
        Check.same("done", x.ofLorry(0, 4), 1);
        Check.same("not missed", x.ofStreet(0, 12), 0);
        BinWard y = Town.at(5);
        Town.daily(y, 11, 0, 0, 0);
        y.pass(1);
        Check.same("12 are more than 11", y.ofLorry(0, 4), 0);
        Check.same("missed", y.ofStreet(0, 12), 1);
        BinWard z = Town.at(5);
        Town.daily(z, 12, 0, 0, 0);
        z.pass(1);
        Check.same("12 are not more than 12", z.ofLorry(0, 4), 1);
    }

    // the same, behind another street
    private static void theSecondStreetJustWithinTheShift() {
        BinWard x = Town.at(4, 8);
        Town.daily(x, 20, 0, 0, 0, 1);
        x.pass(1);
        Check.same("4, 2, 4, 2 and 8 are 20", x.ofLorry(0, 3), 20);
        Check.same("both are done", x.ofLorry(0, 4), 2);
        BinWard y = Town.at(4, 8);
        Town.daily(y, 19, 0, 0, 0, 1);
        y.pass(1);
        Check.same("20 are more than 19", y.ofLorry(0, 4), 1);
        Check.same("the second is missed", y.ofStreet(1, 12), 1);
        Check.same("the first is not", y.ofStreet(0, 12), 0);
    }

    // "10 to 120 minutes"
    private static void theLongestShift() {
        BinWard x = Town.at(30, 1, 28, 29);
        Town.daily(x, 120, 0, 0, 0, 1, 2);
        x.pass(1);
        Check.same("32, 31, 29 and 28 are 120", x.ofLorry(0, 3), 120);
        Check.same("three are done", x.ofLorry(0, 4), 3);
        Town.clearAll(x, 0);
        x.round(0, 2, 0);
        x.round(0, 2, 1);
        x.round(0, 2, 3);
        x.pass(1);
        Check.same("122 are too many: 32, 31 and 1", x.ofLorry(0, 3), 64);
        Check.same("two are done", x.ofLorry(0, 4), 2);
    }

    // "otherwise the ROUND ends there: this STREET and all others behind it are MISSED"
    private static void theRoundEndsAtTheFirstThatIsTooFar() {
        BinWard x = Town.at(1, 30, 1, 2);
        for (int i = 0; i < 4; i++) {
            x.habit(i, 0, 1);
        }
        Town.daily(x, 20, 0, 0, 0, 1, 2, 3);
        Check.same("only the first one's is fetched", x.pass(1), 1);
        int[] missed = {0, 1, 1, 1};
        for (int i = 0; i < 4; i++) {
            Check.same("missed, street " + i, x.ofStreet(i, 12), missed[i]);
        }
        Check.same("what is missed stays in the bins", x.ofStreet(2, 6), 1);
        Check.same("one is done", x.ofLorry(0, 4), 1);
    }

    // "MISSED on this DAY (also if another LORRY comes there)"
    private static void missedThoughAnotherLorryComes() {
        BinWard x = Town.at(30);
        x.habit(0, 0, 1);
        Town.daily(x, 62, 0, 0, 0);
        Town.daily(x, 61, 0, 0, 0);
        Check.same("the first one came", x.pass(1), 1);
        Check.same("missed by the second", x.ofStreet(0, 12), 1);
        Check.yes("a claim is right", x.claim(0, 1));
        BinWard y = Town.at(30);
        y.habit(0, 0, 1);
        Town.daily(y, 61, 0, 0, 0);
        Town.daily(y, 62, 0, 0, 0);
        Check.same("the second one came", y.pass(1), 1);
        Check.same("missed by the first", y.ofStreet(0, 12), 1);
        Check.yes("a claim is right", y.claim(0, 1));
    }

    // "12 on how many DAYS it was MISSED"
    private static void missedByTwoLorriesOnOneDay() {
        BinWard x = Town.at(30);
        Town.daily(x, 61, 0, 0, 0);
        Town.daily(x, 61, 1, 1, 0);
        Town.daily(x, 61, 2, 2, 0);
        x.pass(1);
        Check.same("one day", x.ofStreet(0, 12), 1);
        x.pass(1);
        Check.same("two days", x.ofStreet(0, 12), 2);
    }

    // the same: each day counts
    private static void missedOnEachDay() {
        BinWard x = Town.at(30);
        Town.daily(x, 61, 0, 0, 0);
        x.pass(30);
        Check.same("thirty days", x.ofStreet(0, 12), 30);
        x.pass(1);
        Check.same("thirty-one", x.ofStreet(0, 12), 31);
        Town.clearAll(x, 0);
        x.pass(30);
        Check.same("no more without a round", x.ofStreet(0, 12), 31);
    }

    // MISSED is who stands in a ROUND alone
    private static void notMissedWithoutARound() {
        BinWard x = Town.at(30, 1);
        Town.daily(x, 61, 0, 0, 1);
        x.pass(7);
        Check.same("nobody was to come", x.ofStreet(0, 12), 0);
        Check.same("who was done is not missed", x.ofStreet(1, 12), 0);
        Check.no("no claim is right", x.claim(0, 7));
    }

    // "as many minutes as the PLACES are apart": 0, if they are the same
    private static void streetsMayShareAPlace() {
        BinWard x = Town.at(7, 7, 7);
        Town.daily(x, 20, 0, 0, 0, 1, 2);
        x.pass(1);
        Check.same("7, 6 for three streets, 7 back", x.ofLorry(0, 3), 20);
        Check.same("all are done", x.ofLorry(0, 4), 3);
    }

    // "(from the last one that was done; 0 minutes, if none was)"
    private static void noMinutesIfNoneWasDone() {
        BinWard x = Town.at(4, 5);
        x.lorry(10, 0, 0);
        x.round(0, 1, 0);
        x.round(0, 2, 1);
        x.pass(1);
        Check.same("10 minutes", x.ofLorry(0, 3), 10);
        x.pass(1);
        Check.same("0 minutes", x.ofLorry(0, 3), 0);
        Check.same("none done", x.ofLorry(0, 4), 0);
        Check.same("none half done", x.ofLorry(0, 5), 0);
    }

    // "At last it drives back (from the last one that was done ...)"
    private static void backFromTheLastThatWasDone() {
        BinWard x = Town.at(2, 3, 30);
        Town.daily(x, 40, 0, 0, 1, 0, 2);
        x.pass(1);
        Check.same("3, 1, 4 for two streets, 2 back", x.ofLorry(0, 3), 10);
        Check.same("two are done", x.ofLorry(0, 4), 2);
    }

    // "on the latest DAY on which it had a ROUND with STREETS (0)"
    private static void latestDayWithARound() {
        BinWard x = Town.at(1, 1, 1, 1);
        for (int i = 0; i < 4; i++) {
            Town.fill(x, i, REST, 60, 0);
        }
        x.lorry(60, REST, PAPER);
        int weekday = (x.many(0) + 1) % 7;
        for (int i = 0; i < 4; i++) {
            x.round(0, weekday, i);
        }
        Check.same("no minutes before", x.ofLorry(0, 3), 0);
        Check.same("none done before", x.ofLorry(0, 4), 0);
        Check.same("none half done before", x.ofLorry(0, 5), 0);
        x.pass(1);
        for (int days = 0; days < 2; days++) {
            Check.same("1, 8 for four streets, 1 back", x.ofLorry(0, 3), 10);
            Check.same("four are done", x.ofLorry(0, 4), 4);
            Check.same("two are half done", x.ofLorry(0, 5), 2);
            x.pass(1);
        }
        x.clear(0, weekday);
        x.pass(7);
        Check.same("clear changes nothing of it", x.ofLorry(0, 3), 10);
        Check.same("nor of these", x.ofLorry(0, 4), 4);
        Check.same("nor of these", x.ofLorry(0, 5), 2);
    }

    // "each holding 150" / "If something of these STREAMS is left ..., the STREET is HALF done"
    private static void chamberHoldsOneHundredAndFifty() {
        int[][] thirdFetchedHalf = {{29, 149, 0}, {30, 150, 0}, {31, 150, 1}};
        for (int[] row : thirdFetchedHalf) {
            for (int stream = 0; stream < 3; stream++) {
                for (int chamber = 0; chamber < 2; chamber++) {
                    BinWard x = Town.at(1, 1, 1);
                    Town.fill(x, 0, stream, 60, 0);
                    Town.fill(x, 1, stream, 60, 0);
                    Town.fill(x, 2, stream, row[0], 0);
                    int other = (stream + 1) % 3;
                    Town.daily(x, 60, chamber == 0 ? stream : other, chamber == 0 ? other : stream,
                        0, 1, 2);
                    String what = " of " + (120 + row[0]) + " of " + stream + " in " + chamber;
                    Check.same("fetched" + what, x.pass(1), row[1]);
                    Check.same("half done" + what, x.ofLorry(0, 5), row[2]);
                    Check.same("done" + what, x.ofLorry(0, 4), 3);
                    Check.same("left" + what, Town.kilosIn(x, 2, stream), 120 + row[0] - row[1]);
                }
            }
        }
    }

    // "as much as it still holds (CLEAN first)"
    private static void chamberTakesCleanFirst() {
        int[][] secondCleanDirtyLeft = {{60, 6, 24}, {54, 0, 24}, {53, 0, 23}, {31, 0, 1},
            {30, 0, 0}};
        for (int[] row : secondCleanDirtyLeft) {
            for (int stream = 1; stream < 3; stream++) {
                BinWard x = Town.at(1, 1, 1);
                Town.fill(x, 0, stream, 60, 0);
                Town.fill(x, 1, stream, row[0], 0);
                Town.fill(x, 2, stream, 36, 24);
                Town.daily(x, 60, stream, REST, 0, 1, 2);
                x.pass(1);
                String what = ", room for " + (90 - row[0]) + ", stream " + stream;
                Check.same("clean left" + what, x.ofStreet(2, 6 + stream), row[1]);
                Check.same("dirty left" + what, x.ofStreet(2, 8 + stream), row[2]);
            }
        }
    }

    // "each holding 150": CLEAN and DIRTY together
    private static void dirtyKilosTakeRoomInAChamber() {
        for (int stream = 1; stream < 3; stream++) {
            BinWard x = Town.at(1, 1, 1);
            Town.fill(x, 0, stream, 36, 24);
            Town.fill(x, 1, stream, 36, 24);
            Town.fill(x, 2, stream, 60, 0);
            Town.daily(x, 60, stream, REST, 0, 1, 2);
            Check.same("60, 60 and 30, stream " + stream, x.pass(1), 150);
            Check.same("30 are left, stream " + stream, x.ofStreet(2, 6 + stream), 30);
        }
    }

    // "each with two CHAMBERS, for one STREAM each"
    private static void chambersOfTwoStreamsShareNoRoom() {
        BinWard x = Town.at(1, 1, 1);
        for (int i = 0; i < 3; i++) {
            Town.fill(x, i, PAPER, 60, 0);
        }
        Town.fill(x, 0, GREEN, 7, 0);
        Town.daily(x, 60, GREEN, PAPER, 0, 1, 2);
        Check.same("7 and 150", x.pass(1), 157);
        Check.same("30 are left, though the first has room", x.ofStreet(2, 7), 30);

        BinWard y = Town.at(1, 1, 1);
        for (int i = 0; i < 3; i++) {
            Town.fill(y, i, PAPER, 60, 0);
        }
        Town.fill(y, 0, GREEN, 36, 24);
        Town.daily(y, 60, GREEN, PAPER, 0, 1, 2);
        Check.same("the dirty 24 take no room from the 150", y.pass(1), 210);
    }

    // "if both CHAMBERS are of one STREAM, the second one gets of what is left"
    private static void secondChamberOfOneStreamGetsWhatIsLeft() {
        BinWard x = Town.at(1, 1, 1);
        for (int i = 0; i < 3; i++) {
            Town.fill(x, i, REST, 60, 0);
        }
        Town.daily(x, 60, REST, REST, 0, 1, 2);
        Check.same("150 and 30", x.pass(1), 180);
        Check.same("nothing is left behind both", x.ofStreet(2, 6), 0);
        Check.same("none is half done", x.ofLorry(0, 5), 0);
    }

    // "For each CHAMBER, the first one first": loads of 150 and 2, not of 152 or 76 and 76
    private static void firstChamberFirst() {
        BinWard x = Town.at(1, 1, 1);
        Town.fill(x, 0, REST, 60, 0);
        Town.fill(x, 1, REST, 60, 0);
        Town.fill(x, 2, REST, 32, 0);
        Town.daily(x, 60, REST, REST, 0, 1, 2);
        x.oven(200);
        Check.same("152", x.pass(1), 152);
        Check.same("all is burnt", x.many(12), 152);
        Check.same("37 of 150 are ash, and none of 2", x.many(13), 37);
    }

    // both chambers full
    private static void threeHundredOfOneStream() {
        for (int more = 0; more < 2; more++) {
            BinWard x = Town.at(1, 1, 1, 1, 1, 1);
            for (int i = 0; i < 5; i++) {
                Town.fill(x, i, PAPER, 60, 0);
            }
            if (more > 0) {
                Town.fill(x, 5, PAPER, more, 0);
            }
            Town.daily(x, 60, PAPER, PAPER, 0, 1, 2, 3, 4, 5);
            Check.same("300 of " + (300 + more), x.pass(1), 300);
            Check.same("half done of " + (300 + more), x.ofLorry(0, 5), more);
            Check.same("left of " + (300 + more), x.ofStreet(5, 7), more);
        }
    }

    // "If something of these STREAMS is left in the BINS behind both"
    private static void halfDoneByTheFirstStreamAlone() {
        BinWard x = Town.at(1, 1, 1);
        Town.fill(x, 0, REST, 60, 0);
        Town.fill(x, 1, REST, 60, 0);
        Town.fill(x, 2, REST, 31, 0);
        Town.fill(x, 2, PAPER, 1, 0);
        Town.daily(x, 60, REST, PAPER, 0, 1, 2);
        Check.same("150 and 1", x.pass(1), 151);
        Check.same("half done", x.ofLorry(0, 5), 1);
    }

    // the same
    private static void halfDoneByTheSecondStreamAlone() {
        BinWard x = Town.at(1, 1, 1);
        Town.fill(x, 0, REST, 60, 0);
        Town.fill(x, 1, REST, 60, 0);
        Town.fill(x, 2, REST, 31, 0);
        Town.fill(x, 2, PAPER, 1, 0);
        Town.daily(x, 60, PAPER, REST, 0, 1, 2);
        Check.same("1 and 150", x.pass(1), 151);
        Check.same("half done", x.ofLorry(0, 5), 1);
        Check.same("it counts among the done", x.ofLorry(0, 4), 3);
        Check.same("half done is not missed", x.ofStreet(2, 12), 0);
    }

    // "of these STREAMS": of its chambers' alone
    private static void otherStreamsDoNotMakeItHalf() {
        BinWard x = Town.at(1);
        Town.fill(x, 0, REST, 5, 0);
        Town.fill(x, 0, PAPER, 5, 0);
        Town.fill(x, 0, GREEN, 5, 0);
        Town.daily(x, 60, REST, PAPER, 0);
        Check.same("10 of 15", x.pass(1), 10);
        Check.same("GREEN stays", x.ofStreet(0, 8), 5);
        Check.same("not half done", x.ofLorry(0, 5), 0);
    }

    // "5 those that were HALF done": "on the latest DAY", not on others before
    private static void halfDoneIsOfThatDayAlone() {
        BinWard x = Town.at(1, 1, 1);
        Town.fill(x, 0, REST, 60, 0);
        Town.fill(x, 1, REST, 60, 0);
        Town.fill(x, 2, REST, 40, 0);
        Town.daily(x, 60, REST, PAPER, 0, 1, 2);
        x.pass(1);
        Check.same("10 are left on the first day", x.ofLorry(0, 5), 1);
        x.pass(1);
        Check.same("none on the second", x.ofLorry(0, 5), 0);
        Check.same("all are done on the second", x.ofLorry(0, 4), 3);
    }

    // "it is done, if then it can still drive back": also with nothing in its bins
    private static void emptyBinsAreDone() {
        BinWard x = Town.at(3);
        Town.daily(x, 60, REST, PAPER, 0);
        Check.same("nothing is fetched", x.pass(1), 0);
        Check.same("3, 2 and 3", x.ofLorry(0, 3), 8);
        Check.same("done", x.ofLorry(0, 4), 1);
        Check.same("not half done", x.ofLorry(0, 5), 0);
        Check.same("not missed", x.ofStreet(0, 12), 0);
    }

    // the same, with full chambers
    private static void fullChambersDriveOn() {
        BinWard x = Town.at(1, 1, 1, 6, 7);
        Town.fill(x, 0, REST, 60, 0);
        Town.fill(x, 1, REST, 60, 0);
        Town.fill(x, 2, REST, 30, 0);
        Town.fill(x, 3, REST, 9, 0);
        Town.daily(x, 60, REST, PAPER, 0, 1, 2, 3, 4);
        Check.same("150 of 159", x.pass(1), 150);
        Check.same("7, 10 for five streets, 7 back", x.ofLorry(0, 3), 24);
        Check.same("all are done", x.ofLorry(0, 4), 5);
        Check.same("half done is who has something left", x.ofLorry(0, 5), 1);
        Check.same("none is missed", x.ofStreet(3, 12) + x.ofStreet(4, 12), 0);
    }

    // "its CHAMBERS with something in them are LOADS": without one no BALE is made
    private static void anEmptyChamberIsNoLoad() {
        BinWard x = Town.withLoad(PAPER, 42, 0);
        x.pass(1);
        Check.same("a bale of 40", x.many(3), 1);
        x.sell(0, 0, 1);
        Check.same("it had no dirt", x.ofBale(0, 2), 1);
        BinWard y = Town.withLoad(PAPER, 41, 1);
        y.pass(1);
        y.sell(0, 0, 1);
        Check.same("40 in the baler", y.open(0), 40);
        y.pass(7);
        Check.same("the lorry came", y.ofLorry(0, 4), 3);
        Check.same("but with no load", y.many(3), 1);
        y.habit(0, PAPER, 1);
        y.pass(1);
        Check.same("1 kilo is one", y.many(3), 2);
    }

    // Promise 17
    private static void ofLorryRefuses() {
        BinWard x = new BinWard();
        Check.index("no lorry at all", x, () -> x.ofLorry(0, 0));
        x.lorry(10, 0, 0);
        Check.index("lorry -1", x, () -> x.ofLorry(-1, 0));
        Check.index("lorry 1 of 1", x, () -> x.ofLorry(1, 0));
        Check.index("the least lorry", x, () -> x.ofLorry(Integer.MIN_VALUE, 0));
        Check.index("the greatest lorry", x, () -> x.ofLorry(Integer.MAX_VALUE, 0));
        Check.argument("what -1", x, () -> x.ofLorry(0, -1));
        Check.argument("what 7", x, () -> x.ofLorry(0, 7));
        Check.argument("the least what", x, () -> x.ofLorry(0, Integer.MIN_VALUE));
        Check.argument("the greatest what", x, () -> x.ofLorry(0, Integer.MAX_VALUE));
        Check.index("both wrong", x, () -> x.ofLorry(1, 7));
        Check.same("what 0", x.ofLorry(0, 0), 10);
        Check.same("what 6", x.ofLorry(0, 6), 0);
    }

    // "6 kilos that it fetched ever"
    private static void fetchedByEachLorry() {
        BinWard x = Town.at(1);
        x.habit(0, REST, 3);
        x.habit(0, PAPER, 4);
        x.habit(0, GREEN, 5);
        Town.daily(x, 60, REST, GREEN, 0);
        Town.daily(x, 60, PAPER, PAPER, 0);
        x.pass(2);
        Check.same("of both chambers", x.ofLorry(0, 6), 16);
        Check.same("of the second lorry", x.ofLorry(1, 6), 8);
        Check.same("of both lorries", x.many(16), 24);
    }
}
