/** Tests of the sentences of the promises 12 to 31: questions that change nothing. */
final class PromisesOfQuestionsTest {
    private static final int LEAST = Integer.MIN_VALUE;
    private static final int MOST = Integer.MAX_VALUE;
    private static final String TEN_BILLS = "bill 0 0 1, bill 0 0 1, bill 0 0 1, bill 0 0 1, bill 0 0 1, bill 0 0 1, "
        + "bill 0 0 1, bill 0 0 1, bill 0 0 1, bill 0 0 1";

    private PromisesOfQuestionsTest() {
    }

    private static Scene clocks(int... seconds) {
        Scene s = Scene.of("");
        for (int second : seconds) {
            s.play("clock " + second + " 0");
        }
        return s;
    }

    /** With two clocks and two bills there is 0 and 1, but nothing on either side. */
    private static void noOtherThan0And1(String call, String rest) {
        String start = "clock 30 1, clock 31 2, bill 0 30 1, bill 1 31 1";
        for (int number : new int[] {-1, 2, 3, LEAST, MOST}) {
            Scene.of(start).noIndex(call + " " + number + rest).play(call + " 0" + rest).play(call + " 1" + rest);
        }
        Scene.of("").noIndex(call + " 0" + rest).noIndex(call + " -1" + rest);
    }

    // Promise 12

    @Sentence(of = "Promise 12", says = {"Returns a number of a clock.", "`clock`: the clock",
        "`what`: 0 for its second,", "1 for its spring,", "2 for its leaning,", "Returns the number."})
    static void numbersOfAClock() {
        Scene.of("clock 59 3, clock 0 0, hour 1").due("clockOf 0 0", 0).due("clockOf 0 1", 23).due("clockOf 0 2", 3)
            .due("clockOf 1 0", 1).due("clockOf 1 1", 23).due("clockOf 1 2", 0).play("hour 23").due("clockOf 0 1", 0)
            .due("clockOf 0 0", 22).due("clockOf 0 2", 3);
    }

    @Sentence(of = "Promise 12", says = "3 for its keys,")
    static void keysOfAClock() {
        Scene.of("clock 0 0, clock 1 0").due("clockOf 0 3", 0).play("key 2 0").due("clockOf 0 3", 1).play("key 0 0")
            .due("clockOf 0 3", 2).due("clockOf 1 3", 0).play("key 1 0").due("clockOf 0 3", 3).play("key 2 1")
            .due("clockOf 0 3", 2).due("clockOf 1 3", 1).play("key 0 -1").due("clockOf 0 3", 1);
    }

    @Sentence(of = "Promise 12", says = "4 for the bills that it moved and that are there,")
    static void billsOfAClock() {
        Scene.of("clock 0 3, clock 1 3").due("clockOf 0 4", 0).play("bill 0 0 1, bill 0 0 1, bill 1 0 1, bill 0 0 1")
            .due("clockOf 0 4", 3).due("clockOf 1 4", 1).play("adjourn 1 2").due("clockOf 0 4", 3).play("vote")
            .due("clockOf 0 4", 2).play("drop 0").due("clockOf 0 4", 1).due("clockOf 1 4", 1).play("vote")
            .due("clockOf 1 4", 0);
        Scene.of("clock 0 0, " + TEN_BILLS).due("clockOf 0 4", 10);
    }

    @Sentence(of = "Promise 12", says = "5 for the votes that it gave so far,")
    static void votesOfAClock() {
        Scene.of("clock 30 3, clock 51 3, bill 0 30 9, bill 0 31 1, bill 0 0 1").due("clockOf 0 5", 0).play("vote")
            .due("clockOf 0 5", 1).due("clockOf 1 5", 0).play("vote").due("clockOf 0 5", 2).due("clockOf 1 5", 1)
            .play("vote").due("clockOf 0 5", 2).due("clockOf 1 5", 2).play("clock 30 0").due("clockOf 2 5", 0);
    }

    @Sentence(of = "Promise 12",
        says = "6 for the set of the clocks that agree with it, bit k for the clock k, without itself")
    static void clocksThatAgree() {
        clocks(10).due("clockOf 0 6", 0);
        clocks(10, 15, 16, 5, 4, 10, 40, 10).due("clockOf 0 6", 2 + 8 + 32 + 128).due("clockOf 1 6", 1 + 4 + 32 + 128)
            .due("clockOf 2 6", 2).due("clockOf 6 6", 0).due("clockOf 7 6", 1 + 2 + 8 + 32);
        clocks(59, 0, 4, 5, 54, 53).due("clockOf 0 6", 2 + 4 + 16).due("clockOf 1 6", 1 + 4 + 8).due("clockOf 4 6", 33);
        clocks(7, 7, 7, 7, 7, 7, 7, 7).due("clockOf 0 6", 254).due("clockOf 7 6", 127).play("hour 24")
            .due("clockOf 3 6", 247);
    }

    @Sentence(of = "Promise 12", says = "Throws `IndexOutOfBoundsException` if there is no such clock")
    static void noClockForClockOf() {
        noOtherThan0And1("clockOf", " 0");
        noOtherThan0And1("clockOf", " 6");
        clocks(0, 1, 2, 3, 4, 5, 6, 7).due("clockOf 7 0", 7).noIndex("clockOf 8 0");
    }

    @Sentence(of = "Promise 12", says = "Throws `IllegalArgumentException` if what is not 0 to 6")
    static void noNumberOfAClock() {
        for (int what : new int[] {-1, 7, LEAST, MOST}) {
            Scene.of("clock 0 0").noArgument("clockOf 0 " + what).noIndex("clockOf 1 " + what);
        }
        Scene.of("clock 5 0").due("clockOf 0 0", 5).due("clockOf 0 6", 0);
    }

    // Promise 13

    @Sentence(of = "Promise 13", says = {"Returns a number of a bill.", "`bill`: the bill",
        "`what`: 0 for the clock that moved it, -1 for nobody, 1 for its second, 2 for how many chimes more it needs,",
        "Returns the number."})
    static void numbersOfABill() {
        Scene.of("clock 0 0, clock 1 0, bill 1 59 9, bill 0 0 1").due("billOf 0 0", 1).due("billOf 0 1", 59)
            .due("billOf 0 2", 9).due("billOf 1 0", 0).due("billOf 1 1", 0).due("billOf 1 2", 1).play("leave 1")
            .due("billOf 0 0", -1).due("billOf 1 0", 0).play("leave 0").due("billOf 1 0", -1).play("clock 1 1")
            .due("billOf 0 0", -1).due("billOf 1 0", -1);
    }

    @Sentence(of = "Promise 13", says = "3 for the hours for which it is adjourned yet, 0 on the table,")
    static void hoursOfABill() {
        Scene.of("clock 0 0, bill 0 0 1").due("billOf 0 3", 0).play("adjourn 0 3").due("billOf 0 3", 3).play("hour 2")
            .due("billOf 0 3", 1).play("hour 1").due("billOf 0 3", 0).play("hour 1").due("billOf 0 3", 0)
            .play("adjourn 0 12").due("billOf 0 3", 12);
    }

    @Sentence(of = "Promise 13", says = "4 for its place in the row, from 0, -1 for none,")
    static void placeOfABill() {
        Scene s = Scene.of("clock 0 0, " + TEN_BILLS);
        for (int bill = 0; bill < 10; bill++) {
            s.due("billOf " + bill + " 4", bill);
        }
        s.play("adjourn 0 1").due("billOf 0 4", -1).due("billOf 1 4", 0).due("billOf 9 4", 8)
            .play("adjourn 9 2, hour 1")
            .due("billOf 0 4", 0).due("billOf 1 4", 1).due("billOf 9 4", -1).play("hour 1").due("billOf 9 4", 0)
            .due("billOf 0 4", 1).due("billOf 8 4", 9);
    }

    @Sentence(of = "Promise 13", says = "5 for how often it was adjourned so far")
    static void adjourningsOfABill() {
        Scene.of("clock 0 0, bill 0 30 1, bill 0 30 1").due("billOf 0 5", 0).play("adjourn 0 2").due("billOf 0 5", 1)
            .play("hour 2").due("billOf 0 5", 1).play("adjourn 0 1, hour 1").due("billOf 0 5", 2).play("vote")
            .due("billOf 0 5", 3).due("billOf 1 5", 0).play("hour 1").due("billOf 0 5", 3);
    }

    @Sentence(of = "Promise 13", says = "Throws `IndexOutOfBoundsException` if there is no such bill")
    static void noBillForBillOf() {
        noOtherThan0And1("billOf", " 0");
        noOtherThan0And1("billOf", " 5");
        Scene.of("clock 0 0, " + TEN_BILLS).due("billOf 9 4", 9).noIndex("billOf 10 0");
    }

    @Sentence(of = "Promise 13", says = "Throws `IllegalArgumentException` if what is not 0 to 5")
    static void noNumberOfABill() {
        for (int what : new int[] {-1, 6, LEAST, MOST}) {
            Scene.of("clock 0 0, bill 0 0 1").noArgument("billOf 0 " + what).noIndex("billOf 1 " + what);
        }
        Scene.of("clock 3 0, bill 0 0 1").due("billOf 0 0", 0).due("billOf 0 5", 0);
    }

    // Promises 14 to 16

    @Sentence(of = "Promise 14", says = {"Returns the clock that has a key.", "`key`: the key",
        "Returns the clock, -1 for nobody."})
    static void clockThatHasAKey() {
        for (int key = 0; key < 3; key++) {
            Scene.of("clock 0 0, clock 1 0").due("keeper " + key, -1).play("key " + key + " 1").due("keeper " + key, 1)
                .due("keeper " + (key + 1) % 3, -1).play("key " + key + " 0").due("keeper " + key, 0)
                .play("key " + key + " -1").due("keeper " + key, -1);
        }
    }

    @Sentence(of = "Promise 14", says = "Throws `IndexOutOfBoundsException` if there is no such key")
    static void noSuchKey() {
        for (int key : new int[] {-1, 3, 4, LEAST, MOST}) {
            Scene.of("clock 0 0, key 2 0").noIndex("keeper " + key).due("keeper 2", 0).due("keeper 0", -1);
        }
    }

    @Sentence(of = "Promise 15", says = {"Returns whether two clocks agree.", "`one`: the one clock",
        "`other`: the other clock", "Returns whether they do."})
    static void whetherTwoAgree() {
        clocks(0, 5, 6, 11).due("doAgree 0 1", true).due("doAgree 0 2", false).due("doAgree 2 0", false)
            .due("doAgree 1 2", true).due("doAgree 3 2", true).due("doAgree 3 1", false).due("doAgree 3 3", true);
    }

    @Sentence(of = "Promise 15", says = "Throws `IndexOutOfBoundsException` if there is no such clock, for either")
    static void noTwoToAgree() {
        noOtherThan0And1("doAgree", " 0");
        noOtherThan0And1("doAgree 0", "");
        clocks(0).noIndex("doAgree 1 1").noIndex("doAgree -1 -1").due("doAgree 0 0", true);
    }

    @Sentence(of = "Promise 16", says = {"Returns by how many seconds two clocks differ.", "`one`: the one clock",
        "`other`: the other clock", "Returns by how many, 0 to 30."})
    static void howManySecondsApart() {
        int[][] pairs = {{0, 0, 0}, {0, 1, 1}, {0, 29, 29}, {0, 30, 30}, {0, 31, 29}, {0, 59, 1}, {59, 29, 30},
            {59, 28, 29}, {59, 30, 29}, {30, 30, 0}, {15, 45, 30}, {14, 45, 29}, {16, 45, 29}, {59, 59, 0}};
        for (int[] pair : pairs) {
            clocks(pair[0], pair[1]).due("apart 0 1", pair[2]).due("apart 1 0", pair[2]).due("apart 1 1", 0);
        }
    }

    @Sentence(of = "Promise 16", says = "Throws `IndexOutOfBoundsException` if there is no such clock, for either")
    static void noTwoApart() {
        noOtherThan0And1("apart", " 0");
        noOtherThan0And1("apart 0", "");
        clocks(0).noIndex("apart 1 1").noIndex("apart -1 -1").due("apart 0 0", 0);
    }

    // Promises 17 to 20

    @Sentence(of = "Promise 17",
        says = {"Returns a bill of the row.", "`place`: its place, from 0", "Returns the bill."})
    static void billOfTheRow() {
        Scene s = Scene.of("clock 0 0, " + TEN_BILLS);
        for (int place = 0; place < 10; place++) {
            s.due("row " + place, place);
        }
        s.play("adjourn 9 1, hour 1").due("row 0", 9).due("row 1", 0).due("row 9", 8).play("drop 0").due("row 0", 8)
            .due("row 1", 0).due("row 8", 7);
    }

    @Sentence(of = "Promise 17", says = "Throws `NoSuchElementException` if there is no such place")
    static void noPlaceOfTheRow() {
        Scene.of("").noElement("row 0").noElement("row -1");
        for (int place : new int[] {-1, 2, 3, LEAST, MOST}) {
            Scene.of("clock 0 0, bill 0 0 1, bill 0 0 1, bill 0 0 1, adjourn 0 2").noElement("row " + place)
                .due("row 0", 1).due("row 1", 2);
        }
        Scene.of("clock 0 0, bill 0 0 1, adjourn 0 2").noElement("row 0").play("hour 2").due("row 0", 0);
        Scene.of("clock 0 0, " + TEN_BILLS).due("row 9", 9).noElement("row 10");
    }

    private static final String LATER =
        "clock 0 0, bill 0 0 1, bill 0 0 1, bill 0 0 1, bill 0 0 1, bill 0 0 1, adjourn 3 1, adjourn 1 12, adjourn 4 1";

    /** Asks for all of the row after some hours, and for the place behind it. */
    private static void rowLater(String call, int hours, String due) {
        Scene s = Scene.of(LATER);
        String[] bills = due.split(" ");
        for (int place = 0; place < bills.length; place++) {
            s.due(call + " " + hours + " " + place, bills[place]);
        }
        s.noElement(call + " " + hours + " " + bills.length).noElement(call + " " + hours + " -1");
    }

    private static void rowsLater(String call) {
        rowLater(call, 0, "0 2");
        rowLater(call, 1, "3 4 0 2");
        rowLater(call, 2, "3 4 0 2");
        rowLater(call, 11, "3 4 0 2");
        rowLater(call, 12, "1 3 4 0 2");
        rowLater(call, 13, "1 3 4 0 2");
        rowLater(call, 24, "1 3 4 0 2");
        Scene.of("clock 0 0, " + TEN_BILLS + ", adjourn 9 2, adjourn 0 1").due(call + " 2 0", 9).due(call + " 2 1", 0)
            .due(call + " 1 0", 0).due(call + " 2 9", 8).due(call + " 24 9", 8).due(call + " 0 7", 8)
            .noElement(call + " 0 8").due(call + " 1 8", 8).noElement(call + " 1 9").noElement(call + " 2 10");
    }

    private static void hoursOfRowsLater(String call) {
        Scene.of(LATER).noArgument(call + " -1 0").due(call + " 0 0", 0).due(call + " 1 0", 3).due(call + " 23 0", 1)
            .due(call + " 24 0", 1).noArgument(call + " 25 0");
    }

    private static void noHoursOfRowsLater(String call) {
        for (int hours : new int[] {-1, 25, 26, LEAST, MOST}) {
            Scene.of(LATER).noArgument(call + " " + hours + " 0").noArgument(call + " " + hours + " 99")
                .due(call + " 0 0", 0).due(call + " 24 0", 1);
        }
    }

    private static void noPlacesOfRowsLater(String call) {
        Scene.of("").noElement(call + " 0 0").noElement(call + " 24 0").noElement(call + " 24 -1");
        for (int place : new int[] {-1, 2, LEAST, MOST}) {
            Scene.of(LATER).noElement(call + " 0 " + place);
        }
        for (int place : new int[] {-1, 5, LEAST, MOST}) {
            Scene.of(LATER).noElement(call + " 24 " + place);
        }
        Scene.of("clock 0 0, bill 0 0 1, adjourn 0 2").noElement(call + " 1 0").due(call + " 2 0", 0)
            .noElement(call + " 2 1");
    }

    @Sentence(of = "Promise 18",
        says = {"Returns a bill that would be in the row after some hours: hour by hour.", "Returns the bill."})
    static void rowHourByHour() {
        rowsLater("rowIn");
        Scene s = Scene.of(LATER);
        String state = s.state();
        s.due("rowIn 24 0", 1).line("tellRow", "0 2");
        Check.same("nothing is different by asking", s.state(), state);
    }

    @Sentence(of = "Promise 18", says = "`hours`: how many hours, 0 to 24")
    static void hoursOfRowIn() {
        hoursOfRowsLater("rowIn");
    }

    @Sentence(of = "Promise 18", says = "Throws `IllegalArgumentException` if the hours are out of range")
    static void noHoursOfRowIn() {
        noHoursOfRowsLater("rowIn");
    }

    @Sentence(of = "Promise 18", says = {"`place`: its place then, from 0",
        "Throws `NoSuchElementException` if there would be no such place"})
    static void noPlaceOfRowIn() {
        noPlacesOfRowsLater("rowIn");
    }

    @Sentence(of = "Promise 19",
        says = {"Returns the same by a second way: by the hours of all bills at once.", "Returns the bill."})
    static void rowByTheHoursOfAllBills() {
        rowsLater("rowAgain");
        Scene s = Scene.of(LATER);
        String state = s.state();
        s.due("rowAgain 24 0", 1).line("tellRow", "0 2");
        Check.same("nothing is different by asking", s.state(), state);
    }

    @Sentence(of = "Promise 19", says = "`hours`: how many hours, 0 to 24")
    static void hoursOfRowAgain() {
        hoursOfRowsLater("rowAgain");
    }

    @Sentence(of = "Promise 19", says = "Throws `IllegalArgumentException` if the hours are out of range")
    static void noHoursOfRowAgain() {
        noHoursOfRowsLater("rowAgain");
    }

    @Sentence(of = "Promise 19", says = {"`place`: its place then, from 0",
        "Throws `NoSuchElementException` if there would be no such place"})
    static void noPlaceOfRowAgain() {
        noPlacesOfRowsLater("rowAgain");
    }

    @Sentence(of = "Promise 20", says = {"Returns in how many hours the next bill comes back.", "Returns in how many."})
    static void hoursToTheNextBill() {
        Scene.of("clock 0 0, bill 0 0 1, bill 0 0 1, bill 0 0 1, adjourn 1 12").due("next", 12).play("adjourn 0 11")
            .due("next", 11).play("hour 10").due("next", 1).play("hour 1").due("next", 1).play("adjourn 2 1")
            .due("next", 1).play("adjourn 0 2").due("next", 1).play("hour 1").due("next", 1);
        Scene.of("clock 0 0, bill 0 0 1, bill 0 0 1, adjourn 0 1, adjourn 1 2").due("next", 1).play("drop 0")
            .due("next", 2);
    }

    @Sentence(of = "Promise 20", says = "Throws `NoSuchElementException` if none is adjourned")
    static void noNextBill() {
        Scene.of("").noElement("next").play("clock 0 0").noElement("next").play("bill 0 0 1").noElement("next")
            .play("adjourn 0 1").due("next", 1).play("hour 1").noElement("next").play("adjourn 0 1, drop 0")
            .noElement("next");
    }

    // Promises 21 and 22

    @Sentence(of = "Promise 21", says = {"Returns in how many hours a clock would be silent: hour by hour.",
        "`clock`: the clock", "Returns in how many, 0 if it is."})
    static void hoursToSilence() {
        Scene s = Scene.of("clock 0 0, clock 1 0, hour 3, clock 2 0");
        String state = s.state();
        s.due("silentIn 0", 21).due("silentIn 2", 24);
        Check.same("nothing is different by asking", s.state(), state);
        s.play("move 1 59").due("silentIn 1", 15).play("hour 14").due("silentIn 1", 1).play("hour 1")
            .due("silentIn 1", 0).due("silentIn 0", 6).due("silentIn 2", 9).play("hour 1").due("silentIn 1", 0);
    }

    @Sentence(of = "Promise 21", says = "Throws `IndexOutOfBoundsException` if there is no such clock")
    static void noClockToBeSilent() {
        noOtherThan0And1("silentIn", "");
    }

    @Sentence(of = "Promise 22", says = {"Returns the second that a clock would tell after some hours.",
        "`clock`: the clock", "Returns the second."})
    static void secondAfterSomeHours() {
        Scene s = Scene.of("clock 40 0, clock 0 0, move 1 50");
        String state = s.state();
        s.due("secondIn 0 0", 40).due("secondIn 0 1", 41).due("secondIn 0 19", 59).due("secondIn 0 20", 0)
            .due("secondIn 0 22", 2).due("secondIn 0 23", 3).due("secondIn 0 24", 3).due("secondIn 0 48", 3)
            .due("secondIn 1 17", 7).due("secondIn 1 18", 7).due("secondIn 1 16", 6);
        Check.same("nothing is different by asking", s.state(), state);
        s.play("hour 23").due("secondIn 0 0", 3).due("secondIn 0 1", 3).play("hour 1").due("secondIn 0 48", 3);
    }

    @Sentence(of = "Promise 22", says = "`hours`: how many hours, 0 to 48")
    static void hoursOfSecondIn() {
        Scene.of("clock 5 0").noArgument("secondIn 0 -1").due("secondIn 0 0", 5).due("secondIn 0 1", 6)
            .due("secondIn 0 47", 28).due("secondIn 0 48", 28).noArgument("secondIn 0 49");
    }

    @Sentence(of = "Promise 22", says = "Throws `IllegalArgumentException` if the hours are out of range")
    static void noHoursOfSecondIn() {
        for (int hours : new int[] {-1, 49, 50, LEAST, MOST}) {
            Scene.of("clock 5 0").noArgument("secondIn 0 " + hours).due("secondIn 0 0", 5).due("secondIn 0 1", 6)
                .due("secondIn 0 47", 28).due("secondIn 0 48", 28);
        }
    }

    @Sentence(of = "Promise 22", says = "Throws `IndexOutOfBoundsException` if there is no such clock")
    static void noClockForSecondIn() {
        noOtherThan0And1("secondIn", " 0");
        noOtherThan0And1("secondIn", " 48");
    }

    // Promises 23 to 27

    @Sentence(of = "Promise 23", says = {"Returns the clocks that would vote on a bill now.", "`bill`: the bill",
        "Returns their set, bit k for the clock k."})
    static void clocksThatWouldVote() {
        clocks(10, 9, 30, 50, 51, 0, 29, 31).play("bill 0 30 1").due("voters 0", 1 + 4 + 8 + 64 + 128)
            .play("adjourn 0 3").due("voters 0", 205).play("leave 0").due("voters 0", 2 + 4 + 32 + 64);
        clocks(7, 7, 7, 7, 7, 7, 7, 7).play("bill 0 7 1, bill 0 37 1").due("voters 0", 255).due("voters 1", 0)
            .play("hour 23").due("voters 0", 0).due("voters 1", 255).play("vote, vote").due("account 1", 8);
    }

    @Sentence(of = "Promise 23", says = "Throws `IndexOutOfBoundsException` if there is no such bill")
    static void noBillForVoters() {
        noOtherThan0And1("voters", "");
    }

    private static void majorities(String call) {
        String[] clocks = {"0", "1", "2", "3", "0 0 0 0 0 0 0 0", "3 3 3 3 3 3 3 3", "0 3", "1 2", "0 1 2 3", "2 2 0",
            "3 3 1 1", "1 1 3", "2 2 2 0 0"};
        int[] due = {-3, -1, 1, 3, -24, 24, 0, 0, 0, -1, 4, 1, -3};
        for (int i = 0; i < clocks.length; i++) {
            Scene s = Scene.of("");
            for (String leaning : clocks[i].split(" ")) {
                s.play("clock 30 " + leaning);
            }
            s.play("bill 0 50 1, bill 0 51 1, bill 0 10 1").due(call + " 0", due[i]).due(call + " 1", 0)
                .due(call + " 2", due[i]).play("adjourn 0 1").due(call + " 0", due[i]).due(call + " 1", 0);
        }
        // Only those that are near enough and not silent count.
        Scene.of("clock 10 3, clock 9 0, clock 50 2, clock 51 0, bill 0 30 1").due(call + " 0", 4).play("hour 23")
            .play("clock 30 1").due(call + " 0", 3 - 3 + 1 - 3 - 1).play("hour 1").due(call + " 0", -1);
    }

    @Sentence(of = "Promise 24", says = {
        "Returns by how many chimes for a bill would be more than against it now: clock by clock.", "`bill`: the bill",
        "Returns by how many, below 0 for fewer."})
    static void majorityClockByClock() {
        majorities("majority");
    }

    @Sentence(of = "Promise 24", says = "Throws `IndexOutOfBoundsException` if there is no such bill")
    static void noBillForMajority() {
        noOtherThan0And1("majority", "");
    }

    @Sentence(of = "Promise 25", says = {"Returns the same by a second way: by how many clocks have each leaning.",
        "`bill`: the bill", "Returns by how many, below 0 for fewer."})
    static void majorityByLeanings() {
        majorities("majorityAgain");
    }

    @Sentence(of = "Promise 25", says = "Throws `IndexOutOfBoundsException` if there is no such bill")
    static void noBillForMajorityAgain() {
        noOtherThan0And1("majorityAgain", "");
    }

    @Sentence(of = "Promise 26", says = {"Returns whether a bill would be carried now if it was the first one.",
        "`bill`: the bill", "Returns whether it would."})
    static void whetherABillWouldBeCarried() {
        Scene.of("clock 30 3, clock 10 2, bill 0 30 3, bill 0 30 4, bill 0 30 5, bill 0 50 3, bill 0 51 2, bill 0 49 4")
            .due("wouldCarry 0", true).due("wouldCarry 1", true).due("wouldCarry 2", false).due("wouldCarry 3", true)
            .due("wouldCarry 4", false).due("wouldCarry 5", false).play("adjourn 1 5, adjourn 2 5")
            .due("wouldCarry 1", true).due("wouldCarry 2", false);
        Scene.of("clock 30 0, bill 0 30 1").due("wouldCarry 0", false);
    }

    @Sentence(of = "Promise 26", says = "Throws `IndexOutOfBoundsException` if there is no such bill")
    static void noBillForWouldCarry() {
        noOtherThan0And1("wouldCarry", "");
    }

    @Sentence(of = "Promise 27", says = {
        "Returns the bills on the table that would be carried now if each was the first one.",
        "Returns their set, bit k for the bill k."})
    static void billsThatWouldBeCarried() {
        Scene.of("").due("carried", 0).play("clock 0 3").due("carried", 0).play(TEN_BILLS).due("carried", 1023)
            .play("adjourn 9 1").due("carried", 511).play("adjourn 0 2").due("carried", 510).play("hour 1")
            .due("carried", 1022).play("leave 0").due("carried", 0);
        Scene.of("clock 30 3, bill 0 30 4, bill 0 30 3, bill 0 51 1, bill 0 50 1").due("carried", 10);
    }

    // Promises 28 to 30

    @Sentence(of = "Promise 28", says = {"Returns the clock with the least spring, of several the lowest.",
        "Returns the clock."})
    static void clockWithTheLeastSpring() {
        clocks(0, 1, 2, 3, 4, 5, 6, 7).due("weakest", 0).play("move 7 1").due("weakest", 7).play("move 3 1")
            .due("weakest", 3).play("move 7 1").due("weakest", 7).play("move 0 59").due("weakest", 0).play("hour 24")
            .due("weakest", 0).play("key 0 0, wind 0 0").due("weakest", 1);
        clocks(9).due("weakest", 0);
    }

    @Sentence(of = "Promise 28", says = "Throws `NoSuchElementException` if there are none")
    static void noWeakestClock() {
        Scene.of("").noElement("weakest").play("clock 0 0").due("weakest", 0).play("leave 0").noElement("weakest");
    }

    @Sentence(of = "Promise 29", says = {
        "Returns the clocks to which one comes from a clock by clocks that agree, itself included.",
        "`clock`: the clock", "Returns their set, bit k for the clock k."})
    static void circleOfAClock() {
        clocks(30).due("circle 0", 1);
        clocks(0, 6).due("circle 0", 1).due("circle 1", 2);
        // The way from each to each goes by all others, in an order that is not that of their numbers.
        clocks(35, 5, 20, 0, 30, 15, 25, 10).due("circle 0", 255).due("circle 3", 255).due("circle 1", 255)
            .due("circle 7", 255).due("circle 2", 255);
        clocks(50, 56, 1, 6, 12, 17, 44, 55).due("circle 0", 143).due("circle 3", 143).due("circle 4", 48)
            .due("circle 5", 48).due("circle 6", 64).due("circle 7", 143);
        clocks(59, 4, 54, 9, 48, 15, 53, 10).due("circle 0", 255).due("circle 4", 255).due("circle 5", 255);
    }

    @Sentence(of = "Promise 29", says = "Throws `IndexOutOfBoundsException` if there is no such clock")
    static void noClockForCircle() {
        noOtherThan0And1("circle", "");
        clocks(0, 0, 0, 0, 0, 0, 0, 0).due("circle 7", 255).noIndex("circle 8");
    }

    @Sentence(of = "Promise 30", says = {"Returns a clock in an order, the greatest first, of several the lowest.",
        "`kind`: 0 by spring, 1 by second, 2 by leaning, 3 by votes so far", "`place`: its place in the order, from 0",
        "Returns the clock."})
    static void clocksInAnOrder() {
        String start = "clock 59 0, clock 12 3, clock 30 2, clock 30 3, bill 0 39 1, vote, bill 0 51 1, vote, move 1 9";
        // Springs 22, 23, 23, 23; seconds 59, 21, 30, 30; leanings 0, 3, 2, 3; votes 2, 0, 1, 1.
        ordered(start, 0, "1 2 3 0");
        ordered(start, 1, "0 2 3 1");
        ordered(start, 2, "1 3 2 0");
        ordered(start, 3, "0 2 3 1");
        ordered("clock 1 1, clock 1 1, clock 1 1", 0, "0 1 2");
        ordered("clock 1 1, clock 1 1, clock 1 1", 1, "0 1 2");
        ordered("clock 1 1, clock 1 1, clock 1 1", 2, "0 1 2");
        ordered("clock 1 1, clock 1 1, clock 1 1", 3, "0 1 2");
        ordered("clock 1 0, clock 2 1, clock 3 2, clock 4 3", 1, "3 2 1 0");
    }

    private static void ordered(String start, int kind, String due) {
        Scene s = Scene.of(start);
        String[] clocks = due.split(" ");
        for (int place = 0; place < clocks.length; place++) {
            s.due("ranked " + kind + " " + place, clocks[place]);
        }
        s.noElement("ranked " + kind + " " + clocks.length).noElement("ranked " + kind + " -1");
    }

    @Sentence(of = "Promise 30", says = "Throws `IllegalArgumentException` if there is no such kind")
    static void noSuchKind() {
        for (int kind : new int[] {-1, 4, 5, LEAST, MOST}) {
            clocks(5).noArgument("ranked " + kind + " 0").noArgument("ranked " + kind + " 1").due("ranked 0 0", 0)
                .due("ranked 3 0", 0);
            Scene.of("").noArgument("ranked " + kind + " 0");
        }
    }

    @Sentence(of = "Promise 30", says = "Throws `NoSuchElementException` if there is no such place")
    static void noSuchPlaceInAnOrder() {
        for (int place : new int[] {-1, 2, 3, LEAST, MOST}) {
            for (int kind = 0; kind < 4; kind++) {
                clocks(5, 6).noElement("ranked " + kind + " " + place);
            }
        }
        Scene.of("").noElement("ranked 0 0").noElement("ranked 3 -1");
    }

    // Promise 31

    @Sentence(of = "Promise 31",
        says = {"Returns whether for all bills both ways to majorities agree, for 24 hours both "
        + "ways to the row do, and each bill is in the row or adjourned.", "Returns whether this is so."})
    static void isSoAtAllTimes() {
        Scene.of("").due("isTold", true);
        Scene s = clocks(0, 20, 40, 59, 21, 41, 19, 39).due("isTold", true).play(TEN_BILLS).due("isTold", true);
        for (int bill = 9; bill >= 0; bill--) {
            s.play("adjourn " + bill + " " + (12 - bill / 2)).due("isTold", true);
        }
        String state = s.state();
        s.due("isTold", true);
        Check.same("nothing is different by asking", s.state(), state);
        for (int hour = 0; hour < 14; hour++) {
            s.play("hour 1").due("isTold", true);
        }
        s.play("vote").due("isTold", true).play("drop 3").due("isTold", true).play("leave 0").due("isTold", true)
            .play("undo").due("isTold", true).play("save, restore").due("isTold", true);
    }
}
