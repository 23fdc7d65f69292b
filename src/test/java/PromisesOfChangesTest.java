/** Tests of the sentences of the promises 1 to 11: a new object, and the changes. */
final class PromisesOfChangesTest {
    private static final String EIGHT_CLOCKS = "clock 0 0, clock 10 1, clock 20 2, clock 30 3, clock 40 0, clock 50 1, "
        + "clock 55 2, clock 59 3";
    private static final int LEAST = Integer.MIN_VALUE;
    private static final int MOST = Integer.MAX_VALUE;

    private PromisesOfChangesTest() {
    }

    // Promise 1

    @Sentence(of = "Promise 1", says = "Creates a parliament without clocks and bills, whose keys nobody has.")
    static void nothingIsThereAtFirst() {
        Scene s = Scene.bare("");
        for (int what = 0; what <= 13; what++) {
            s.due("account " + what, 0);
        }
        s.due("keeper 0", -1).due("keeper 1", -1).due("keeper 2", -1).due("carried", 0).due("isTold", true)
            .due("faultPosition", -1).line("tellRow", "");
        s.noIndex("clockOf 0 0").noIndex("billOf 0 0").noElement("row 0").noElement("rowIn 24 0").noElement("next")
            .noElement("weakest").noElement("ranked 0 0").noElement("reason 0 true").noIndex("character 0")
            .noState("undo").noState("restore").fails("meanSpring", ArithmeticException.class)
            .fails("carriedShare", ArithmeticException.class);
        s.due("clock 3 1", 0).due("bill 0 0 1", 0);
    }

    // Promise 2

    @Sentence(of = "Promise 2", says = {"Lets a clock come.", "`second`: its second", "`leaning`: its leaning",
        "Returns its number."})
    static void clockReturnsItsNumber() {
        Scene s = Scene.of("").due("clock 0 3", 0).due("clock 59 0", 1).due("clock 30 2", 2);
        s.line("tell 0", "0:0~24<3").line("tell 1", "1:59~24<0").line("tell 2", "2:30~24<2").due("account 0", 3);
        s.play("leave 0").due("clock 1 1", 2).due("clock 2 1", 3).due("clock 3 1", 4).due("clock 4 1", 5)
            .due("clock 5 1", 6).due("clock 6 1", 7).due("clockOf 7 0", 6).due("clockOf 6 0", 5);
    }

    @Sentence(of = "Promise 2",
        says = "Throws `UnsupportedOperationException` if it is refused for the reason 3 or 1; the reason is kept")
    static void clockIsRefused() {
        for (int second : new int[] {-1, 60, LEAST, MOST}) {
            Scene.of("clock 1 1").refused("clock " + second + " 0", 3, second)
                .refused("clock " + second + " 3", 3, second).due("clock 0 0", 1);
        }
        for (int leaning : new int[] {-1, 4, LEAST, MOST}) {
            Scene.of("clock 1 1").refused("clock 0 " + leaning, 3, leaning).refused("clock 59 " + leaning, 3, leaning)
                .due("clock 59 3", 1);
        }
        Scene.of(EIGHT_CLOCKS).refused("clock 0 0", 1, 8).refused("clock 59 3", 1, 8).refused("clock 60 3", 3, 60)
            .refused("clock 59 -1", 3, -1).play("leave 7").due("clock 0 0", 7);
    }

    // Promise 3

    @Sentence(of = "Promise 3", says = {"Lets a clock leave.", "`clock`: the clock",
        "Returns how many clocks there are then."})
    static void leaveReturnsHowManyThereAre() {
        Scene s = Scene.of(EIGHT_CLOCKS);
        s.due("leave 7", 7).due("account 0", 7).due("clockOf 6 0", 55).due("leave 3", 6).due("clockOf 3 0", 40)
            .due("leave 0", 5).due("clockOf 0 0", 10).due("leave 4", 4).due("leave 3", 3).due("leave 2", 2)
            .due("leave 1", 1).due("clockOf 0 0", 10).due("leave 0", 0).due("account 0", 0);
    }

    @Sentence(of = "Promise 3",
        says = "Throws `UnsupportedOperationException` if it is refused for the reason 2; the reason is kept")
    static void leaveIsRefused() {
        Scene.of("").refused("leave 0", 2, 0).refused("leave -1", 2, -1);
        for (int clock : new int[] {-1, 2, 3, LEAST, MOST}) {
            Scene.of("clock 0 0, clock 1 0, key 0 1, bill 1 0 1").refused("leave " + clock, 2, clock).due("leave 1", 1)
                .refused("leave 1", 2, 1).due("leave 0", 0).refused("leave 0", 2, 0);
        }
    }

    // Promise 4

    @Sentence(of = "Promise 4", says = {"Gives a key to a clock, or to nobody.", "`key`: the key",
        "`clock`: the clock, or -1 for nobody", "Returns the clock that had it, -1 for nobody."})
    static void keyReturnsTheClockThatHadIt() {
        for (int key = 0; key < 3; key++) {
            Scene.of("clock 0 0, clock 30 0").due("key " + key + " 0", -1).due("keeper " + key, 0)
                .due("key " + key + " 1", 0).due("keeper " + key, 1).due("key " + key + " -1", 1)
                .due("keeper " + key, -1).due("key " + key + " 1", -1).due("key " + key + " 0", 1)
                .due("clockOf 0 3", 1).due("clockOf 1 3", 0);
        }
        Scene.of(EIGHT_CLOCKS).due("key 1 7", -1).due("key 1 0", 7).due("key 1 -1", 0);
    }

    @Sentence(of = "Promise 4",
        says = "Throws `UnsupportedOperationException` if it is refused for the reason 2, for the "
        + "key, then for the clock, or 4; the reason is kept")
    static void keyIsRefused() {
        for (int key : new int[] {-1, 3, LEAST, MOST}) {
            Scene.of("clock 0 0").refused("key " + key + " 0", 2, key).refused("key " + key + " 1", 2, key)
                .refused("key " + key + " -1", 2, key).refused("key " + key + " -2", 2, key);
        }
        for (int clock : new int[] {-2, 1, 2, LEAST, MOST}) {
            Scene.of("clock 0 0, key 1 0").refused("key 1 " + clock, 2, clock).refused("key 0 " + clock, 2, clock)
                .due("keeper 1", 0);
        }
        Scene.of("").refused("key 0 0", 2, 0).refused("key 0 -1", 4, -1);
        Scene.of("clock 0 0, clock 1 0, key 0 1").refused("key 0 1", 4, 1).refused("key 1 -1", 4, -1).due("key 0 0", 1)
            .refused("key 0 0", 4, 0).due("key 0 -1", 0).refused("key 0 -1", 4, -1);
    }

    // Promise 5

    @Sentence(of = "Promise 5", says = {"Winds a clock with a key.", "`key`: the key", "`clock`: the clock",
        "Returns the spring that it had."})
    static void windReturnsTheSpringItHad() {
        for (int key = 0; key < 3; key++) {
            Scene.of("clock 0 0, clock 3 0, clock 5 0, key " + key + " 1, hour 1").due("wind " + key + " 1", 23)
                .due("wind " + key + " 2", 23).due("wind " + key + " 0", 23).due("account 5", 72).play("hour 23")
                .due("wind " + key + " 1", 1).due("clockOf 1 1", 24).due("clockOf 0 1", 1).play("hour 1")
                .due("wind " + key + " 0", 0).due("clockOf 0 1", 24).due("account 11", 5);
        }
    }

    @Sentence(of = "Promise 5",
        says = "Throws `UnsupportedOperationException` if it is refused for the reason 2, for the "
        + "key, then for the clock, 5, 10 or 4; the reason is kept")
    static void windIsRefused() {
        for (int key : new int[] {-1, 3, LEAST, MOST}) {
            Scene.of("clock 0 0, hour 1").refused("wind " + key + " 0", 2, key).refused("wind " + key + " 1", 2, key);
        }
        for (int clock : new int[] {-1, 1, 2, LEAST, MOST}) {
            Scene.of("clock 0 0, key 1 0, hour 1").refused("wind 1 " + clock, 2, clock)
                .refused("wind 0 " + clock, 2, clock);
        }
        Scene.of("clock 0 0, clock 6 0").refused("wind 0 0", 5, 0).refused("wind 2 1", 5, 2).play("key 0 0")
            .refused("wind 0 1", 10, 6).refused("wind 0 0", 4, 24).play("hour 1").refused("wind 0 1", 10, 6)
            .refused("wind 1 0", 5, 1).due("wind 0 0", 23).refused("wind 0 0", 4, 24);
    }

    // Promise 6

    @Sentence(of = "Promise 6", says = {"Moves the second of a clock on.", "`clock`: the clock",
        "Returns its second then."})
    static void moveReturnsTheSecond() {
        Scene.of("clock 5 0, clock 50 0").due("move 1 9", 59).due("clockOf 1 0", 59).due("clockOf 0 0", 5)
            .due("move 1 1", 0).due("clockOf 1 0", 0).due("move 0 54", 59).due("move 1 59", 59).due("move 0 59", 58);
    }

    @Sentence(of = "Promise 6", says = "`seconds`: by how many, 1 to 59")
    static void secondsOfAMove() {
        String start = "clock 3 0";
        Scene.of(start).refused("move 0 0", 3, 0).due("clockOf 0 1", 24).due("move 0 1", 4).due("clockOf 0 1", 23);
        Scene.of(start).due("move 0 2", 5);
        Scene.of(start).due("move 0 58", 1);
        Scene.of(start).refused("move 0 60", 3, 60).due("clockOf 0 0", 3).due("move 0 59", 2).due("clockOf 0 1", 18);
    }

    @Sentence(of = "Promise 6",
        says = "Throws `UnsupportedOperationException` if it is refused for the reason 2, 3, 7 or "
        + "6; the reason is kept")
    static void moveIsRefused() {
        for (int clock : new int[] {-1, 1, 2, LEAST, MOST}) {
            Scene.of("clock 0 0").refused("move " + clock + " 1", 2, clock).refused("move " + clock + " 60", 2, clock);
        }
        for (int seconds : new int[] {-1, 0, 60, LEAST, MOST}) {
            Scene.of("clock 0 0, hour 23").refused("move 0 " + seconds, 3, seconds).play("hour 1")
                .refused("move 0 " + seconds, 3, seconds);
        }
        Scene.of("clock 0 0, hour 23").refused("move 0 10", 6, 1).play("hour 1").refused("move 0 10", 7, 23)
            .refused("move 0 1", 7, 23);
    }

    // Promise 7

    @Sentence(of = "Promise 7", says = {"Lets a clock move a bill.", "`clock`: the clock",
        "`second`: the second that it is about", "Returns the number of the bill."})
    static void billReturnsItsNumber() {
        Scene s = Scene.of("clock 0 0, clock 1 0").due("bill 1 59 3", 0).due("bill 0 0 9", 1);
        s.line("tellBill 0", "0@59+3").line("tellBill 1", "1@0+9").due("billOf 0 0", 1).due("billOf 1 0", 0)
            .due("billOf 0 5", 0).due("clockOf 0 1", 24).play("drop 0").due("bill 1 7 1", 1).due("bill 1 7 1", 2)
            .due("clockOf 1 4", 2);
    }

    @Sentence(of = "Promise 7", says = "`need`: how many chimes more it needs, 1 to 9")
    static void needOfABill() {
        Scene.of("clock 0 0").refused("bill 0 0 0", 3, 0).due("bill 0 0 1", 0).due("bill 0 0 2", 1).due("bill 0 0 8", 2)
            .due("bill 0 0 9", 3).refused("bill 0 0 10", 3, 10).due("billOf 0 2", 1).due("billOf 3 2", 9)
            .due("account 2", 4);
    }

    @Sentence(of = "Promise 7",
        says = "Throws `UnsupportedOperationException` if it is refused for the reason 2, 3, 7 or "
        + "1; the reason is kept")
    static void billIsRefused() {
        for (int clock : new int[] {-1, 1, 2, LEAST, MOST}) {
            Scene.of("clock 0 0").refused("bill " + clock + " 0 1", 2, clock)
                .refused("bill " + clock + " 60 0", 2, clock);
        }
        for (int second : new int[] {-1, 60, LEAST, MOST}) {
            Scene.of("clock 0 0").refused("bill 0 " + second + " 1", 3, second)
                .refused("bill 0 " + second + " 0", 3, second).due("bill 0 59 1", 0).due("bill 0 0 1", 1);
        }
        for (int need : new int[] {-1, 0, 10, LEAST, MOST}) {
            Scene.of("clock 0 0").refused("bill 0 0 " + need, 3, need).play("hour 24")
                .refused("bill 0 0 " + need, 3, need);
        }
        Scene s = Scene.of("clock 7 0, hour 23");
        for (int bill = 0; bill < 10; bill++) {
            s.due("bill 0 0 1", bill);
        }
        s.refused("bill 0 0 1", 1, 10).play("hour 1").refused("bill 0 0 1", 7, 30).play("drop 0")
            .refused("bill 0 0 1", 7, 30);
    }

    // Promise 8

    @Sentence(of = "Promise 8", says = {"Adjourns a bill.", "`bill`: the bill",
        "Returns how many bills are adjourned then."})
    static void adjournReturnsHowManyAre() {
        Scene s = Scene.of("clock 0 0, bill 0 0 1, bill 0 0 1, bill 0 0 1").due("adjourn 2 5", 1);
        s.due("billOf 2 3", 5).due("billOf 2 4", -1).due("billOf 2 5", 1).line("tellRow", "0 1").due("adjourn 0 1", 2)
            .due("adjourn 1 12", 3).line("tellRow", "").play("hour 1").due("adjourn 0 1", 3).due("billOf 0 5", 2)
            .play("hour 4").due("adjourn 2 1", 2).due("account 3", 2);
    }

    @Sentence(of = "Promise 8", says = "`hours`: for how many hours, 1 to 12")
    static void hoursOfAdjourning() {
        String start = "clock 0 0, bill 0 0 1";
        Scene.of(start).refused("adjourn 0 0", 3, 0).due("account 3", 0).due("adjourn 0 1", 1).due("billOf 0 3", 1);
        Scene.of(start).due("adjourn 0 2", 1).due("billOf 0 3", 2);
        Scene.of(start).due("adjourn 0 11", 1).due("billOf 0 3", 11);
        Scene.of(start).refused("adjourn 0 13", 3, 13).due("adjourn 0 12", 1).due("billOf 0 3", 12);
    }

    @Sentence(of = "Promise 8",
        says = "Throws `UnsupportedOperationException` if it is refused for the reason 2, 3 or 8; "
        + "the reason is kept")
    static void adjournIsRefused() {
        for (int bill : new int[] {-1, 2, 3, LEAST, MOST}) {
            Scene.of("clock 0 0, bill 0 0 1, bill 0 0 1").refused("adjourn " + bill + " 1", 2, bill)
                .refused("adjourn " + bill + " 0", 2, bill);
        }
        for (int hours : new int[] {-1, 0, 13, LEAST, MOST}) {
            Scene.of("clock 0 0, bill 0 0 1").refused("adjourn 0 " + hours, 3, hours).play("adjourn 0 3")
                .refused("adjourn 0 " + hours, 3, hours);
        }
        Scene.of("clock 0 0, bill 0 0 1, bill 0 0 1, adjourn 1 2").refused("adjourn 1 1", 8, 2).play("hour 1")
            .refused("adjourn 1 12", 8, 1).play("hour 1").due("adjourn 1 12", 1).refused("adjourn 1 12", 8, 12)
            .due("billOf 1 5", 2);
        Scene.of("").refused("adjourn 0 1", 2, 0);
    }

    // Promise 9

    @Sentence(of = "Promise 9", says = {"Lets a bill be done with.", "`bill`: the bill",
        "Returns how many bills there are then."})
    static void dropReturnsHowManyThereAre() {
        Scene s = Scene.of("clock 0 3, bill 0 1 1, bill 0 2 2, bill 0 3 3, adjourn 1 4").due("drop 1", 2);
        s.due("account 3", 0).line("tellBill 1", "1@3+3").line("tellRow", "0 1").due("drop 1", 1).line("tellRow", "0")
            .due("drop 0", 0).due("account 2", 0).line("tellRow", "").due("account 6", 0).due("account 8", 0)
            .due("clockOf 0 1", 24);
    }

    @Sentence(of = "Promise 9",
        says = "Throws `UnsupportedOperationException` if it is refused for the reason 2; the reason is kept")
    static void dropIsRefused() {
        Scene.of("clock 0 0").refused("drop 0", 2, 0).refused("drop -1", 2, -1);
        for (int bill : new int[] {-1, 2, 3, LEAST, MOST}) {
            Scene.of("clock 0 0, bill 0 0 1, bill 0 0 1, adjourn 0 3").refused("drop " + bill, 2, bill)
                .due("drop 1", 1).refused("drop 1", 2, 1).due("drop 0", 0).refused("drop 0", 2, 0);
        }
    }

    // Promise 10

    @Sentence(of = "Promise 10",
        says = {"Holds a vote.", "Returns by how many the chimes for the bill are more than those "
        + "against it, below 0 for fewer, 0 if nobody votes."})
    static void voteReturnsTheMajority() {
        for (int leaning = 0; leaning < 4; leaning++) {
            Scene s = Scene.of("clock 30 " + leaning);
            for (int clock = 1; clock < 8; clock++) {
                s.play("clock 30 " + leaning);
            }
            s.play("bill 0 30 1").due("vote", 8 * (2 * leaning - 3)).due("account 9", 24).due("account 6", 1);
        }
        Scene.of("clock 30 1, clock 30 2, bill 0 30 1").due("vote", 0).due("account 6", 1).due("account 9", 6);
        Scene.of("clock 30 1, clock 30 2, clock 30 2, bill 0 30 1").due("vote", 1);
        Scene.of("clock 30 1, clock 30 1, clock 30 2, bill 0 30 1").due("vote", -1);
        Scene.of("clock 0 3, bill 0 30 1").due("vote", 0).due("account 6", 0).due("account 9", 0);
    }

    @Sentence(of = "Promise 10",
        says = "Throws `UnsupportedOperationException` if it is refused for the reason 9; the reason is kept")
    static void voteIsRefused() {
        Scene.of("").refused("vote", 9, 0);
        Scene.of("clock 0 3").refused("vote", 9, 0).play("bill 0 0 1, bill 0 0 1, bill 0 0 1, adjourn 2 1, adjourn 1 1")
            .due("vote", 3).refused("vote", 9, 2).play("hour 1, adjourn 0 3").due("vote", 3).refused("vote", 9, 1)
            .play("drop 0").refused("vote", 9, 0);
    }

    // Promise 11

    @Sentence(of = "Promise 11", says = {"Lets hours go by.", "Returns how many bills come back in them."})
    static void hourReturnsHowManyComeBack() {
        String start = "clock 0 0, bill 0 0 1, bill 0 0 1, bill 0 0 1, bill 0 0 1, adjourn 0 3, adjourn 1 3, "
            + "adjourn 2 5";
        Scene.of(start).due("hour 2", 0).due("hour 1", 2).due("account 10", 2).due("hour 1", 0).due("hour 1", 1)
            .due("account 10", 3).due("hour 24", 0).due("account 10", 3);
        Scene.of(start).due("hour 3", 2);
        Scene.of(start).due("hour 4", 2);
        Scene.of(start).due("hour 5", 3).due("account 10", 3).due("account 3", 0);
        Scene.of("").due("hour 24", 0).due("account 4", 24);
    }

    @Sentence(of = "Promise 11", says = "`hours`: how many, 1 to 24")
    static void hoursThatGoBy() {
        Scene.of("clock 0 0").refused("hour 0", 3, 0).due("account 4", 0).due("hour 1", 0).due("account 4", 1)
            .due("hour 2", 0).due("account 4", 3).due("hour 23", 0).due("account 4", 26).due("hour 24", 0)
            .due("account 4", 50).refused("hour 25", 3, 25).due("account 4", 50);
    }

    @Sentence(of = "Promise 11",
        says = "Throws `UnsupportedOperationException` if it is refused for the reason 3; the reason is kept")
    static void hourIsRefused() {
        for (int hours : new int[] {-1, 0, 25, 26, LEAST, MOST}) {
            Scene.of("clock 0 0, bill 0 0 1, adjourn 0 1").refused("hour " + hours, 3, hours).due("account 4", 0)
                .due("billOf 0 3", 1).due("clockOf 0 1", 24).due("hour 1", 1).refused("hour " + hours, 3, hours)
                .due("hour 24", 0).due("account 4", 25);
        }
    }
}
