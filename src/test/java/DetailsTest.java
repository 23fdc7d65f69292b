import java.lang.reflect.Method;
import java.lang.reflect.Modifier;
import java.util.Arrays;
import java.util.TreeSet;

/** Tests of the sentences of "Changes", "Details" and "Exceptions", and of what stands ahead of the terms. */
final class DetailsTest {
    private static final String BUSY = "clock 0 3, clock 9 2, clock 58 0, bill 0 5 4, bill 1 5 9, bill 2 7 1, "
        + "bill 0 8 1, adjourn 2 1, adjourn 3 5, key 0 1, hour 1, vote";
    private static final String[] QUESTIONS = {
        "clockOf 0 0", "billOf 0 0", "keeper 0", "doAgree 0 1", "apart 0 1", "row 0", "rowIn 5 0", "rowAgain 5 0",
        "next", "silentIn 0", "secondIn 0 5", "voters 0", "majority 0", "majorityAgain 0", "wouldCarry 0", "carried",
        "weakest", "circle 0", "ranked 0 0", "isTold", "faultPosition", "reason 0 true", "character 0", "account 0",
        "meanSpring", "carriedShare"
    };
    private static final String[] CHANGES = {
        "clock 5 1", "leave 1", "key 0 2", "wind 0 1", "move 2 30", "bill 2 40 1", "adjourn 1 5", "drop 0", "vote",
        "hour 24"
    };

    private DetailsTest() {
    }

    @Sentence(of = "What it is", promise = {1},
        says = "An object is used for at most 512 calls after it has been made;")
    static void theLastOf512Calls() {
        ClockParliament x = new ClockParliament();
        for (int call = 1; call < 512; call++) {
            x.hour(24);
        }
        Check.same("hours, asked by call 512", x.account(4), 511 * 24);
        ClockParliament y = new ClockParliament();
        y.clock(0, 3);
        y.key(0, 0);
        for (int call = 3; call < 511; call += 4) {
            y.bill(0, y.clockOf(0, 0), 1);
            y.vote();
            y.wind(0, 0);
        }
        Check.same("votes", y.account(6), 127);
        Check.same("windings, asked by call 512", y.account(11), 127);
    }

    @Sentence(of = "The public face", says = {"import java.util.NoSuchElementException;",
        "public final class ClockParliament {", "public ClockParliament();"})
    static void theFaceIsAsItStands() {
        TreeSet<String> face = new TreeSet<>();
        for (Method method : ClockParliament.class.getDeclaredMethods()) {
            if (Modifier.isPublic(method.getModifiers()) && !method.isSynthetic()) {
                StringBuilder told = new StringBuilder(method.getReturnType().getSimpleName());
                told.append(' ').append(method.getName());
                told.append(Arrays.toString(Arrays.stream(method.getParameterTypes())
                    .map(Class::getSimpleName).toArray()));
                face.add(told + Arrays.toString(Arrays.stream(method.getExceptionTypes())
                    .map(Class::getSimpleName).toArray()));
            }
        }
        String refused = "[UnsupportedOperationException]";
        String index = "[IndexOutOfBoundsException]";
        String element = "[NoSuchElementException]";
        TreeSet<String> due = new TreeSet<>(Arrays.asList("int clock[int, int]" + refused, "int leave[int]" + refused,
            "int key[int, int]" + refused, "int wind[int, int]" + refused, "int move[int, int]" + refused,
            "int bill[int, int, int]" + refused, "int adjourn[int, int]" + refused, "int drop[int]" + refused,
            "int vote[]" + refused, "int hour[int]" + refused,
            "int clockOf[int, int][IndexOutOfBoundsException, IllegalArgumentException]",
            "int billOf[int, int][IndexOutOfBoundsException, IllegalArgumentException]", "int keeper[int]" + index,
            "boolean doAgree[int, int]" + index, "int apart[int, int]" + index, "int row[int]" + element,
            "int rowIn[int, int][IllegalArgumentException, NoSuchElementException]",
            "int rowAgain[int, int][IllegalArgumentException, NoSuchElementException]", "int next[]" + element,
            "int silentIn[int]" + index,
            "int secondIn[int, int][IndexOutOfBoundsException, IllegalArgumentException]", "int voters[int]" + index,
            "int majority[int]" + index, "int majorityAgain[int]" + index, "boolean wouldCarry[int]" + index,
            "int carried[][]", "int weakest[]" + element, "int circle[int]" + index,
            "int ranked[int, int][IllegalArgumentException, NoSuchElementException]", "boolean isTold[][]",
            "int append[char][IllegalArgumentException, IllegalStateException]",
            "int run[][IllegalArgumentException, UnsupportedOperationException]", "int faultPosition[][]",
            "int reason[int, boolean][IllegalArgumentException, NoSuchElementException]", "int tell[int]" + index,
            "int tellBill[int]" + index, "int tellRow[][]", "char character[int]" + index,
            "int account[int][IllegalArgumentException]", "double meanSpring[][ArithmeticException]",
            "float carriedShare[][ArithmeticException]", "int undo[][IllegalStateException]", "int save[][]",
            "int restore[][IllegalStateException]"));
        Check.same("the public methods", face, due);
        Check.same("the class", Modifier.toString(ClockParliament.class.getModifiers()), "public final");
        Check.same("the public fields", ClockParliament.class.getFields().length, 0);
        Check.same("the public constructors", ClockParliament.class.getConstructors().length, 1);
    }

    // Changes

    @Sentence(of = "Changes", promise = {33, 40, 43},
        says = "The changes are the calls of clock, leave, key, wind, move, bill, "
        + "adjourn, drop, vote, hour and run that throw no exception,")
    static void whatIsAChange() {
        int before = BUSY.split(", ").length;
        Check.isSo("more than 8 changes ahead", before > 8);
        for (String change : CHANGES) {
            Scene s = Scene.of(BUSY + ", undo").due("account 13", 7);
            String state = s.state();
            s.play(change).due("account 13", 8);
            Check.isSo(change + " makes something different", !s.state().equals(state));
            s.due("undo", 7);
            Check.same(change + " undone", s.state(), state);
        }
        Scene s = Scene.of(BUSY + ", undo").due("account 13", 7);
        String state = s.state();
        s.text("leave 2;hour;drop 0;clock 1 1", 4).due("account 13", 8).due("undo", 7);
        Check.same("run undone", s.state(), state);
    }

    @Sentence(of = "Changes", promise = {32, 34, 36, 37, 38, 40, 43, 44}, says = "that throw no exception,")
    static void whatIsNoChange() {
        Scene s = Scene.of(BUSY + ", hour 1, undo").due("account 13", 7).refused("hour 0", 3, 0).play("tellRow");
        String state = s.state();
        for (String question : QUESTIONS) {
            s.play(question).due("account 13", 7);
        }
        for (String other : new String[] {"append 120", "tell 0", "tellBill 0", "tellRow", "save"}) {
            s.play(other).due("account 13", 7);
        }
        Check.same("as before", s.state(), state);
        // Those that throw are no changes either.
        s.refused("clock 60 0", 3, 60).refused("leave 3", 2, 3).refused("key 0 1", 4, 1).refused("wind 1 0", 5, 1)
            .refused("move 0 0", 3, 0).refused("bill 0 0 0", 3, 0).refused("adjourn 2 1", 8, 4)
            .refused("drop 3", 2, 3).refused("hour 0", 3, 0).due("account 13", 7);
        Scene.of("clock 0 0, hour 1").refused("vote", 9, 0).fault("vots", 3).refusedText("hour;vote", 1, 9, 0)
            .due("account 13", 2);
    }

    @Sentence(of = "Changes", promise = {33, 43}, says = "also if nothing is different then.")
    static void aChangeThatMakesNothingDifferent() {
        Scene s = Scene.of("clock 0 0, clock 1 0");
        String state = s.state();
        s.text("key 0 1;key 0 -", 2);
        Check.same("nothing is different", s.state(), state);
        s.due("account 13", 3).due("undo", 2);
        Check.same("nothing is different by undo", s.state(), state);
        s.due("undo", 1).due("account 0", 1);
    }

    @Sentence(of = "Changes", promise = {40, 43}, says = "The latest 8 can be undone,")
    static void eightCanBeUndone() {
        for (int changes = 0; changes <= 20; changes++) {
            Scene s = Scene.bare("");
            for (int i = 0; i < changes; i++) {
                s.due("account 13", Math.min(i, 8)).play("hour 1");
            }
            int most = Math.min(changes, 8);
            s.due("account 13", most).due("account 4", changes);
            for (int left = most - 1; left >= 0; left--) {
                s.due("undo", left).due("account 13", left).due("account 4", changes - most + left);
            }
            s.noState("undo").due("account 4", changes - most);
        }
    }

    @Sentence(of = "Changes", promise = {43}, says = "the latest one first.")
    static void theLatestIsUndoneFirst() {
        String start = "hour 1, hour 2, hour 3, hour 4, hour 5, hour 6, hour 7, hour 8, hour 9";
        Scene.bare(start).due("account 4", 45).due("undo", 7).due("account 4", 36).due("undo", 6).due("account 4", 28)
            // New changes come in place of those that were undone.
            .play("hour 20").due("account 13", 7).due("account 4", 48).due("undo", 6).due("account 4", 28)
            .due("undo", 5).due("account 4", 21).due("undo", 4).due("undo", 3).due("undo", 2).due("undo", 1)
            .due("account 4", 3).due("undo", 0).due("account 4", 1).noState("undo");
        // Behind the eighth the oldest ones are lost, also when some were undone in between.
        Scene.bare(start + ", undo, undo, undo, hour 11, hour 12, hour 13, hour 14").due("account 13", 8)
            .due("account 4", 71).due("undo", 7).due("account 4", 57).due("undo", 6).due("undo", 5).due("undo", 4)
            .due("account 4", 21).due("undo", 3).due("undo", 2).due("undo", 1).due("undo", 0).due("account 4", 3)
            .noState("undo");
    }

    @Sentence(of = "Changes", promise = {43},
        says = "The input, the fault position, the reason with what is behind it, "
        + "the line of text and what was saved stay as they are when a change is undone.")
    static void whatUndoingLetsStay() {
        Scene s = Scene.of("clock 12 2, save, hour 1");
        s.fault("vots", 3).refusedText("hour;drop 7", 1, 2, 7).play("clock 9 1, tell 0").due("account 13", 3);
        s.fault("hour;x", 5).play("type hou").due("undo", 2);
        s.due("account 12", 3).due("faultPosition", 5);
        Check.same("the reason and its cause", s.reasons(), "11 1 2 7");
        Check.same("the line", s.line(), "0:13~23<2");
        s.due("undo", 1).due("undo", 0).due("account 0", 0).due("faultPosition", 5);
        Check.same("the reason and its cause", s.reasons(), "11 1 2 7");
        Check.same("the line", s.line(), "0:13~23<2");
        s.due("append 114", 4).due("run", 1).due("account 4", 1).due("restore", 1).due("clockOf 0 0", 12);
        // A run that is undone does not bring its text back.
        Scene.of("clock 1 1").text("hour 3", 1).due("undo", 1).due("account 12", 0).due("faultPosition", -1);
    }

    // Details

    @Sentence(of = "Details", promise = {2, 12}, says = "A clock comes with a spring of 24.")
    static void aClockComesWound() {
        Scene.of("clock 0 0, hour 3, clock 59 3").due("clockOf 1 1", 24).due("clockOf 0 1", 21).due("silentIn 1", 24)
            .play("leave 0, leave 0, clock 5 0").due("clockOf 0 1", 24).due("clockOf 0 5", 0);
    }

    @Sentence(of = "Details", promise = {5},
        says = "Only a clock that agrees with the one that has the key can be wound with it;")
    static void onlyAnAgreeingClockIsWound() {
        int[][] pairs = {{10, 15, 5}, {10, 16, 6}, {10, 5, 5}, {10, 4, 6}, {57, 2, 5}, {57, 3, 6}, {2, 57, 5},
            {2, 56, 6}, {10, 10, 0}, {10, 14, 4}, {0, 30, 30}, {0, 31, 29}};
        for (int[] pair : pairs) {
            Scene s = Scene.of("clock " + pair[0] + " 0, clock " + pair[1] + " 0, key 1 0, hour 2");
            if (pair[2] <= 5) {
                s.due("wind 1 1", 22).due("clockOf 1 1", 24);
            } else {
                s.refused("wind 1 1", 10, pair[2]).due("clockOf 1 1", 22);
            }
        }
        // Agreeing with a third clock that agrees is not enough.
        Scene.of("clock 0 0, clock 5 0, clock 10 0, key 0 0, hour 1").due("circle 0", 7).due("wind 0 1", 23)
            .refused("wind 0 2", 10, 10);
    }

    @Sentence(of = "Details", promise = {5, 15, 16}, says = "a clock agrees with itself, also a silent one.")
    static void aClockAgreesWithItself() {
        Scene.of("clock 40 0, key 2 0").due("doAgree 0 0", true).due("apart 0 0", 0).play("hour 23")
            .due("doAgree 0 0", true).play("hour 1").due("account 1", 1).due("doAgree 0 0", true).due("apart 0 0", 0)
            .due("circle 0", 1).due("clockOf 0 6", 0).due("wind 2 0", 0).due("clockOf 0 1", 24);
    }

    @Sentence(of = "Details", promise = {3, 13},
        says = "If a clock leaves, its bills stay, and are moved by nobody then.")
    static void billsOfALeavingClockStay() {
        Scene s = Scene.of("clock 0 3, clock 1 3, bill 0 5 1, bill 1 6 2, bill 0 7 3, adjourn 2 3").due("leave 0", 1);
        s.due("account 2", 3).line("tellBill 0", "0@5+1").line("tellBill 1", "1@6+2").line("tellBill 2", "2@7+3h3")
            .due("billOf 0 0", -1).due("billOf 1 0", 0).due("billOf 2 0", -1).due("clockOf 0 4", 1)
            .line("tellRow", "0 1").play("leave 0").due("account 2", 3).due("billOf 1 0", -1).play("clock 5 3")
            .due("clockOf 0 4", 0).due("billOf 0 0", -1).due("vote", 3).due("account 7", 1).due("account 2", 2);
    }

    @Sentence(of = "Details", promise = {5}, says = "A silent clock that has a key can wind, too.")
    static void aSilentClockWinds() {
        Scene.of("clock 0 0, clock 3 0, key 0 0, hour 24").due("account 1", 2).due("wind 0 1", 0)
            .due("clockOf 1 1", 24).due("clockOf 0 1", 0).due("account 1", 1).refused("wind 0 1", 4, 24)
            .due("wind 0 0", 0).due("account 1", 0);
    }

    @Sentence(of = "Details", promise = {6}, says = "A spring of just as much as a move takes is enough.")
    static void aSpringOfJustAsMuch() {
        // By hours gone: the spring, the longest way that it is enough for, and the second then.
        int[][] cases = {{23, 1, 9, 32}, {22, 2, 19, 41}, {21, 3, 29, 50}, {20, 4, 39, 59}, {19, 5, 49, 8}};
        for (int[] one : cases) {
            Scene.of("clock 0 0, hour " + one[0]).due("clockOf 0 1", one[1])
                .refused("move 0 " + (one[2] + 1), 6, one[1])
                .due("move 0 " + one[2], one[3]).due("clockOf 0 1", 0).due("account 1", 1);
            int shortest = Math.max(1, one[2] - 9);
            Scene.of("clock 0 0, hour " + one[0]).due("move 0 " + shortest, (one[0] + shortest) % 60)
                .due("clockOf 0 1", 0);
            if (one[1] > 1) {
                Scene.of("clock 0 0, hour " + one[0]).play("move 0 " + (one[2] - 10)).due("clockOf 0 1", 1);
            }
        }
        Scene.of("clock 0 0, hour 18").due("move 0 59", 17).due("clockOf 0 1", 0);
        Scene.of("clock 0 0, hour 18").due("move 0 50", 8).due("clockOf 0 1", 0);
        Scene.of("clock 0 0, hour 19").refused("move 0 59", 6, 5).refused("move 0 50", 6, 5);
    }

    @Sentence(of = "Details", promise = {11, 18, 19},
        says = "Of the bills that come back in one hour the lowest is the first in the row.")
    static void theLowestBackIsFirst() {
        Scene.of("clock 0 0, bill 0 0 1, bill 0 0 1, bill 0 0 1, bill 0 0 1, adjourn 3 3, adjourn 2 2, adjourn 1 3, "
            + "hour 1, adjourn 0 2").line("tellRow", "").due("rowIn 2 0", 0).due("rowIn 2 1", 1).due("rowIn 2 2", 3)
            .due("rowIn 2 3", 2).due("rowAgain 2 0", 0).due("rowAgain 2 1", 1).due("rowAgain 2 2", 3)
            .due("rowAgain 2 3", 2).play("hour 2").line("tellRow", "0 1 3 2");
    }

    @Sentence(of = "Details", promise = {8}, says = "Any bill of the row can be adjourned.")
    static void anyBillOfTheRowIsAdjourned() {
        String start = "clock 0 0, bill 0 0 1, bill 0 0 1, bill 0 0 1, bill 0 0 1, bill 0 0 1, bill 0 0 1, bill 0 0 1, "
            + "bill 0 0 1, bill 0 0 1, bill 0 0 1";
        for (int bill = 0; bill < 10; bill++) {
            Scene.of(start).due("adjourn " + bill + " 1", 1).due("billOf " + bill + " 4", -1)
                .line("tellRow", "0 1 2 3 4 5 6 7 8 9".replace(bill + (bill < 9 ? " " : ""), "").strip());
        }
        Scene.of("clock 0 0, bill 0 0 1").due("adjourn 0 12", 1).line("tellRow", "");
    }

    @Sentence(of = "Details", promise = {10, 26, 27},
        says = "A bill is carried also if it has more chimes for it than it needs.")
    static void carriedByMoreThanItNeeds() {
        Scene.of("clock 30 3, bill 0 30 2, bill 0 30 1, bill 0 30 4").due("wouldCarry 0", true)
            .due("wouldCarry 1", true).due("wouldCarry 2", false).due("carried", 3).play("vote, vote, vote")
            .due("account 7", 2).due("account 8", 1);
        Scene.of("clock 30 3, clock 30 3, clock 30 3, clock 30 3, clock 30 3, clock 30 3, clock 30 3, clock 30 3, "
            + "bill 0 30 9, bill 0 30 1").due("wouldCarry 0", true).due("carried", 3).due("vote", 24)
            .due("account 7", 1);
    }

    @Sentence(of = "Details", promise = {8, 10, 13, 20},
        says = "A bill that is adjourned as nobody can vote counts as adjourned.")
    static void adjournedAsNobodyCanVote() {
        Scene.of("clock 0 3, bill 0 21 1, bill 0 21 1").due("billOf 0 5", 0).play("vote").due("billOf 0 5", 1)
            .due("billOf 1 5", 0).due("account 3", 1).due("next", 1).refused("adjourn 0 1", 8, 1)
            .line("tellBill 0", "0@21+1h1").due("adjourn 1 3", 2).due("hour 1", 1).due("account 10", 1)
            .play("adjourn 0 2").due("billOf 0 5", 2);
    }

    @Sentence(of = "Details", promise = {11, 21, 22},
        says = "A clock whose spring becomes 0 by an hour does not go on in it.")
    static void runDownByAnHour() {
        Scene.of("clock 36 0, hour 22").line("tell 0", "0:58~2<0").due("secondIn 0 1", 59).due("secondIn 0 2", 59)
            .due("secondIn 0 3", 59).play("hour 1").line("tell 0", "0:59~1<0").play("hour 1")
            .line("tell 0", "0:59~0<0").play("hour 1").line("tell 0", "0:59~0<0");
        Scene.of("clock 0 0, hour 24").line("tell 0", "0:23~0<0");
    }

    @Sentence(of = "Details", promise = {23, 24, 25, 26}, says = "Who would vote is asked of adjourned bills, too;")
    static void votersOfAdjournedBills() {
        Scene.of("clock 30 3, clock 51 3, bill 0 31 3, bill 0 31 3, adjourn 0 12").due("voters 0", 3)
            .due("majority 0", 6).due("majorityAgain 0", 6).due("wouldCarry 0", true).due("carried", 2)
            .play("adjourn 1 1").due("voters 1", 3).due("carried", 0);
    }

    @Sentence(of = "Details", promise = {26, 27}, says = "a bill on which nobody would vote would not be carried.")
    static void notCarriedByNobody() {
        Scene.of("clock 30 3, bill 0 51 1, bill 0 50 1").due("voters 0", 0).due("majority 0", 0)
            .due("majorityAgain 0", 0).due("wouldCarry 0", false).due("wouldCarry 1", true).due("carried", 2)
            .play("adjourn 0 3").due("wouldCarry 0", false).play("leave 0").due("wouldCarry 1", false)
            .due("voters 1", 0).due("carried", 0);
        Scene.of("clock 30 3, bill 0 53 1, hour 23").due("wouldCarry 0", true).play("hour 1")
            .due("wouldCarry 0", false).due("carried", 0);
    }

    @Sentence(of = "Details", promise = {18, 19, 20, 21, 22},
        says = "What is asked of hours to come is told as if only hours went by, and no votes.")
    static void onlyHoursGoBy() {
        Scene s = Scene.of("clock 50 3, bill 0 50 1, bill 0 20 1, bill 0 55 1, adjourn 2 2");
        String state = s.state();
        s.due("rowIn 24 0", 2).due("rowIn 24 1", 0).due("rowIn 24 2", 1).due("rowAgain 24 0", 2)
            .due("rowAgain 24 1", 0).due("rowAgain 24 2", 1).due("silentIn 0", 24).due("secondIn 0 23", 13)
            .due("secondIn 0 24", 13).due("secondIn 0 48", 13).due("next", 2);
        Check.same("nothing is different by asking", s.state(), state);
        s.play("vote").due("silentIn 0", 23).due("secondIn 0 22", 12).due("secondIn 0 23", 12);
    }

    // Exceptions

    @Sentence(of = "Exceptions", promise = {2, 3, 4, 5, 6, 7, 8, 9, 10, 11, 12, 13, 14, 15, 16, 17, 18, 19, 20, 21, 22,
        23, 24, 25, 26, 28, 29, 30, 32, 33, 35, 36, 37, 39, 40, 41, 42, 43, 45},
        says = "A method that throws an exception leaves the state unchanged, unless it is said otherwise.")
    static void unchangedByAnException() {
        String start = "clock 30 3, clock 35 1, bill 0 30 1, bill 1 20 9, bill 1 21 4, key 1 1, vote, adjourn 1 4, "
            + "hour 2";
        Scene.of(start).refused("clock 60 0", 3, 60).refused("leave 2", 2, 2).refused("key 1 1", 4, 1)
            .refused("wind 1 -1", 2, -1).refused("move 0 60", 3, 60).refused("bill 0 1 0", 3, 0)
            .refused("adjourn 1 1", 8, 2).refused("drop 2", 2, 2).refused("hour 25", 3, 25);
        Scene.of(start).play("adjourn 0 1").refused("vote", 9, 2);
        Scene.of(start).noIndex("clockOf 2 0").noArgument("clockOf 1 7").noIndex("billOf 2 0").noArgument("billOf 1 6")
            .noIndex("keeper 3").noIndex("doAgree 0 2").noIndex("apart 2 0").noElement("row 1").noArgument("rowIn 25 0")
            .noElement("rowIn 24 2").noArgument("rowAgain 25 0").noElement("rowAgain 24 2").noIndex("silentIn 2")
            .noIndex("secondIn 2 0").noArgument("secondIn 1 49");
        Scene.of(start).noIndex("voters 2").noIndex("majority 2").noIndex("majorityAgain 2").noIndex("wouldCarry 2")
            .noIndex("circle 2").noArgument("ranked 4 0").noElement("ranked 0 2").noArgument("append 31")
            .noArgument("reason 2 true").noElement("reason 1 true").noIndex("tell 2").noIndex("tellBill 2")
            .noIndex("character 99").noArgument("account 14");
        Scene.of("clock 1 1, bill 0 0 1, leave 0").noElement("next").noElement("weakest")
            .fails("meanSpring", ArithmeticException.class).fails("carriedShare", ArithmeticException.class);
        Scene.of(start).fault("hour;hour;", 10).refusedText("hour;move 1 5;vote;vote", 3, 9, 1);
        Scene.bare("clock 1 1").noState("restore").play("undo").noState("undo").noElement("reason 0 false");
    }

    @Sentence(of = "Exceptions", promise = {12, 13, 18, 19, 22, 30, 32, 33, 35},
        says = "If several conditions of a method are fulfilled, the one that is listed first determines the "
            + "exception.")
    static void theFirstListedException() {
        Scene s = Scene.of("clock 0 0, bill 0 0 1");
        s.noIndex("clockOf 1 7").noIndex("clockOf -1 -1").noArgument("clockOf 0 7").noIndex("clockOf 1 0");
        s.noIndex("billOf 1 6").noIndex("billOf -1 -1").noArgument("billOf 0 6").noIndex("billOf 1 0");
        s.noArgument("rowIn 25 1").noArgument("rowIn -1 -1").noElement("rowIn 24 1").noArgument("rowIn 25 0");
        s.noArgument("rowAgain 25 1").noArgument("rowAgain -1 -1").noElement("rowAgain 24 1")
            .noArgument("rowAgain 25 0");
        s.noIndex("secondIn 1 49").noIndex("secondIn -1 -1").noArgument("secondIn 0 49").noIndex("secondIn 1 0");
        s.noArgument("ranked 4 1").noArgument("ranked -1 -1").noElement("ranked 3 1").noArgument("ranked 4 0");
        Scene.bare("").noArgument("reason 2 true").noArgument("reason -1 false").noElement("reason 1 true");
        Scene.of("type 012345678901234567890123456789012345678901234567890123456789").noArgument("append 31")
            .noArgument("append 127").noState("append 32");
        // A fault ahead of, and behind, an order that would be refused.
        Scene.of("").fault("drop 9;x", 7).fault("x;drop 9", 0).refusedText("drop 9", 0, 2, 9);
    }

    @Sentence(of = "Exceptions", promise = {2, 8, 33, 35},
        says = "If something is refused, its reason is kept, in place of the one before.")
    static void theReasonIsKept() {
        Scene s = Scene.bare("clock 0 0").noElement("reason 0 false").refused("clock 60 0", 3, 60)
            .refused("leave 1", 2, 1).refusedText("hour;clock 0 7", 1, 3, 7).refused("vote", 9, 0)
            .noElement("reason 1 false").refusedText("leave 5", 0, 2, 5).refusedText("hour;hour;drop 6", 2, 2, 6);
        s.play("hour 1, clock 0 0, undo, save, restore").noIndex("tell 9").fault("z", 0);
        Check.same("the reason is kept still", s.reasons(), "11 2 2 6");
    }

    @Sentence(of = "Exceptions", promise = {32, 34, 35, 39, 43, 44, 45}, says = "its reason is kept,")
    static void whatOtherCallsLetStay() {
        for (String change : CHANGES) {
            letsStay(change, 3, "");
        }
        for (String question : QUESTIONS) {
            letsStay(question, 3, "");
        }
        letsStay("undo", 3, "");
        letsStay("save", 3, "");
        letsStay("restore", 3, "");
        letsStay("append 104", 3, "h");
        letsStay("run", -1, "hour");
        // What throws, but is not refused, lets the reason stay, too.
        Scene.of(BUSY).refusedText("hour;drop 7", 1, 2, 7).noIndex("tell 9").noElement("row 9").noArgument("account 14")
            .noArgument("append 31").fault("", 0).due("reason 0 false", 11).due("reason 1 true", 7);
    }

    /** The reason with its cause, the fault, the line, and, but for what is typed ahead, the input stay. */
    private static void letsStay(String call, int dueFault, String typed) {
        Scene s = Scene.of(BUSY + ", hour 1, undo, save, hour 2").refusedText("hour;drop 7", 1, 2, 7).fault("vots", 3)
            .play("tell 1");
        String line = s.line();
        if (call.equals("run")) {
            s.play("type " + typed);
        }
        s.play(call);
        Check.same("the reason and its cause after " + call, s.reasons(), "11 1 2 7");
        Check.same("the line after " + call, s.line(), line);
        s.due("faultPosition", dueFault).due("account 12", call.equals("run") ? 0 : typed.length());
        if (!call.equals("run") && typed.isEmpty()) {
            s.text("hour", 1).due("restore", 3).due("account 4", call.equals("save") ? 3 : 1);
        }
    }
}
