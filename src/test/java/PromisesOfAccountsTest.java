import java.util.Arrays;

/** Tests of the sentences of the promises 40 to 45: accounts, shares, undo, and saving. */
final class PromisesOfAccountsTest {
    private static final int LEAST = Integer.MIN_VALUE;
    private static final int MOST = Integer.MAX_VALUE;

    private PromisesOfAccountsTest() {
    }

    // Promise 40

    @Sentence(of = "Promise 40", says = {"Returns an account.", "`what`: 0 the clocks; 1 the silent ones;",
        "Returns the number."})
    static void clocksAndSilentOnes() {
        Scene s = Scene.of("").due("account 0", 0).due("account 1", 0);
        for (int clock = 0; clock < 8; clock++) {
            s.play("clock 0 0").due("account 0", clock + 1).due("account 1", 0);
        }
        s.play("hour 23").due("account 1", 0).play("move 2 9").due("account 1", 1).play("hour 1").due("account 1", 8)
            .play("key 0 0, wind 0 0").due("account 1", 7).play("leave 3").due("account 0", 7).due("account 1", 6)
            .play("leave 0").due("account 0", 6).due("account 1", 6);
    }

    @Sentence(of = "Promise 40", says = "2 the bills; 3 the adjourned ones;")
    static void billsAndAdjournedOnes() {
        Scene s = Scene.of("clock 0 3").due("account 2", 0).due("account 3", 0);
        for (int bill = 0; bill < 10; bill++) {
            s.play("bill 0 0 1").due("account 2", bill + 1).due("account 3", 0);
        }
        for (int bill = 0; bill < 10; bill++) {
            s.play("adjourn " + bill + " 2").due("account 2", 10).due("account 3", bill + 1);
        }
        s.play("drop 4").due("account 2", 9).due("account 3", 9).play("hour 1").due("account 3", 9).play("hour 1")
            .due("account 2", 9).due("account 3", 0).play("vote").due("account 2", 8).due("account 3", 0)
            .play("leave 0, vote").due("account 2", 8).due("account 3", 1);
    }

    @Sentence(of = "Promise 40", says = "4 the hour; 5 the springs of all clocks;")
    static void hourAndSprings() {
        Scene.of("").due("account 4", 0).due("account 5", 0).play("clock 0 0").due("account 5", 24).play("clock 0 0")
            .due("account 5", 48).play("move 1 30").due("account 5", 44).play("hour 1").due("account 4", 1)
            .due("account 5", 42).play("hour 22").due("account 4", 23).due("account 5", 1).play("hour 2")
            .due("account 4", 25).due("account 5", 0).play("clock 1 1, leave 0").due("account 5", 24);
        Scene.of("clock 0 0, clock 0 0, clock 0 0, clock 0 0, clock 0 0, clock 0 0, clock 0 0, clock 0 0")
            .due("account 5", 192);
    }

    @Sentence(of = "Promise 40", says = {"6 the votes held so far; 7 the bills carried so far;",
        "8 those voted on and not carried so far; 9 the chimes so far;"})
    static void votesAndChimes() {
        Scene.of("clock 30 3, clock 51 3, bill 0 31 6, bill 0 31 7, bill 0 30 3, bill 0 0 9, bill 0 10 1")
            .due("account 6", 0).due("account 7", 0).due("account 8", 0).due("account 9", 0)
            .due("vote", 6).due("account 6", 1).due("account 7", 1).due("account 8", 0).due("account 9", 6)
            .due("vote", 6).due("account 6", 2).due("account 7", 1).due("account 8", 1).due("account 9", 12)
            .due("vote", 3).due("account 6", 3).due("account 7", 2).due("account 8", 1).due("account 9", 15)
            .due("vote", 3).due("account 6", 4).due("account 7", 2).due("account 8", 2).due("account 9", 18)
            .play("leave 0, drop 0, clock 20 3, bill 0 0 1, leave 0").due("vote", 3).play("bill 0 30 1, leave 0")
            .due("account 6", 5).due("account 7", 3).due("account 8", 2).due("account 9", 21).due("vote", 0)
            .due("account 6", 5).due("account 8", 2).due("account 9", 21);
    }

    @Sentence(of = "Promise 40",
        says = {"10 how often bills came back so far;", "11 how often clocks were wound so far;"})
    static void comebacksAndWindings() {
        Scene.of("clock 0 0, bill 0 30 1, bill 0 30 1, adjourn 0 2, adjourn 1 1").due("account 10", 0).play("hour 1")
            .due("account 10", 1).play("hour 1").due("account 10", 2).play("vote, hour 1").due("account 10", 3)
            .play("adjourn 0 5, drop 0, hour 24").due("account 10", 3).due("rowIn 24 0", 0).due("account 10", 3);
        Scene.of("clock 0 0, clock 1 0, key 0 0, hour 1").due("account 11", 0).play("wind 0 0").due("account 11", 1)
            .refused("wind 0 0", 4, 24).due("account 11", 1).play("wind 0 1").due("account 11", 2).play("undo")
            .due("account 11", 1);
    }

    @Sentence(of = "Promise 40", says = "12 the characters in the input; 13 the changes that can be undone")
    static void charactersAndChanges() {
        Scene.of("").due("account 12", 0).play("append 32").due("account 12", 1).play("append 32").due("account 12", 2)
            .noArgument("append 31").due("account 12", 2).due("run", "throws.IllegalArgumentException")
            .due("account 12", 0);
        Scene s = Scene.bare("").due("account 13", 0);
        for (int change = 1; change <= 10; change++) {
            s.play("hour 1").due("account 13", Math.min(change, 8));
        }
        s.play("undo").due("account 13", 7).refused("hour 0", 3, 0).due("account 13", 7).play("save")
            .due("account 13", 7).play("restore").due("account 13", 0);
    }

    @Sentence(of = "Promise 40", says = "Throws `IllegalArgumentException` if what is not 0 to 13")
    static void noSuchAccount() {
        for (int what : new int[] {-1, 14, 15, LEAST, MOST}) {
            Scene.of("clock 0 0, hour 1").noArgument("account " + what).due("account 0", 1).due("account 13", 2);
        }
    }

    // Promises 41 and 42

    @Sentence(of = "Promise 41",
        says = {"Returns the mean spring of the clocks: the sum, converted to double, divided by "
        + "their number.", "Returns the mean."})
    static void meanOfTheSprings() {
        Scene.of("clock 0 0").due("meanSpring", 24.0).play("clock 0 0, move 0 1").due("meanSpring", 47.0 / 2)
            .play("clock 0 0").due("meanSpring", 71.0 / 3).play("move 1 1").due("meanSpring", 70.0 / 3)
            .play("hour 24").due("meanSpring", 0.0).play("key 0 2, wind 0 2").due("meanSpring", 8.0);
        Scene.of("clock 0 0, clock 0 0, clock 0 0, clock 0 0, clock 0 0, clock 0 0, clock 0 0, hour 23, move 6 1")
            .due("meanSpring", 6.0 / 7).play("leave 6").due("meanSpring", 1.0);
    }

    @Sentence(of = "Promise 41", says = "Throws `ArithmeticException` if there are none")
    static void noMean() {
        Scene.of("").fails("meanSpring", ArithmeticException.class).play("clock 0 0, hour 24").due("meanSpring", 0.0)
            .play("leave 0").fails("meanSpring", ArithmeticException.class);
    }

    @Sentence(of = "Promise 42",
        says = {"Returns the share of the votes held so far in which the bill was carried: the one "
        + "number, converted to float, divided by the other.", "Returns the share."})
    static void shareOfTheCarried() {
        Scene.of("clock 0 3, bill 0 0 4, bill 0 0 3, bill 0 0 9, bill 0 0 2, bill 0 0 3, bill 0 0 1, bill 0 0 4")
            .play("vote").due("carriedShare", 0.0f).play("vote").due("carriedShare", 1.0f / 2.0f).play("vote")
            .due("carriedShare", 1.0f / 3.0f).play("vote").due("carriedShare", 2.0f / 4.0f).play("vote")
            .due("carriedShare", 3.0f / 5.0f).play("vote").due("carriedShare", 4.0f / 6.0f).play("vote")
            .due("carriedShare", 4.0f / 7.0f);
        Scene.of("clock 0 3, bill 0 0 3, vote").due("carriedShare", 1.0f);
    }

    @Sentence(of = "Promise 42", says = "Throws `ArithmeticException` if there were none")
    static void noShare() {
        Scene.of("").fails("carriedShare", ArithmeticException.class).play("clock 0 0, bill 0 30 1, vote")
            .fails("carriedShare", ArithmeticException.class).play("bill 0 0 1, vote").due("carriedShare", 0.0f)
            .play("undo").fails("carriedShare", ArithmeticException.class);
    }

    // Promise 43

    @Sentence(of = "Promise 43", says = {"Undoes the latest change that was not undone.",
        "Returns the number of changes that can still be undone."})
    static void undoOneByOne() {
        Scene s = Scene.bare("");
        String[] changes = {"clock 30 3", "bill 0 30 1", "key 0 0", "hour 1", "wind 0 0", "move 0 5", "adjourn 0 2",
            "drop 0", "bill 0 33 2", "vote", "leave 0"};
        for (String change : changes) {
            s.play(change);
        }
        for (int i = changes.length - 1; i >= 3; i--) {
            s.due("undo", i - 3);
            String before = String.join(", ", Arrays.copyOf(changes, i));
            Check.same("as before " + changes[i], s.state(), Scene.bare(before).state());
        }
        s.noState("undo");
        Scene.bare("hour 1, hour 2").due("undo", 1).play("hour 4").due("account 4", 5).due("undo", 1)
            .due("account 4", 1).due("undo", 0).due("account 4", 0).noState("undo").play("hour 5").due("undo", 0);
    }

    @Sentence(of = "Promise 43", says = "Throws `IllegalStateException` if there is none")
    static void nothingToUndo() {
        Scene.bare("").noState("undo").play("clock 0 0").due("undo", 0).noState("undo").due("account 0", 0);
        Scene.bare("clock 0 0, save, restore").noState("undo").due("account 0", 1).play("hour 1").due("undo", 0)
            .noState("undo");
        Scene.bare("").refused("hour 0", 3, 0).noState("undo").fault("x", 0).noState("undo")
            .refusedText("vote", 0, 9, 0).noState("undo").play("tellRow, save").noState("undo");
    }

    // Promises 44 and 45

    @Sentence(of = "Promise 44", says = {"Saves all that goes back when a change is undone, in place of what was saved "
        + "before.", "Returns the clocks."})
    static void saveInPlaceOfWhatWasSaved() {
        Scene s = Scene.bare("").due("save", 0).play("clock 30 3").due("save", 1).play("clock 31 0, clock 32 1, "
            + "bill 0 30 1, bill 1 50 5, bill 2 31 9, adjourn 2 3, key 1 1, key 0 2, hour 1, wind 1 1, vote, hour 2");
        String state = s.state();
        s.due("save", 3).due("account 13", 8);
        Check.same("nothing is different by saving", s.state(), state);
        s.play("leave 0, drop 0, hour 24, clock 0 0, vote").due("restore", 3);
        Check.same("all goes back", s.state(), state);
        s.play("leave 0").due("save", 2).play("leave 0, leave 0").due("restore", 2);
        // The input, the fault, the reason and the line are not saved.
        Scene t = Scene.bare("clock 5 0, tell 0, type ho, save").refused("hour 0", 3, 0)
            .play("type u, tellRow, restore").due("account 12", 3).noIndex("character 0");
        Check.same("the reason stays", t.reasons(), "3 0");
        t.due("append 114", 4).due("run", 1);
    }

    @Sentence(of = "Promise 45", says = {"Restores what was saved, which stays saved.", "Returns the clocks."})
    static void restoreAgainAndAgain() {
        Scene s = Scene.bare("clock 30 3, clock 31 2, bill 0 30 1, key 2 0, hour 3, save");
        String state = s.state();
        for (String change : new String[] {"leave 0", "vote", "hour 24", "drop 0", "key 2 1", "move 0 59",
            "clock 1 1"}) {
            s.play(change).due("restore", 2);
            Check.same("all is back after " + change, s.state(), state);
        }
        s.due("restore", 2).play("leave 1").due("undo", 0).due("account 0", 2);
        Scene.bare("save, clock 0 0, clock 0 0").due("restore", 0).due("account 0", 0).due("clock 1 1", 0);
        Scene.bare("clock 0 0, save, clock 0 0, undo, undo").due("account 0", 0).due("restore", 1);
    }

    @Sentence(of = "Promise 45", says = "No changes can be undone then.")
    static void nothingIsUndoneBehindRestore() {
        Scene.bare("clock 0 0, hour 1, save, hour 1").due("account 13", 3).due("restore", 1).due("account 13", 0)
            .noState("undo").play("hour 1").due("account 13", 1).due("undo", 0).due("account 4", 1).noState("undo");
        Scene s = Scene.bare("save, hour 1, hour 1, hour 1, hour 1, hour 1, hour 1, hour 1, hour 1, hour 1, restore");
        for (int change = 1; change <= 9; change++) {
            s.play("hour 1").due("account 13", Math.min(change, 8));
        }
        s.due("undo", 7).due("account 4", 8);
    }

    @Sentence(of = "Promise 45", says = "Throws `IllegalStateException` if nothing was saved")
    static void nothingWasSaved() {
        Scene.bare("").noState("restore").play("clock 0 0, clock 1 0").noState("restore").due("account 0", 2)
            .due("account 13", 2).play("undo").noState("restore").play("save").due("restore", 1);
        Scene.bare("save").due("restore", 0);
    }
}
