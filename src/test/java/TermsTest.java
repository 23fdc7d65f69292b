/** Tests of the terms' sentences, from "Clocks" to "Hours". */
final class TermsTest {
    private TermsTest() {
    }

    // Clocks

    @Sentence(of = "Clocks", promise = {2, 33}, says = "At most 8 clocks are there, numbered from 0;")
    static void atMostEightClocks() {
        Scene s = Scene.of("");
        for (int clock = 0; clock < 8; clock++) {
            s.due("clock 5 0", clock).due("account 0", clock + 1);
        }
        s.refused("clock 5 0", 1, 8).refusedText("hour;clock 5 0", 1, 1, 8).due("account 0", 8);
        s.play("leave 3").due("clock 5 0", 7).refused("clock 5 0", 1, 8);
        s.play("leave 0, leave 0").text("clock 5 0;clock 5 0", 2).due("account 0", 8).refused("clock 5 0", 1, 8);
    }

    @Sentence(of = "Clocks", promise = {3}, says = "when one leaves, the numbers of later ones become 1 less.")
    static void numbersBehindALeavingClock() {
        threeClocks("leave 0").line("tell 0", "0:20~22<2k1").line("tell 1", "1:30~21<3k2")
            .due("clockOf 0 5", 2).due("clockOf 1 5", 3).due("keeper 0", -1).due("keeper 1", 0).due("keeper 2", 1)
            .due("billOf 0 0", -1).due("billOf 1 0", 0).due("billOf 2 0", 1).noIndex("tell 2");
        threeClocks("leave 1").line("tell 0", "0:10~23<1k0").line("tell 1", "1:30~21<3k2")
            .due("clockOf 0 5", 1).due("clockOf 1 5", 3).due("keeper 0", 0).due("keeper 1", -1).due("keeper 2", 1)
            .due("billOf 0 0", 0).due("billOf 1 0", -1).due("billOf 2 0", 1).noIndex("tell 2");
        threeClocks("leave 2").line("tell 0", "0:10~23<1k0").line("tell 1", "1:20~22<2k1")
            .due("clockOf 0 5", 1).due("clockOf 1 5", 2).due("keeper 0", 0).due("keeper 1", 1).due("keeper 2", -1)
            .due("billOf 0 0", 0).due("billOf 1 0", 1).due("billOf 2 0", -1).noIndex("tell 2");
    }

    /** Clocks that gave 1, 2 and 3 votes, each with a key and a bill. */
    private static Scene threeClocks(String then) {
        return Scene.of("clock 10 1, clock 20 2, clock 30 3, bill 0 30 1, bill 0 40 1, bill 0 45 1, vote, vote, vote, "
            + "key 0 0, key 1 1, key 2 2, bill 0 0 1, bill 1 0 1, bill 2 0 1, " + then);
    }

    @Sentence(of = "Clocks", promise = {2, 11, 12}, says = "A clock tells a second from 0 to 59,")
    static void secondOfAClock() {
        Scene s = Scene.of("clock 0 0, clock 1 0, clock 58 0, clock 59 0").refused("clock -1 0", 3, -1)
            .refused("clock 60 0", 3, 60).due("account 0", 4);
        s.due("clockOf 0 0", 0).due("clockOf 1 0", 1).due("clockOf 2 0", 58).due("clockOf 3 0", 59).play("hour 1");
        s.due("clockOf 0 0", 1).due("clockOf 1 0", 2).due("clockOf 2 0", 59).due("clockOf 3 0", 0);
    }

    @Sentence(of = "Clocks", promise = {2, 5, 11, 12}, says = "has a spring from 0 to 24,")
    static void springOfAClock() {
        Scene.of("clock 5 0, key 0 0").due("clockOf 0 1", 24).refused("wind 0 0", 4, 24).play("hour 1")
            .due("clockOf 0 1", 23).play("hour 22").due("clockOf 0 1", 1).play("hour 1").due("clockOf 0 1", 0)
            .play("hour 1").due("clockOf 0 1", 0).play("wind 0 0").due("clockOf 0 1", 24);
    }

    @Sentence(of = "Clocks", promise = {2, 12}, says = "and a leaning from 0 to 3:")
    static void leaningOfAClock() {
        Scene.of("clock 5 0, clock 5 1, clock 5 2, clock 5 3").refused("clock 5 -1", 3, -1).refused("clock 5 4", 3, 4)
            .due("clockOf 0 2", 0).due("clockOf 1 2", 1).due("clockOf 2 2", 2).due("clockOf 3 2", 3)
            .due("account 0", 4);
    }

    @Sentence(of = "Clocks", promise = {10, 24, 25, 40},
        says = "in a vote it gives 3 chimes, as many for the bill as its leaning is, and the others against it.")
    static void chimesOfAVote() {
        int[] due = {-3, -1, 1, 3};
        for (int leaning = 0; leaning < 4; leaning++) {
            Scene.of("clock 30 " + leaning + ", bill 0 30 1").due("majority 0", due[leaning])
                .due("majorityAgain 0", due[leaning]).due("account 9", 0).due("vote", due[leaning])
                .due("account 9", 3).due("clockOf 0 1", 23);
        }
        Scene.of("clock 30 0, clock 30 1, clock 30 2, clock 30 3, bill 0 30 1").due("vote", 0).due("account 9", 12);
    }

    @Sentence(of = "Clocks", promise = {7, 11, 21, 23, 40}, says = "A clock with a spring of 0 is silent.")
    static void silentClock() {
        Scene.of("clock 0 0, bill 0 24 1, hour 22").due("clockOf 0 1", 2).due("account 1", 0).due("silentIn 0", 2)
            .due("voters 0", 1).play("hour 1").due("clockOf 0 1", 1).due("account 1", 0).due("silentIn 0", 1)
            .due("voters 0", 1).due("bill 0 0 1", 1).play("hour 1").due("clockOf 0 1", 0).due("account 1", 1)
            .due("silentIn 0", 0).due("voters 0", 0).refused("bill 0 0 1", 7, 23).play("hour 1").due("account 1", 1);
        // A clock runs down by a vote and by being moved as well.
        Scene.of("clock 0 3, bill 0 23 1, hour 23").due("account 1", 0).play("vote").due("account 1", 1)
            .refused("move 0 1", 7, 23);
        Scene.of("clock 0 3, hour 23").due("account 1", 0).play("move 0 9").due("account 1", 1)
            .refused("move 0 1", 7, 32);
    }

    // Keys

    @Sentence(of = "Keys", promise = {1, 4, 14},
        says = "Each of the keys 0 to 2 is with a clock, or with nobody, as at first.")
    static void threeKeys() {
        Scene s = Scene.of("clock 0 0, clock 1 0").due("keeper 0", -1).due("keeper 1", -1).due("keeper 2", -1);
        s.noIndex("keeper -1").noIndex("keeper 3").refused("key -1 0", 2, -1).refused("key 3 0", 2, 3);
        s.play("key 0 0").due("keeper 0", 0).due("keeper 1", -1).due("keeper 2", -1);
        s.play("key 2 1, key 1 0").due("keeper 0", 0).due("keeper 1", 0).due("keeper 2", 1);
        s.play("key 0 -1").due("keeper 0", -1).due("keeper 1", 0).due("keeper 2", 1);
    }

    @Sentence(of = "Keys", promise = {5},
        says = "A clock with a key winds itself or another one: the spring becomes 24.")
    static void springOfAWoundClock() {
        int[] hours = {1, 2, 23, 24};
        for (int gone : hours) {
            String start = "clock 0 0, clock 5 0, key 0 0, hour " + gone;
            Scene.of(start).due("wind 0 0", 24 - gone).due("clockOf 0 1", 24).due("clockOf 1 1", 24 - gone)
                .due("account 11", 1);
            Scene.of(start).due("wind 0 1", 24 - gone).due("clockOf 0 1", 24 - gone).due("clockOf 1 1", 24)
                .due("account 11", 1);
        }
    }

    @Sentence(of = "Keys", promise = {3, 14}, says = "A key that a leaving clock has is with nobody then.")
    static void keysOfALeavingClock() {
        Scene.of("clock 0 0, key 0 0, key 1 0, key 2 0, leave 0").due("keeper 0", -1).due("keeper 1", -1)
            .due("keeper 2", -1);
        Scene.of("clock 0 0, clock 1 0, key 0 0, key 2 0, key 1 1, leave 0").due("keeper 0", -1).due("keeper 1", 0)
            .due("keeper 2", -1).due("clockOf 0 3", 1);
        Scene.of("clock 0 0, clock 1 0, key 1 0, leave 1").due("keeper 0", -1).due("keeper 1", 0).due("keeper 2", -1);
        Scene.of("clock 0 0, clock 1 0, key 1 0, leave 0").due("clockOf 0 3", 0).due("keeper 1", -1)
            .refused("wind 1 0", 5, 1).due("key 1 0", -1);
    }

    // Seconds

    @Sentence(of = "Seconds", promise = {6},
        says = "To move the second of a clock takes 1 of its spring for each full 10 seconds that it goes on, and 1 "
            + "besides;")
    static void springForAMove() {
        for (int seconds = 1; seconds <= 59; seconds++) {
            Scene.of("clock 0 0").due("move 0 " + seconds, seconds).due("clockOf 0 1", 24 - 1 - seconds / 10);
        }
        int[] edges = {1, 9, 10, 11, 19, 20, 21, 49, 50, 51, 59};
        int[] taken = {1, 1, 2, 2, 2, 3, 3, 5, 6, 6, 6};
        for (int i = 0; i < edges.length; i++) {
            Scene.of("clock 0 0, clock 0 0, move 0 " + edges[i]).due("clockOf 0 1", 24 - taken[i])
                .due("clockOf 1 1", 24);
        }
    }

    @Sentence(of = "Terms", promise = {6}, says = "All divisions are rounded down, unless something else is told.")
    static void divisionsAreRoundedDown() {
        Scene.of("clock 0 0, move 0 19").due("clockOf 0 1", 22).play("move 0 59").due("clockOf 0 1", 16);
        // The mean and the share are told to be divisions of converted numbers.
        Scene.of("clock 0 3, clock 0 0, move 0 1").due("meanSpring", 23.5);
        Scene.of("clock 0 3, bill 0 0 3, bill 0 0 4, vote, vote").due("carriedShare", 0.5f);
    }

    @Sentence(of = "Seconds", promise = {6, 11, 22}, says = "behind 59 comes 0.")
    static void behind59Comes0() {
        int[][] moves = {
            {58, 1, 59}, {58, 2, 0}, {58, 3, 1}, {59, 1, 0}, {59, 2, 1}, {0, 59, 59}, {1, 59, 0}, {2, 59, 1},
            {59, 59, 58}, {30, 29, 59}, {30, 30, 0}, {30, 31, 1}
        };
        for (int[] move : moves) {
            Scene.of("clock " + move[0] + " 0").due("move 0 " + move[1], move[2]).due("clockOf 0 0", move[2]);
        }
        Scene.of("clock 58 0").due("secondIn 0 1", 59).due("secondIn 0 2", 0).due("secondIn 0 3", 1).play("hour 1")
            .due("clockOf 0 0", 59).play("hour 1").due("clockOf 0 0", 0).play("hour 1").due("clockOf 0 0", 1);
    }

    @Sentence(of = "Seconds", promise = {5, 12, 15, 29},
        says = "Two clocks agree if their seconds differ by 5 at most,")
    static void agreeing() {
        for (int apart = 4; apart <= 6; apart++) {
            boolean due = apart <= 5;
            for (int second : new int[] {0, 20, 53}) {
                Scene.of("clock " + second + " 0, clock " + (second + apart) + " 3").due("doAgree 0 1", due)
                    .due("doAgree 1 0", due).due("clockOf 0 6", due ? 2 : 0).due("clockOf 1 6", due ? 1 : 0)
                    .due("circle 0", due ? 3 : 1).due("circle 1", due ? 3 : 2);
            }
        }
        Scene.of("clock 0 0, clock 30 0").due("doAgree 0 1", false);
        Scene.of("clock 7 0, clock 7 0").due("doAgree 0 1", true);
    }

    @Sentence(of = "Seconds", promise = {15, 16, 29}, says = "where 59 and 0 differ by 1.")
    static void differingAcross0() {
        int[][] pairs = {{59, 0, 1}, {58, 0, 2}, {59, 1, 2}, {56, 0, 4}, {55, 0, 5}, {54, 0, 6}, {59, 4, 5},
            {59, 5, 6}};
        for (int[] pair : pairs) {
            boolean due = pair[2] <= 5;
            Scene.of("clock " + pair[0] + " 0, clock " + pair[1] + " 0").due("apart 0 1", pair[2])
                .due("apart 1 0", pair[2]).due("doAgree 0 1", due).due("doAgree 1 0", due)
                .due("circle 0", due ? 3 : 1).due("clockOf 0 6", due ? 2 : 0);
        }
    }

    // Bills

    @Sentence(of = "Bills", promise = {7, 33}, says = "At most 10 bills are there, numbered from 0;")
    static void atMostTenBills() {
        Scene s = Scene.of("clock 0 3");
        for (int bill = 0; bill < 10; bill++) {
            s.due("bill 0 0 1", bill).due("account 2", bill + 1);
        }
        s.refused("bill 0 0 1", 1, 10).refusedText("bill 0 0 1", 0, 1, 10);
        s.play("adjourn 4 12").refused("bill 0 0 1", 1, 10);
        s.play("drop 4").due("bill 0 0 1", 9).refused("bill 0 0 1", 1, 10);
        s.play("vote").due("bill 0 0 1", 9).refused("bill 0 0 1", 1, 10);
    }

    @Sentence(of = "Bills", promise = {9, 10}, says = "when one is done with, the numbers of later ones become 1 less.")
    static void numbersBehindABillThatIsDoneWith() {
        threeBills("drop 0").line("tellBill 0", "0@20+2h5").line("tellBill 1", "1@30+3").due("billOf 0 5", 1)
            .due("billOf 1 5", 0).due("billOf 0 0", 1).due("billOf 1 0", 0).line("tellRow", "1").noIndex("billOf 2 0");
        threeBills("drop 1").line("tellBill 0", "0@10+1").line("tellBill 1", "1@30+3").due("billOf 0 5", 0)
            .due("billOf 1 5", 0).due("billOf 1 0", 0).line("tellRow", "0 1").noIndex("billOf 2 0");
        threeBills("drop 2").line("tellBill 0", "0@10+1").line("tellBill 1", "1@20+2h5").due("billOf 0 5", 0)
            .due("billOf 1 5", 1).due("billOf 1 0", 1).line("tellRow", "0").noIndex("billOf 2 0");
        threeBills("vote").line("tellBill 0", "0@20+2h5").line("tellBill 1", "1@30+3").due("billOf 0 5", 1)
            .due("billOf 0 0", 1).line("tellRow", "1").noIndex("billOf 2 0");
    }

    private static Scene threeBills(String then) {
        return Scene.of("clock 10 3, clock 10 2, bill 0 10 1, bill 1 20 2, bill 0 30 3, adjourn 1 5, " + then);
    }

    @Sentence(of = "Bills", promise = {7, 13},
        says = "A bill is moved by a clock, is about a second from 0 to 59,")
    static void secondOfABill() {
        Scene s = Scene.of("clock 7 0, clock 8 0").refused("bill 1 -1 1", 3, -1).refused("bill 1 60 1", 3, 60);
        int[] seconds = {0, 1, 58, 59};
        for (int bill = 0; bill < seconds.length; bill++) {
            s.due("bill 1 " + seconds[bill] + " 1", bill).due("billOf " + bill + " 1", seconds[bill])
                .due("billOf " + bill + " 0", 1);
        }
        s.refused("bill 2 5 1", 2, 2).refused("bill -1 5 1", 2, -1).due("account 2", 4);
    }

    @Sentence(of = "Bills", promise = {7, 13}, says = "and needs from 1 to 9 chimes more for it than against it.")
    static void needOfABill() {
        Scene s = Scene.of("clock 7 0").refused("bill 0 5 0", 3, 0).refused("bill 0 5 10", 3, 10)
            .refused("bill 0 5 -1", 3, -1);
        int[] needs = {1, 2, 8, 9};
        for (int bill = 0; bill < needs.length; bill++) {
            s.due("bill 0 5 " + needs[bill], bill).due("billOf " + bill + " 2", needs[bill]);
        }
        s.due("account 2", 4);
    }

    @Sentence(of = "Bills", promise = {8, 13},
        says = "It is on the table, as at first, in its row, or adjourned for from 1 to 12 hours.")
    static void onTheTableOrAdjourned() {
        Scene s = Scene.of("clock 7 0, bill 0 0 1, bill 0 1 1, bill 0 2 1, bill 0 3 1, bill 0 4 1");
        s.due("billOf 4 3", 0).due("billOf 4 4", 4).refused("adjourn 4 0", 3, 0).refused("adjourn 4 13", 3, 13)
            .refused("adjourn 4 -1", 3, -1).due("account 3", 0);
        int[] hours = {1, 2, 11, 12};
        for (int bill = 0; bill < hours.length; bill++) {
            s.due("adjourn " + bill + " " + hours[bill], bill + 1).due("billOf " + bill + " 3", hours[bill])
                .due("billOf " + bill + " 4", -1);
        }
        s.line("tellRow", "4").due("isTold", true);
    }

    // The row

    @Sentence(of = "The row", promise = {10, 17, 38}, says = "The row of the table has its bills, the first one next.")
    static void firstOfTheRowIsNext() {
        Scene s = Scene.of("clock 30 3").line("tellRow", "").noElement("row 0").refused("vote", 9, 0);
        s.play("bill 0 31 1").line("tellRow", "0").due("row 0", 0).noElement("row 1");
        s.play("bill 0 32 1, bill 0 33 1").line("tellRow", "0 1 2").play("adjourn 0 1, hour 1, adjourn 0 2")
            .line("tellRow", "1 2").due("row 0", 1).play("vote").line("tellBill 0", "0@31+1h2")
            .line("tellBill 1", "1@33+1").line("tellRow", "1").play("vote").line("tellRow", "").refused("vote", 9, 1);
    }

    @Sentence(of = "The row", promise = {7}, says = "A bill that is tabled stands at the end;")
    static void tabledAtTheEnd() {
        Scene.of("clock 0 0, bill 0 0 1").due("billOf 0 4", 0).play("bill 0 0 1").due("billOf 1 4", 1)
            .line("tellRow", "0 1").play("adjourn 0 1, bill 0 0 1").line("tellRow", "1 2").play("hour 1")
            .line("tellRow", "0 1 2").play("adjourn 2 1, hour 1, bill 0 0 1").line("tellRow", "2 0 1 3")
            .play("drop 0, bill 0 0 1").line("tellRow", "1 0 2 3");
        Scene.of("clock 0 0, bill 0 0 1, adjourn 0 9, bill 0 0 1").line("tellRow", "1").due("billOf 1 4", 0);
    }

    @Sentence(of = "The row", promise = {11, 18, 19}, says = "one that comes back stands at the beginning,")
    static void backAtTheBeginning() {
        Scene.of("clock 0 0, bill 0 0 1, bill 0 0 1, bill 0 0 1, adjourn 2 1").line("tellRow", "0 1")
            .due("rowIn 1 0", 2).due("rowAgain 1 0", 2).due("hour 1", 1).line("tellRow", "2 0 1")
            .play("adjourn 1 1, hour 1").line("tellRow", "1 2 0").play("adjourn 1 2, adjourn 0 1, hour 2")
            .line("tellRow", "1 0 2");
        Scene.of("clock 0 0, bill 0 0 1, adjourn 0 1, hour 1").line("tellRow", "0");
    }

    @Sentence(of = "The row", promise = {11, 18, 19},
        says = "several that come back in one hour in the order of their numbers.")
    static void severalBackInOneHour() {
        String four = "clock 0 0, bill 0 0 1, bill 0 0 1, bill 0 0 1, bill 0 0 1, ";
        Scene.of(four + "adjourn 3 2, adjourn 0 2").due("rowIn 2 0", 0).due("rowIn 2 1", 3).due("rowAgain 2 0", 0)
            .due("rowAgain 2 1", 3).due("hour 2", 2).line("tellRow", "0 3 1 2");
        Scene.of(four + "adjourn 0 2, adjourn 2 2, adjourn 1 2, adjourn 3 2, hour 2").line("tellRow", "0 1 2 3");
        Scene.of(four + "adjourn 3 2, adjourn 1 1, adjourn 2 1, adjourn 0 2, hour 1").line("tellRow", "1 2")
            .play("hour 1").line("tellRow", "0 3 1 2");
    }

    // Votes

    @Sentence(of = "Votes", promise = {10}, says = "A vote is on the first bill of the row.")
    static void voteOnTheFirstBill() {
        Scene s = Scene.of("clock 30 3, bill 0 30 9, bill 0 31 1, bill 0 32 9, adjourn 1 1, hour 1");
        s.line("tellRow", "1 0 2").play("vote").due("account 7", 1).due("account 8", 0).line("tellRow", "0 1")
            .line("tellBill 0", "0@30+9").line("tellBill 1", "1@32+9").play("vote").due("account 7", 1)
            .due("account 8", 1).line("tellBill 0", "0@32+9");
    }

    @Sentence(of = "Votes", promise = {10, 23}, says = "A clock that is not silent,")
    static void silentOnesDoNotVote() {
        // With springs of 2, 1 and 0, all at second 23 but the silent one, that stands at 22.
        String start = "clock 0 3, bill 0 20 1, bill 0 20 1, bill 0 20 1, hour ";
        Scene.of(start + "22").due("voters 0", 1).due("vote", 3).due("clockOf 0 1", 1).due("account 6", 1)
            .due("voters 0", 1).due("vote", 3).due("clockOf 0 1", 0).due("account 6", 2).due("voters 0", 0)
            .due("vote", 0).due("account 6", 2).due("clockOf 0 1", 0);
        Scene.of(start + "23, clock 20 1").due("voters 0", 3).due("vote", 2).due("clockOf 0 1", 0)
            .due("voters 0", 2).due("vote", -1).due("clockOf 0 5", 1).due("clockOf 1 5", 2);
        Scene.of(start + "24").due("voters 0", 0).due("vote", 0).due("clockOf 0 5", 0);
    }

    @Sentence(of = "Votes", promise = {10, 23, 24, 25},
        says = "and whose second differs from that of the bill by 20 at most, as above, votes,")
    static void votesBy20AtMost() {
        int[][] seconds = {{30, 11, 10, 9}, {30, 49, 50, 51}, {5, 46, 45, 44}, {50, 9, 10, 11}, {0, 41, 40, 39},
            {59, 18, 19, 20}};
        for (int[] row : seconds) {
            String start = "clock " + row[1] + " 3, clock " + row[2] + " 2, clock " + row[3] + " 3, bill 0 " + row[0];
            Scene.of(start + " 1").due("voters 0", 3).due("majority 0", 4).due("majorityAgain 0", 4).due("vote", 4)
                .due("clockOf 0 5", 1).due("clockOf 1 5", 1).due("clockOf 2 5", 0).due("account 9", 6);
        }
        Scene.of("clock 0 3, clock 30 3, clock 15 3, bill 0 30 1").due("voters 0", 6).due("vote", 6);
    }

    @Sentence(of = "Votes", promise = {10, 12}, says = "which takes 1 of its spring.")
    static void aVoteTakes1OfTheSpring() {
        Scene.of("clock 30 3, clock 30 0, clock 51 3, bill 0 30 1, bill 0 30 1").play("vote").due("clockOf 0 1", 23)
            .due("clockOf 1 1", 23).due("clockOf 2 1", 24).play("vote").due("clockOf 0 1", 22).due("clockOf 1 1", 22)
            .due("clockOf 2 1", 24).due("account 5", 68);
        Scene.of("clock 7 3, bill 0 30 1, hour 23").due("clockOf 0 1", 1).play("vote").due("clockOf 0 1", 0);
    }

    @Sentence(of = "Votes", promise = {10, 26, 27, 40},
        says = "The bill is carried if the chimes for it are so many more than those against it as it needs;")
    static void carriedByAsManyAsItNeeds() {
        // Chimes more for it: of 3 and 1 and 1 they are 5; of 3, 3 and 3 they are 9; of 3, 3, 1 and 1 they are 8.
        carried("clock 30 3, clock 30 2, clock 30 2", 5, 4, true);
        carried("clock 30 3, clock 30 2, clock 30 2", 5, 5, true);
        carried("clock 30 3, clock 30 2, clock 30 2", 5, 6, false);
        carried("clock 30 3, clock 30 3, clock 30 3", 9, 9, true);
        carried("clock 30 3, clock 30 3, clock 30 2, clock 30 2", 8, 9, false);
        carried("clock 30 3, clock 30 3, clock 30 2, clock 30 2", 8, 8, true);
        carried("clock 30 2", 1, 1, true);
        carried("clock 30 2", 1, 2, false);
        carried("clock 30 2, clock 30 1", 0, 1, false);
        carried("clock 30 0", -3, 1, false);
        carried("clock 30 0", -3, 3, false);
    }

    private static void carried(String clocks, int majority, int need, boolean due) {
        Scene.of(clocks + ", bill 0 30 " + need).due("wouldCarry 0", due).due("carried", due ? 1 : 0)
            .due("vote", majority).due("account 6", 1).due("account 7", due ? 1 : 0).due("account 8", due ? 0 : 1);
    }

    @Sentence(of = "Votes", promise = {10}, says = "it is done with in any case.")
    static void doneWithInAnyCase() {
        Scene.of("clock 30 3, bill 0 30 3, bill 0 31 4").due("vote", 3).due("account 7", 1).due("account 2", 1)
            .line("tellBill 0", "0@31+4").due("vote", 3).due("account 7", 1).due("account 2", 0).due("account 3", 0)
            .noIndex("billOf 0 0");
        Scene.of("clock 30 0, bill 0 30 1").due("vote", -3).due("account 2", 0);
        Scene.of("clock 30 1, clock 30 2, bill 0 30 1").due("vote", 0).due("account 2", 0).due("account 3", 0);
    }

    @Sentence(of = "Votes", promise = {10, 40},
        says = "If nobody can vote, the bill is adjourned for 1 hour, and no vote is held.")
    static void nobodyCanVote() {
        String[] starts = {
            "clock 9 3, bill 0 30 1, bill 0 31 1", "clock 51 3, bill 0 30 1, bill 0 29 1",
            "clock 30 3, bill 0 50 1, bill 0 50 1, hour 24", "clock 30 3, bill 0 30 1, bill 0 30 1, leave 0"
        };
        for (String start : starts) {
            Scene.of(start).due("vote", 0).due("account 2", 2).due("billOf 0 3", 1).due("billOf 0 4", -1)
                .line("tellRow", "1").due("account 3", 1).due("account 6", 0).due("account 7", 0).due("account 8", 0)
                .due("account 9", 0).due("vote", 0).due("account 3", 2).line("tellRow", "").refused("vote", 9, 2)
                .due("hour 1", 2).line("tellRow", "0 1");
        }
        // One clock just near enough is somebody, also if the majority is 0 by two.
        Scene.of("clock 10 3, bill 0 30 1").due("vote", 3).due("account 6", 1);
        Scene.of("clock 10 1, clock 50 2, bill 0 30 1").due("vote", 0).due("account 6", 1).due("account 2", 0);
    }

    // Hours

    @Sentence(of = "Hours", promise = {11, 40}, says = "Hours are counted from 0.")
    static void hoursFrom0() {
        Scene.of("").due("account 4", 0).play("hour 1").due("account 4", 1).play("hour 24").due("account 4", 25);
    }

    @Sentence(of = "Hours", promise = {11, 13, 40},
        says = "When an hour goes by, the hours of each adjourned bill become 1 less, and those without any come back;")
    static void hoursOfAdjournedBills() {
        Scene s = Scene.of("clock 0 0, bill 0 0 1, bill 0 0 1, bill 0 0 1, bill 0 0 1, adjourn 1 1, adjourn 2 2, "
            + "adjourn 3 12").due("hour 1", 1);
        s.due("billOf 0 3", 0).due("billOf 1 3", 0).due("billOf 2 3", 1).due("billOf 3 3", 11).line("tellRow", "1 0")
            .due("account 10", 1).due("account 3", 2).due("hour 1", 1).due("billOf 2 3", 0).due("billOf 3 3", 10)
            .line("tellRow", "2 1 0").due("account 10", 2).due("hour 9", 0).due("billOf 3 3", 1).due("billOf 3 4", -1)
            .due("hour 1", 1).due("billOf 3 3", 0).line("tellRow", "3 2 1 0").due("account 10", 3)
            .due("hour 1", 0).due("billOf 3 3", 0).line("tellRow", "3 2 1 0").due("account 10", 3);
    }

    @Sentence(of = "Hours", promise = {11, 21, 22},
        says = "then each clock loses 1 of its spring, if it has some, and its second goes on by 1 if it is not "
            + "silent then.")
    static void springsByAnHour() {
        Scene.of("clock 0 0, clock 10 0, clock 20 0, move 1 59, move 1 59, move 1 59, move 1 49, move 2 59, move 2 59, "
            + "move 2 59, move 2 59").line("tell 0", "0:0~24<0").line("tell 1", "1:56~1<0").line("tell 2", "2:16~0<0")
            .play("hour 1").line("tell 0", "0:1~23<0").line("tell 1", "1:56~0<0").line("tell 2", "2:16~0<0")
            .play("hour 1").line("tell 0", "0:2~22<0").line("tell 1", "1:56~0<0").line("tell 2", "2:16~0<0")
            .play("hour 20").line("tell 0", "0:22~2<0").play("hour 1").line("tell 0", "0:23~1<0").play("hour 1")
            .line("tell 0", "0:23~0<0").play("hour 1").line("tell 0", "0:23~0<0");
    }
}
