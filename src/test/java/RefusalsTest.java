/** Tests of the sentences of "Refusals": the order of the reasons, and the detail of each. */
final class RefusalsTest {
    private RefusalsTest() {
    }

    @Sentence(of = "Refusals", promise = {2, 4, 5, 6, 7, 8},
        says = "Something is refused for the first that applies of the "
        + "reasons that its method names, in the order in which it names them, with a detail:")
    static void theFirstReasonThatApplies() {
        String eight = "clock 0 0, clock 0 0, clock 0 0, clock 0 0, clock 0 0, clock 0 0, clock 0 0, clock 0 0";
        // clock: 3, then 1.
        Scene.of(eight).refused("clock 60 0", 3, 60).refused("clock 0 4", 3, 4).refused("clock 0 0", 1, 8);
        // key: 2 for the key, 2 for the clock, then 4.
        Scene.of("clock 0 0").refused("key 3 1", 2, 3).refused("key 2 1", 2, 1).refused("key 3 -1", 2, 3)
            .refused("key 2 -1", 4, -1);
        // wind: 2 for the key, 2 for the clock, 5, 10, then 4; all clocks are wound at first.
        Scene.of("clock 0 0, clock 6 0").refused("wind 3 2", 2, 3).refused("wind 2 2", 2, 2).refused("wind 3 0", 2, 3)
            .refused("wind 2 0", 5, 2).play("key 2 1").refused("wind 2 0", 10, 6).refused("wind 2 1", 4, 24);
        // move: 2, 3, 7, then 6; a silent clock has too little for any move.
        Scene.of("clock 0 0, hour 23").refused("move 1 60", 2, 1).refused("move 0 60", 3, 60).refused("move 0 59", 6, 1)
            .play("hour 1").refused("move 0 60", 3, 60).refused("move 0 59", 7, 23);
        // bill: 2, 3, 7, then 1.
        Scene s = Scene.of("clock 0 0, clock 5 0, bill 0 0 1, bill 0 0 1, bill 0 0 1, bill 0 0 1, bill 0 0 1, "
            + "bill 0 0 1, bill 0 0 1, bill 0 0 1, bill 0 0 1, bill 0 0 1");
        s.refused("bill 2 60 0", 2, 2).refused("bill 0 60 1", 3, 60).refused("bill 0 0 0", 3, 0)
            .refused("bill 0 0 1", 1, 10).play("hour 24").refused("bill 2 0 1", 2, 2).refused("bill 1 60 1", 3, 60)
            .refused("bill 1 0 10", 3, 10).refused("bill 1 0 1", 7, 28).play("drop 0").refused("bill 1 0 1", 7, 28);
        // adjourn: 2, 3, then 8.
        Scene.of("clock 0 0, bill 0 0 1, adjourn 0 5").refused("adjourn 1 0", 2, 1).refused("adjourn 0 0", 3, 0)
            .refused("adjourn 0 13", 3, 13).refused("adjourn 0 1", 8, 5);
    }

    @Sentence(of = "Refusals", promise = {2, 7}, says = "1, there are 8 clocks or 10 bills: this number;")
    static void reason1() {
        Scene s = Scene.of("clock 7 0");
        for (int i = 1; i < 8; i++) {
            s.due("clock 7 0", i);
        }
        s.refused("clock 7 0", 1, 8).refused("clock 59 3", 1, 8).refusedText("hour;hour;clock 59 3", 2, 1, 8)
            .play("leave 7").due("clock 7 0", 7);
        Scene t = Scene.of("clock 7 0");
        for (int i = 0; i < 10; i++) {
            t.due("bill 0 7 1", i);
        }
        t.refused("bill 0 7 1", 1, 10).refused("bill 0 59 9", 1, 10).refusedText("hour;bill 0 7 1", 1, 1, 10)
            .play("drop 9").due("bill 0 7 1", 9);
    }

    @Sentence(of = "Refusals", promise = {3, 4, 5, 6, 7, 8, 9},
        says = "2, there is no such clock, key or bill: its number;")
    static void reason2() {
        String start = "clock 0 0, clock 1 0, bill 0 0 1, bill 0 0 1, bill 0 0 1";
        int[] clocks = {-1, 2, 3, Integer.MIN_VALUE, Integer.MAX_VALUE};
        for (int clock : clocks) {
            Scene.of(start).refused("leave " + clock, 2, clock).refused("wind 0 " + clock, 2, clock)
                .refused("move " + clock + " 1", 2, clock).refused("bill " + clock + " 0 1", 2, clock);
        }
        int[] taken = {-2, 2, 3, Integer.MIN_VALUE, Integer.MAX_VALUE};
        for (int clock : taken) {
            Scene.of(start).refused("key 0 " + clock, 2, clock);
        }
        int[] keys = {-1, 3, 4, Integer.MIN_VALUE, Integer.MAX_VALUE};
        for (int key : keys) {
            Scene.of(start).refused("key " + key + " 0", 2, key).refused("key " + key + " -1", 2, key)
                .refused("wind " + key + " 0", 2, key);
        }
        int[] bills = {-1, 3, 4, Integer.MIN_VALUE, Integer.MAX_VALUE};
        for (int bill : bills) {
            Scene.of(start).refused("adjourn " + bill + " 1", 2, bill).refused("drop " + bill, 2, bill);
        }
        // With the last number that there is, each of them is done.
        Scene.of(start).due("leave 1", 1);
        Scene.of(start).due("key 2 1", -1).play("hour 1").due("wind 2 1", 23);
        Scene.of(start).due("move 1 1", 2).due("bill 1 0 1", 3).due("adjourn 2 1", 1).due("drop 2", 3);
        Scene.of("").refused("leave 0", 2, 0).refused("key 0 0", 2, 0).refused("wind 0 0", 2, 0)
            .refused("move 0 1", 2, 0).refused("bill 0 0 1", 2, 0).refused("adjourn 0 1", 2, 0).refused("drop 0", 2, 0);
    }

    @Sentence(of = "Refusals", promise = {2, 6, 7, 8, 11}, says = "3, a number is out of range: the number;")
    static void reason3() {
        String start = "clock 0 0, bill 0 0 1";
        for (int second : new int[] {-1, 60, 61, Integer.MIN_VALUE, Integer.MAX_VALUE}) {
            Scene.of(start).refused("clock " + second + " 0", 3, second).refused("bill 0 " + second + " 1", 3, second);
        }
        for (int leaning : new int[] {-1, 4, 5, Integer.MIN_VALUE, Integer.MAX_VALUE}) {
            Scene.of(start).refused("clock 0 " + leaning, 3, leaning);
        }
        for (int need : new int[] {-1, 0, 10, Integer.MIN_VALUE, Integer.MAX_VALUE}) {
            Scene.of(start).refused("bill 0 0 " + need, 3, need);
        }
        for (int seconds : new int[] {-1, 0, 60, 61, Integer.MIN_VALUE, Integer.MAX_VALUE}) {
            Scene.of(start).refused("move 0 " + seconds, 3, seconds);
        }
        for (int hours : new int[] {-1, 0, 13, 14, Integer.MIN_VALUE, Integer.MAX_VALUE}) {
            Scene.of(start).refused("adjourn 0 " + hours, 3, hours);
        }
        for (int hours : new int[] {-1, 0, 25, 26, Integer.MIN_VALUE, Integer.MAX_VALUE}) {
            Scene.of(start).refused("hour " + hours, 3, hours);
        }
        // Of several the first one is told.
        Scene.of(start).refused("clock 60 4", 3, 60).refused("bill 0 60 10", 3, 60);
    }

    @Sentence(of = "Refusals", promise = {4, 5},
        says = "4, it is so already: the clock that has the key, -1 for nobody, or 24 for a spring;")
    static void reason4() {
        Scene.of("clock 0 0, clock 1 0").refused("key 1 -1", 4, -1).play("key 1 1").refused("key 1 1", 4, 1)
            .due("key 1 0", 1).refused("key 1 0", 4, 0).due("key 1 -1", 0).refused("key 1 -1", 4, -1);
        Scene.of("clock 0 0, key 0 0").refused("wind 0 0", 4, 24).play("hour 1").due("wind 0 0", 23)
            .refused("wind 0 0", 4, 24).due("account 11", 1);
    }

    @Sentence(of = "Refusals", promise = {5}, says = "5, nobody has the key: the key;")
    static void reason5() {
        Scene s = Scene.of("clock 0 0, hour 1");
        for (int key = 0; key < 3; key++) {
            s.refused("wind " + key + " 0", 5, key);
        }
        s.play("key 1 0").refused("wind 0 0", 5, 0).refused("wind 2 0", 5, 2).due("wind 1 0", 23)
            .play("hour 1, key 1 -1").refused("wind 1 0", 5, 1);
    }

    @Sentence(of = "Refusals", promise = {6}, says = "6, the spring is too weak: how much it has;")
    static void reason6() {
        Scene.of("clock 0 0, hour 23").refused("move 0 10", 6, 1).refused("move 0 59", 6, 1).due("move 0 9", 32);
        Scene.of("clock 0 0, hour 22").refused("move 0 20", 6, 2).due("move 0 19", 41);
        Scene.of("clock 0 0, hour 19").refused("move 0 50", 6, 5).due("move 0 49", 8);
    }

    @Sentence(of = "Refusals", promise = {6, 7}, says = "7, the clock is silent: its second;")
    static void reason7() {
        Scene.of("clock 30 0, hour 23").due("bill 0 0 1", 0).play("hour 1").refused("move 0 1", 7, 53)
            .refused("bill 0 0 1", 7, 53);
        // A silent clock stands still, so that its second stays the detail.
        Scene.of("clock 37 0, hour 24, hour 24").refused("move 0 59", 7, 0).refused("bill 0 59 9", 7, 0)
            .play("key 0 0, wind 0 0").due("bill 0 59 9", 0).due("move 0 59", 59);
    }

    @Sentence(of = "Refusals", promise = {8}, says = "8, the bill is adjourned: for how many hours yet;")
    static void reason8() {
        Scene.of("clock 0 0, bill 0 0 1").due("adjourn 0 12", 1).refused("adjourn 0 1", 8, 12).play("hour 1")
            .refused("adjourn 0 12", 8, 11).play("hour 10").refused("adjourn 0 3", 8, 1).play("hour 1")
            .due("adjourn 0 3", 1).refused("adjourn 0 3", 8, 3);
    }

    @Sentence(of = "Refusals", promise = {10}, says = "9, the row is empty: how many bills are adjourned;")
    static void reason9() {
        Scene.of("").refused("vote", 9, 0).play("clock 30 3").refused("vote", 9, 0).play("bill 0 30 1, adjourn 0 2")
            .refused("vote", 9, 1).play("bill 0 31 1, adjourn 1 3").refused("vote", 9, 2).play("hour 2")
            .due("vote", 3).refused("vote", 9, 1);
        Scene.of("clock 30 3, bill 0 0 1, bill 0 0 1, bill 0 0 1, bill 0 0 1, bill 0 0 1, bill 0 0 1, bill 0 0 1, "
            + "bill 0 0 1, bill 0 0 1, bill 0 0 1, vote, vote, vote, vote, vote, vote, vote, vote, vote, vote")
            .refused("vote", 9, 10);
    }

    @Sentence(of = "Refusals", promise = {5},
        says = "10, the key is with a clock that does not agree with the other one: "
        + "by how many seconds they differ;")
    static void reason10() {
        int[][] pairs = {{0, 6, 6}, {0, 7, 7}, {0, 29, 29}, {0, 30, 30}, {0, 31, 29}, {0, 54, 6}, {54, 0, 6},
            {40, 5, 25}, {5, 40, 25}};
        for (int[] pair : pairs) {
            Scene.of("clock " + pair[0] + " 0, clock " + pair[1] + " 0, key 2 0, hour 1")
                .refused("wind 2 1", 10, pair[2]).due("wind 2 0", 23).play("key 2 1").refused("wind 2 0", 10, pair[2])
                .due("wind 2 1", 23);
        }
        Scene.of("clock 0 0, clock 55 0, key 2 0, hour 1").due("wind 2 1", 23);
        Scene.of("clock 0 0, clock 5 0, key 2 0, hour 1").due("wind 2 1", 23);
    }

    @Sentence(of = "Refusals", promise = {33, 35},
        says = "11, an order of a text is refused: its index, from 0, with the "
        + "reason of the order as its cause.")
    static void reason11() {
        Scene.of("clock 0 0").refusedText("drop 0", 0, 2, 0).refusedText("hour;drop 1", 1, 2, 1)
            .refusedText("hour;hour;drop 2;vote", 2, 2, 2)
            .refusedText("hour;hour;hour;hour;hour;hour;hour;hour;hour;hour;hour;vote", 11, 9, 0);
        // The same order, called, is refused for the same reason, which is no cause then.
        String[] orders = {"clock 60 0", "leave 2", "key 1 1", "wind 0 0", "wind 1 0", "move 0 0", "bill 0 0 0",
            "adjourn 0 1", "drop 2", "hour 25"};
        int[][] due = {{3, 60}, {2, 2}, {4, 1}, {5, 0}, {10, 6}, {3, 0}, {3, 0}, {8, 7}, {2, 2}, {3, 25}};
        for (int i = 0; i < orders.length; i++) {
            Scene.of("clock 0 0, clock 6 0, bill 0 0 1, bill 0 0 1, adjourn 0 7, key 1 1")
                .refused(orders[i], due[i][0], due[i][1]).refusedText(orders[i], 0, due[i][0], due[i][1])
                .refusedText("vote;" + orders[i], 1, due[i][0], due[i][1]);
        }
    }
}
