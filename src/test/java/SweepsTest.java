import java.util.ArrayList;
import java.util.Comparator;
import java.util.List;

/** What can be counted through is counted through, beside a way of its own to count it; ahead stands the promise. */
final class SweepsTest {
    private SweepsTest() {
    }

    static void all() {
        pairsOfSeconds();
        movesBySprings();
        hoursToComeBySprings();
        rowsToCome();
        votesByLeaningsAndNeeds();
        numbersInTexts();
        characters();
    }

    /** Goes on from the one second until it meets the other, and the other way round. */
    private static int steps(int one, int other) {
        int on = 0;
        for (int second = one; second != other; second = second == 59 ? 0 : second + 1) {
            on++;
        }
        int back = 0;
        for (int second = other; second != one; second = second == 59 ? 0 : second + 1) {
            back++;
        }
        return Math.min(on, back);
    }

    private static void pairsOfSeconds() {
        for (int one = 0; one < 60; one++) {
            for (int other = 0; other < 60; other++) {
                String pair = " of seconds " + one + " and " + other;
                int due = steps(one, other);
                // An hour makes each second 1 more, and the second clock one that can be wound.
                ClockParliament x = new ClockParliament();
                x.clock((one + 59) % 60, 3);
                x.clock((other + 59) % 60, 3);
                x.key(0, 0);
                x.bill(0, other, 1);
                x.hour(1);
                Check.same("16 apart" + pair, x.apart(0, 1), due);
                Check.same("15 doAgree" + pair, x.doAgree(1, 0), due <= 5);
                Check.same("12 set" + pair, x.clockOf(0, 6), due <= 5 ? 2 : 0);
                Check.same("29 circle" + pair, x.circle(1), due <= 5 ? 3 : 2);
                Check.same("23 voters" + pair, x.voters(0), due <= 20 ? 3 : 2);
                if (due <= 5) {
                    Check.same("5 wind" + pair, x.wind(0, 1), 23);
                } else {
                    Check.refused("5 wind" + pair, x, 10, due, () -> x.wind(0, 1));
                }
            }
        }
    }

    private static ClockParliament withSpring(int second, int spring) {
        ClockParliament x = new ClockParliament();
        x.clock(second, 0);
        if (spring < 24) {
            x.hour(24 - spring);
        }
        return x;
    }

    private static void movesBySprings() {
        for (int spring = 0; spring <= 24; spring++) {
            for (int by = 1; by <= 59; by++) {
                String move = "6 move by " + by + " with spring " + spring;
                ClockParliament x = withSpring(17, spring);
                int second = x.clockOf(0, 0);
                int seconds = by;
                int takes = 1;
                for (int full = 10; full <= by; full += 10) {
                    takes++;
                }
                if (spring == 0) {
                    Check.refused(move, x, 7, second, () -> x.move(0, seconds));
                } else if (takes > spring) {
                    Check.refused(move, x, 6, spring, () -> x.move(0, seconds));
                } else {
                    int due = second + by > 59 ? second + by - 60 : second + by;
                    Check.same(move, x.move(0, by), due);
                    Check.same(move + ": line", Check.clock(x, 0), "0:" + due + "~" + (spring - takes) + "<0");
                }
            }
        }
    }

    private static void hoursToComeBySprings() {
        for (int spring = 0; spring <= 24; spring++) {
            ClockParliament x = withSpring(50, spring);
            Check.same("21 silentIn with spring " + spring, x.silentIn(0), spring);
            int second = x.clockOf(0, 0);
            for (int hours = 0; hours <= 48; hours++) {
                Check.same("22 secondIn " + hours + " with spring " + spring, x.secondIn(0, hours), second);
                // In the hour in which its spring becomes 0 it stands already.
                if (hours + 1 < spring) {
                    second = second == 59 ? 0 : second + 1;
                }
            }
        }
    }

    /** The rows of three bills for all hours for which they can be adjourned, where 0 is on the table. */
    private static void rowsToCome() {
        for (int all = 0; all < 13 * 13 * 13; all++) {
            int[] hours = {all % 13, all / 13 % 13, all / 169};
            for (int later = 0; later <= 13; later++) {
                String when = " of bills adjourned for " + List.of(hours[0], hours[1], hours[2]) + " in " + later;
                ClockParliament x = new ClockParliament();
                x.clock(0, 0);
                for (int bill = 0; bill < 3; bill++) {
                    x.bill(0, 0, 1);
                    if (hours[bill] > 0) {
                        x.adjourn(bill, hours[bill]);
                    }
                }
                List<Integer> due = dueRow(hours, later);
                for (int place = 0; place < due.size(); place++) {
                    Check.same("18 rowIn" + when, x.rowIn(later, place), due.get(place));
                    Check.same("19 rowAgain" + when, x.rowAgain(later, place), due.get(place));
                }
                int at = later;
                Check.fails("18 behind" + when, java.util.NoSuchElementException.class, () -> x.rowIn(at, due.size()));
                Check.fails("19 behind" + when, java.util.NoSuchElementException.class,
                    () -> x.rowAgain(at, due.size()));
                if (later > 0) {
                    x.hour(later);
                }
                for (int place = 0; place < due.size(); place++) {
                    Check.same("11 row" + when, x.row(place), due.get(place));
                }
                Check.same("31 isTold" + when, x.isTold(), true);
            }
        }
    }

    /** Those that come back latest are ahead, then by their numbers; those that never left are behind all of them. */
    private static List<Integer> dueRow(int[] hours, int later) {
        List<Integer> row = new ArrayList<>();
        for (int bill = 0; bill < hours.length; bill++) {
            if (hours[bill] <= later) {
                row.add(bill);
            }
        }
        row.sort(Comparator.comparingInt(bill -> -hours[bill]));
        return row;
    }

    private static void votesByLeaningsAndNeeds() {
        for (int all = 0; all < 4 * 4 * 4; all++) {
            int[] leanings = {all % 4, all / 4 % 4, all / 16};
            for (int need = 1; need <= 9; need++) {
                String vote = " of leanings " + List.of(leanings[0], leanings[1], leanings[2]) + ", need " + need;
                ClockParliament x = new ClockParliament();
                int more = 0;
                for (int leaning : leanings) {
                    x.clock(30, leaning);
                    for (int chime = 0; chime < 3; chime++) {
                        more += chime < leaning ? 1 : -1;
                    }
                }
                x.bill(0, 40, need);
                Check.same("24 majority" + vote, x.majority(0), more);
                Check.same("25 majorityAgain" + vote, x.majorityAgain(0), more);
                Check.same("26 wouldCarry" + vote, x.wouldCarry(0), more >= need);
                Check.same("27 carried" + vote, x.carried(), more >= need ? 1 : 0);
                Check.same("10 vote" + vote, x.vote(), more);
                Check.same("40 carried so far" + vote, x.account(7), more >= need ? 1 : 0);
                Check.same("42 share" + vote, x.carriedShare(), more >= need ? 1f : 0f);
            }
        }
    }

    /** Each digit and each number of two digits in each order: it does what its method does. */
    private static void numbersInTexts() {
        for (int digit = 0; digit <= 9; digit++) {
            asIfCalled("leave " + digit, "leave " + digit);
            asIfCalled("drop " + digit, "drop " + digit);
            asIfCalled("key " + digit + " -", "key " + digit + " -1");
            for (int other = 0; other <= 9; other++) {
                asIfCalled("key " + digit + " " + other, "key " + digit + " " + other);
                asIfCalled("wind " + digit + " " + other, "wind " + digit + " " + other);
            }
            for (int number = 0; number <= 99; number++) {
                String two = number < 10 ? "0" + number : String.valueOf(number);
                asIfCalled("clock " + two + " " + digit, "clock " + number + " " + digit);
                asIfCalled("bill 1 " + two + " " + digit, "bill 1 " + number + " " + digit);
                asIfCalled("adjourn " + digit + " " + number, "adjourn " + digit + " " + number);
                asIfCalled("move " + digit + " " + number, "move " + digit + " " + number);
            }
        }
        for (int number = 0; number <= 99; number++) {
            asIfCalled("hour " + number, "hour " + number);
        }
        asIfCalled("hour", "hour 1");
        asIfCalled("vote", "vote");
    }

    private static void asIfCalled(String order, String call) {
        Scene one = someClocksAndBills();
        Scene other = someClocksAndBills();
        for (char sign : order.toCharArray()) {
            one.answerOf("append " + (int) sign);
        }
        boolean isRefused = one.answerOf("run").startsWith("throws.Unsupported");
        Check.same("33 refused: " + order, isRefused, other.answerOf(call).startsWith("throws.Unsupported"));
        Check.same("34 fault: " + order, one.answerOf("faultPosition"), "-1");
        Check.same("35 reason: " + order, one.reasons(), isRefused ? "11 0 " + other.reasons() : other.reasons());
        Check.same("33 state: " + order, one.state(), other.state());
    }

    private static Scene someClocksAndBills() {
        return Scene.of("clock 3 3, clock 7 1, clock 40 0, hour 2, key 1 0, key 2 2, bill 0 5 2, bill 1 50 1, "
            + "bill 2 20 3, adjourn 1 5");
    }

    private static void characters() {
        ClockParliament x = new ClockParliament();
        for (int code = 0; code <= Character.MAX_VALUE; code++) {
            if (code % 40 == 0) {
                x = new ClockParliament();
            }
            char sign = (char) code;
            ClockParliament asked = x;
            String due = code >= 32 && code <= 126 ? "nothing" : "IllegalArgumentException";
            Check.same("32 append " + code, Check.thrownBy(() -> asked.append(sign)), due);
        }
    }
}
