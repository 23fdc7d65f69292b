import java.util.Random;
import java.util.function.Supplier;

/** Long runs of calls, drawn with fixed seeds, on the class and on the model beside each other. */
final class ModelTest {
    private static final int RUNS = 4000;
    private static final int CALLS = 512;
    private static final String[] WORDS = {
        "clock N D", "leave D", "key D K", "wind D D", "move D N", "bill D N D", "adjourn D N", "drop D", "vote",
        "hour", "hour N"
    };

    private final Random random;
    private final ClockParliament x = new ClockParliament();
    private final Model m = new Model();
    private int calls = 0;
    private String told = "";

    private ModelTest(long seed) {
        random = new Random(seed);
    }

    static void all() {
        int wrong = 0;
        for (int seed = 0; seed < RUNS && wrong < 5; seed++) {
            String difference = new ModelTest(seed).firstDifference();
            if (difference == null) {
                Check.passed++;
            } else {
                Check.failed++;
                wrong++;
                System.out.println("FAILED model run " + seed + ": " + difference);
            }
        }
    }

    private String firstDifference() {
        int style = random.nextInt(4);
        while (calls < CALLS) {
            int kind = random.nextInt(100);
            String difference;
            if (kind < (style == 0 ? 25 : 50)) {
                difference = change();
            } else if (kind < 90 || style != 2) {
                difference = question();
            } else {
                difference = text();
            }
            if (difference != null) {
                return difference;
            }
        }
        return null;
    }

    private String same(String call, Supplier<Object> got, Supplier<Object> due) {
        calls++;
        if (calls > CALLS) {
            return null;
        }
        told = answer(got);
        String want = answer(due);
        return told.equals(want) ? null : "call " + calls + ", " + call + ": answered " + told + ", due is " + want;
    }

    private static String answer(Supplier<Object> call) {
        try {
            return String.valueOf(call.get());
        } catch (RuntimeException e) {
            return "throws." + e.getClass().getSimpleName();
        }
    }

    /** Mostly a number that can be, at times one at or behind an edge. */
    private int number(int from, int to) {
        int draw = random.nextInt(40);
        if (draw == 0) {
            return from - 1;
        }
        if (draw == 1) {
            return to + 1;
        }
        if (draw == 2) {
            return random.nextInt();
        }
        return from + random.nextInt(Math.max(1, to - from + 1));
    }

    private int aClock() {
        return number(0, m.account(0) - 1);
    }

    private int aBill() {
        return number(0, m.account(2) - 1);
    }

    private String change() {
        int op = random.nextInt(14);
        int clock = aClock();
        int bill = aBill();
        int key = number(0, 2);
        int a;
        switch (op) {
            case 0:
                a = number(0, 59);
                int leaning = number(0, 3);
                return same("clock " + a + " " + leaning, () -> x.clock(a, leaning), () -> m.change(0, a, leaning, 0));
            case 1:
                if (random.nextInt(3) > 0) {
                    return null;
                }
                return same("leave " + clock, () -> x.leave(clock), () -> m.change(1, clock, 0, 0));
            case 2:
                a = random.nextInt(4) == 0 ? -1 : clock;
                return same("key " + key + " " + a, () -> x.key(key, a), () -> m.change(2, key, a, 0));
            case 3:
                return same("wind " + key + " " + clock, () -> x.wind(key, clock), () -> m.change(3, key, clock, 0));
            case 4:
                a = number(1, 59);
                return same("move " + clock + " " + a, () -> x.move(clock, a), () -> m.change(4, clock, a, 0));
            case 5:
            case 6:
                a = number(0, 59);
                int need = number(1, 9);
                return same("bill " + clock + " " + a + " " + need,
                    () -> x.bill(clock, a, need), () -> m.change(5, clock, a, need));
            case 7:
                a = number(1, 12);
                return same("adjourn " + bill + " " + a, () -> x.adjourn(bill, a), () -> m.change(6, bill, a, 0));
            case 8:
                if (random.nextInt(3) > 0) {
                    return null;
                }
                return same("drop " + bill, () -> x.drop(bill), () -> m.change(7, bill, 0, 0));
            case 9:
                return same("vote", () -> x.vote(), () -> m.change(8, 0, 0, 0));
            case 10:
                a = random.nextInt(3) > 0 ? 1 : number(1, 24);
                return same("hour " + a, () -> x.hour(a), () -> m.change(9, a, 0, 0));
            case 11:
                return same("undo", () -> x.undo(), () -> m.undo());
            case 12:
                return same("save", () -> x.save(), () -> m.save());
            default:
                return random.nextInt(3) > 0 ? null : same("restore", () -> x.restore(), () -> m.restore());
        }
    }

    private String question() {
        int clock = aClock();
        int other = aClock();
        int bill = aBill();
        int a;
        int b;
        switch (random.nextInt(32)) {
            case 0:
            case 1:
                a = number(0, 6);
                return same("clockOf " + clock + " " + a, () -> x.clockOf(clock, a), () -> m.clockOf(clock, a));
            case 2:
            case 3:
                a = number(0, 5);
                return same("billOf " + bill + " " + a, () -> x.billOf(bill, a), () -> m.billOf(bill, a));
            case 4:
                a = number(0, 2);
                return same("keeper " + a, () -> x.keeper(a), () -> m.keeper(a));
            case 5:
                return same("doAgree " + clock + " " + other,
                    () -> x.doAgree(clock, other), () -> m.apartOf(clock, other) <= 5);
            case 6:
                return same("apart " + clock + " " + other, () -> x.apart(clock, other), () -> m.apartOf(clock, other));
            case 7:
                a = number(0, 4);
                return same("row " + a, () -> x.row(a), () -> m.rowIn(0, a));
            case 8:
            case 9:
                a = number(0, 24);
                b = number(0, m.account(2) - 1);
                return same("rowIn " + a + " " + b, () -> x.rowIn(a, b), () -> m.rowIn(a, b));
            case 10:
            case 11:
                a = number(0, 14);
                b = number(0, m.account(2) - 1);
                return same("rowAgain " + a + " " + b, () -> x.rowAgain(a, b), () -> m.rowIn(a, b));
            case 12:
                return same("next", () -> x.next(), () -> m.next());
            case 13:
                return same("silentIn " + clock, () -> x.silentIn(clock), () -> m.silentIn(clock));
            case 14:
                a = number(0, 48);
                return same("secondIn " + clock + " " + a, () -> x.secondIn(clock, a), () -> m.secondIn(clock, a));
            case 15:
                return same("voters " + bill, () -> x.voters(bill), () -> m.voters(bill));
            case 16:
                return same("majority " + bill, () -> x.majority(bill), () -> m.majority(bill));
            case 17:
                return same("majorityAgain " + bill, () -> x.majorityAgain(bill), () -> m.majority(bill));
            case 18:
                return same("wouldCarry " + bill, () -> x.wouldCarry(bill), () -> m.wouldCarry(bill));
            case 19:
                return same("carried", () -> x.carried(), () -> m.carried());
            case 20:
                return same("weakest", () -> x.weakest(), () -> m.weakest());
            case 21:
                return same("circle " + clock, () -> x.circle(clock), () -> m.circle(clock));
            case 22:
                a = number(0, 3);
                return same("ranked " + a + " " + clock, () -> x.ranked(a, clock), () -> m.ranked(a, clock));
            case 23:
                return same("isTold", () -> x.isTold(), () -> true);
            case 24:
                a = number(0, 1);
                boolean isDetail = random.nextBoolean();
                return same("reason " + a + " " + isDetail, () -> x.reason(a, isDetail), () -> m.reason(a, isDetail));
            case 25:
                return same("tell " + clock, () -> x.tell(clock), () -> m.tell(clock));
            case 26:
                return same("tellBill " + bill, () -> x.tellBill(bill), () -> m.tellBill(bill));
            case 27:
                return same("tellRow", () -> x.tellRow(), () -> m.tellRow());
            case 28:
                a = number(0, 13);
                return same("character " + a, () -> x.character(a), () -> m.character(a));
            case 29:
                a = number(0, 13);
                return same("account " + a, () -> x.account(a), () -> m.account(a));
            case 30:
                return same("meanSpring", () -> x.meanSpring(), () -> m.meanSpring());
            default:
                return same("carriedShare", () -> x.carriedShare(), () -> m.carriedShare());
        }
    }

    private String text() {
        StringBuilder text = new StringBuilder();
        int orders = 1 + random.nextInt(5);
        for (int i = 0; i < orders; i++) {
            text.append(i == 0 ? "" : ";").append(order(WORDS[random.nextInt(WORDS.length)]));
        }
        if (random.nextInt(4) == 0 && text.length() > 0) {
            int at = random.nextInt(text.length());
            String signs = "0123456789 ;-abcdefghijklmnopqrstuvwxyz\n";
            switch (random.nextInt(4)) {
                case 0:
                    text.deleteCharAt(at);
                    break;
                case 1:
                    text.insert(at, signs.charAt(random.nextInt(signs.length())));
                    break;
                case 2:
                    text.setCharAt(at, signs.charAt(random.nextInt(signs.length())));
                    break;
                default:
                    text.setLength(at);
            }
        }
        for (int i = 0; i < text.length() && calls < CALLS; i++) {
            char c = text.charAt(i);
            String difference = same("append " + (int) c, () -> x.append(c), () -> m.append(c));
            if (difference != null) {
                return difference;
            }
        }
        String difference = same("run \"" + text + "\"", () -> x.run(), () -> m.run());
        return difference != null ? difference
            : same("faultPosition of \"" + text + "\"", () -> x.faultPosition(), () -> m.faultPosition());
    }

    private String order(String form) {
        StringBuilder order = new StringBuilder();
        for (char part : form.toCharArray()) {
            if (part == 'D') {
                order.append(random.nextInt(10) == 0 ? random.nextInt(10) : random.nextInt(4));
            } else if (part == 'N') {
                order.append(random.nextInt(3) == 0 ? random.nextInt(100) : 1 + random.nextInt(12));
            } else if (part == 'K') {
                order.append(random.nextInt(5) == 0 ? "-" : String.valueOf(random.nextInt(4)));
            } else {
                order.append(part);
            }
        }
        return order.toString();
    }
}
