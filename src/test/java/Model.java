import java.util.ArrayDeque;
import java.util.ArrayList;
import java.util.Comparator;
import java.util.Deque;
import java.util.List;
import java.util.NoSuchElementException;
import java.util.regex.Matcher;
import java.util.regex.Pattern;

/** The document once more, in another way: things point at each other, and numbers are found by looking. */
final class Model {
    private static final Pattern TEXT;

    static {
        String number = "[0-9][0-9]?";
        String order = "(clock N [0-9]|leave [0-9]|key [0-9] [0-9-]|wind [0-9] [0-9]|move [0-9] N"
            + "|bill [0-9] N [0-9]|adjourn [0-9] N|drop [0-9]|vote|hour( N)?)";
        order = order.replace("N", number);
        TEXT = Pattern.compile(order + "(;" + order + ")*");
    }

    private static final class C {
        int second;
        int spring = 24;
        int leaning;
        int votes;
    }

    private static final class B {
        C mover;
        int second;
        int need;
        int hours;
        int times;
    }

    private static final class State {
        List<C> clocks = new ArrayList<>();
        List<B> bills = new ArrayList<>();
        List<B> row = new ArrayList<>();
        C[] keys = new C[3];
        int[] counts = new int[7];

        State copy() {
            State s = new State();
            for (C c : clocks) {
                C d = new C();
                d.second = c.second;
                d.spring = c.spring;
                d.leaning = c.leaning;
                d.votes = c.votes;
                s.clocks.add(d);
            }
            for (B b : bills) {
                B d = new B();
                d.mover = b.mover == null ? null : s.clocks.get(clocks.indexOf(b.mover));
                d.second = b.second;
                d.need = b.need;
                d.hours = b.hours;
                d.times = b.times;
                s.bills.add(d);
            }
            for (B b : row) {
                s.row.add(s.bills.get(bills.indexOf(b)));
            }
            for (int k = 0; k < 3; k++) {
                s.keys[k] = keys[k] == null ? null : s.clocks.get(clocks.indexOf(keys[k]));
            }
            s.counts = counts.clone();
            return s;
        }
    }

    private static final int HOUR = 0;
    private static final int HELD = 1;
    private static final int CARRIED = 2;
    private static final int LOST = 3;
    private static final int CHIMES = 4;
    private static final int BACK = 5;
    private static final int WOUND = 6;

    private static final class Refused extends RuntimeException {
        private static final long serialVersionUID = 1L;
        final int number;
        final int detail;

        Refused(int number, int detail) {
            this.number = number;
            this.detail = detail;
        }
    }

    private State now = new State();
    private State saved;
    private final Deque<State> past = new ArrayDeque<>();
    private String input = "";
    private int fault = -1;
    private int[] reasons = {};
    private String line = "";

    // Changes; op numbers: 0 clock, 1 leave, 2 key, 3 wind, 4 move, 5 bill, 6 adjourn, 7 drop, 8 vote, 9 hour

    int change(int op, int a, int b, int c) {
        State before = now.copy();
        int answer;
        try {
            answer = perform(op, a, b, c);
        } catch (Refused r) {
            now = before;
            reasons = new int[] {r.number, r.detail};
            throw new UnsupportedOperationException();
        }
        remember(before);
        return answer;
    }

    private void remember(State before) {
        past.addLast(before);
        if (past.size() > 8) {
            past.removeFirst();
        }
    }

    private static void refuseIf(boolean so, int number, int detail) {
        if (so) {
            throw new Refused(number, detail);
        }
    }

    private C clockAsked(int clock) {
        refuseIf(clock < 0 || clock >= now.clocks.size(), 2, clock);
        return now.clocks.get(clock);
    }

    private B billAsked(int bill) {
        refuseIf(bill < 0 || bill >= now.bills.size(), 2, bill);
        return now.bills.get(bill);
    }

    private static void inRange(int value, int from, int to) {
        refuseIf(value < from || value > to, 3, value);
    }

    private int perform(int op, int a, int b, int c) {
        switch (op) {
            case 0: {
                inRange(a, 0, 59);
                inRange(b, 0, 3);
                refuseIf(now.clocks.size() == 8, 1, 8);
                C clock = new C();
                clock.second = a;
                clock.leaning = b;
                now.clocks.add(clock);
                return now.clocks.size() - 1;
            }
            case 1: {
                C clock = clockAsked(a);
                now.clocks.remove(clock);
                for (int k = 0; k < 3; k++) {
                    now.keys[k] = now.keys[k] == clock ? null : now.keys[k];
                }
                for (B bill : now.bills) {
                    bill.mover = bill.mover == clock ? null : bill.mover;
                }
                return now.clocks.size();
            }
            case 2: {
                refuseIf(a < 0 || a > 2, 2, a);
                C clock = b == -1 ? null : clockAsked(b);
                refuseIf(now.keys[a] == clock, 4, b);
                int had = now.clocks.indexOf(now.keys[a]);
                now.keys[a] = clock;
                return had;
            }
            case 3: {
                refuseIf(a < 0 || a > 2, 2, a);
                C clock = clockAsked(b);
                refuseIf(now.keys[a] == null, 5, a);
                int apart = apart(now.keys[a].second, clock.second);
                refuseIf(apart > 5, 10, apart);
                refuseIf(clock.spring == 24, 4, 24);
                int had = clock.spring;
                clock.spring = 24;
                now.counts[WOUND]++;
                return had;
            }
            case 4: {
                C clock = clockAsked(a);
                inRange(b, 1, 59);
                refuseIf(clock.spring == 0, 7, clock.second);
                refuseIf(clock.spring < 1 + b / 10, 6, clock.spring);
                clock.spring -= 1 + b / 10;
                for (int i = 0; i < b; i++) {
                    clock.second = clock.second == 59 ? 0 : clock.second + 1;
                }
                return clock.second;
            }
            case 5: {
                C clock = clockAsked(a);
                inRange(b, 0, 59);
                inRange(c, 1, 9);
                refuseIf(clock.spring == 0, 7, clock.second);
                refuseIf(now.bills.size() == 10, 1, 10);
                B bill = new B();
                bill.mover = clock;
                bill.second = b;
                bill.need = c;
                now.bills.add(bill);
                now.row.add(bill);
                return now.bills.size() - 1;
            }
            case 6: {
                B bill = billAsked(a);
                inRange(b, 1, 12);
                refuseIf(bill.hours > 0, 8, bill.hours);
                putOff(bill, b);
                return adjourned(now);
            }
            case 7:
                finish(billAsked(a));
                return now.bills.size();
            case 8:
                return hold();
            default:
                inRange(a, 1, 24);
                int back = now.counts[BACK];
                for (int i = 0; i < a; i++) {
                    pass(now);
                }
                return now.counts[BACK] - back;
        }
    }

    private void putOff(B bill, int hours) {
        bill.hours = hours;
        bill.times++;
        now.row.remove(bill);
    }

    private void finish(B bill) {
        now.bills.remove(bill);
        now.row.remove(bill);
    }

    private int hold() {
        refuseIf(now.row.isEmpty(), 9, adjourned(now));
        B bill = now.row.get(0);
        List<C> voting = voting(bill);
        if (voting.isEmpty()) {
            putOff(bill, 1);
            return 0;
        }
        int pro = 0;
        int contra = 0;
        for (C clock : voting) {
            pro += clock.leaning;
            contra += 3 - clock.leaning;
            clock.spring--;
            clock.votes++;
        }
        now.counts[HELD]++;
        now.counts[pro - contra >= bill.need ? CARRIED : LOST]++;
        now.counts[CHIMES] += pro + contra;
        finish(bill);
        return pro - contra;
    }

    private List<C> voting(B bill) {
        List<C> voting = new ArrayList<>();
        for (C clock : now.clocks) {
            if (clock.spring > 0 && apart(clock.second, bill.second) <= 20) {
                voting.add(clock);
            }
        }
        return voting;
    }

    private static int apart(int one, int other) {
        int on = (one - other + 60) % 60;
        int back = (other - one + 60) % 60;
        return on < back ? on : back;
    }

    private static int adjourned(State s) {
        return s.bills.size() - s.row.size();
    }

    private static void pass(State s) {
        List<B> back = new ArrayList<>();
        for (B bill : s.bills) {
            if (bill.hours > 0 && --bill.hours == 0) {
                back.add(bill);
            }
        }
        s.row.addAll(0, back);
        s.counts[BACK] += back.size();
        s.counts[HOUR]++;
        for (C clock : s.clocks) {
            clock.spring = clock.spring > 0 ? clock.spring - 1 : 0;
            clock.second = clock.spring > 0 ? (clock.second + 1) % 60 : clock.second;
        }
    }

    // Questions

    private C clock(int clock) {
        if (clock < 0 || clock >= now.clocks.size()) {
            throw new IndexOutOfBoundsException();
        }
        return now.clocks.get(clock);
    }

    private B bill(int bill) {
        if (bill < 0 || bill >= now.bills.size()) {
            throw new IndexOutOfBoundsException();
        }
        return now.bills.get(bill);
    }

    private static void argument(boolean isGood) {
        if (!isGood) {
            throw new IllegalArgumentException();
        }
    }

    private static void element(boolean isThere) {
        if (!isThere) {
            throw new NoSuchElementException();
        }
    }

    int clockOf(int clock, int what) {
        C c = clock(clock);
        argument(what >= 0 && what <= 6);
        int keys = 0;
        int moved = 0;
        int agreeing = 0;
        for (C keeper : now.keys) {
            keys += keeper == c ? 1 : 0;
        }
        for (B bill : now.bills) {
            moved += bill.mover == c ? 1 : 0;
        }
        for (int k = 0; k < now.clocks.size(); k++) {
            agreeing += k != clock && apart(now.clocks.get(k).second, c.second) <= 5 ? 1 << k : 0;
        }
        return new int[] {c.second, c.spring, c.leaning, keys, moved, c.votes, agreeing}[what];
    }

    int billOf(int bill, int what) {
        B b = bill(bill);
        argument(what >= 0 && what <= 5);
        int mover = b.mover == null ? -1 : now.clocks.indexOf(b.mover);
        return new int[] {mover, b.second, b.need, b.hours, now.row.indexOf(b), b.times}[what];
    }

    int keeper(int key) {
        if (key < 0 || key > 2) {
            throw new IndexOutOfBoundsException();
        }
        return now.clocks.indexOf(now.keys[key]);
    }

    int apartOf(int one, int other) {
        return apart(clock(one).second, clock(other).second);
    }

    int rowIn(int hours, int place) {
        argument(hours >= 0 && hours <= 24);
        State later = now.copy();
        for (int i = 0; i < hours; i++) {
            pass(later);
        }
        element(place >= 0 && place < later.row.size());
        return later.bills.indexOf(later.row.get(place));
    }

    int next() {
        element(adjourned(now) > 0);
        return now.bills.stream().filter(b -> b.hours > 0).mapToInt(b -> b.hours).min().getAsInt();
    }

    int silentIn(int clock) {
        return clock(clock).spring;
    }

    int secondIn(int clock, int hours) {
        C c = clock(clock);
        argument(hours >= 0 && hours <= 48);
        return (c.second + Math.max(0, Math.min(hours, c.spring - 1))) % 60;
    }

    int voters(int bill) {
        int set = 0;
        for (C clock : voting(bill(bill))) {
            set += 1 << now.clocks.indexOf(clock);
        }
        return set;
    }

    int majority(int bill) {
        int more = 0;
        for (C clock : voting(bill(bill))) {
            more += clock.leaning - (3 - clock.leaning);
        }
        return more;
    }

    boolean wouldCarry(int bill) {
        return !voting(bill(bill)).isEmpty() && majority(bill) >= now.bills.get(bill).need;
    }

    int carried() {
        int set = 0;
        for (B bill : now.row) {
            int number = now.bills.indexOf(bill);
            set += wouldCarry(number) ? 1 << number : 0;
        }
        return set;
    }

    int weakest() {
        element(!now.clocks.isEmpty());
        C weakest = now.clocks.stream().min(Comparator.comparingInt(c -> c.spring)).get();
        return now.clocks.indexOf(weakest);
    }

    int circle(int clock) {
        clock(clock);
        List<Integer> found = new ArrayList<>(List.of(clock));
        int set = 1 << clock;
        for (int i = 0; i < found.size(); i++) {
            for (int k = 0; k < now.clocks.size(); k++) {
                if (!found.contains(k) && apartOf(found.get(i), k) <= 5) {
                    found.add(k);
                    set += 1 << k;
                }
            }
        }
        return set;
    }

    int ranked(int kind, int place) {
        argument(kind >= 0 && kind <= 3);
        element(place >= 0 && place < now.clocks.size());
        List<C> order = new ArrayList<>(now.clocks);
        order.sort(Comparator.comparingInt(c -> -new int[] {c.spring, c.second, c.leaning, c.votes}[kind]));
        return now.clocks.indexOf(order.get(place));
    }

    // Texts

    int append(char character) {
        argument(character >= ' ' && character <= '~');
        if (input.length() == 60) {
            throw new IllegalStateException();
        }
        input += character;
        return input.length();
    }

    int run() {
        String text = input;
        input = "";
        fault = faultIn(text);
        argument(fault == -1);
        State before = now.copy();
        String[] orders = text.split(";");
        for (int i = 0; i < orders.length; i++) {
            try {
                performText(orders[i]);
            } catch (Refused r) {
                now = before;
                reasons = new int[] {11, i, r.number, r.detail};
                throw new UnsupportedOperationException();
            }
        }
        remember(before);
        return orders.length;
    }

    static int faultIn(String text) {
        for (int end = 1; end <= text.length(); end++) {
            Matcher matcher = TEXT.matcher(text.substring(0, end));
            if (!matcher.matches() && !matcher.hitEnd()) {
                return end - 1;
            }
        }
        return TEXT.matcher(text).matches() ? -1 : text.length();
    }

    private void performText(String order) {
        String[] words = order.split(" ");
        int[] numbers = new int[3];
        for (int i = 1; i < words.length; i++) {
            numbers[i - 1] = words[i].equals("-") ? -1 : Integer.parseInt(words[i]);
        }
        List<String> names =
            List.of("clock", "leave", "key", "wind", "move", "bill", "adjourn", "drop", "vote", "hour");
        if (order.equals("hour")) {
            numbers[0] = 1;
        }
        perform(names.indexOf(words[0]), numbers[0], numbers[1], numbers[2]);
    }

    int faultPosition() {
        return fault;
    }

    int reason(int depth, boolean isDetail) {
        argument(depth == 0 || depth == 1);
        int at = 2 * depth + (isDetail ? 1 : 0);
        element(at < reasons.length);
        return reasons[at];
    }

    int tell(int clock) {
        C c = clock(clock);
        String told = clock + ":" + c.second + "~" + c.spring + "<" + c.leaning;
        for (int k = 0; k < 3; k++) {
            told += now.keys[k] == c ? "k" + k : "";
        }
        line = told;
        return line.length();
    }

    int tellBill(int bill) {
        B b = bill(bill);
        line = bill + "@" + b.second + "+" + b.need + (b.hours > 0 ? "h" + b.hours : "");
        return line.length();
    }

    int tellRow() {
        List<String> numbers = new ArrayList<>();
        for (B bill : now.row) {
            numbers.add(String.valueOf(now.bills.indexOf(bill)));
        }
        line = String.join(" ", numbers);
        return line.length();
    }

    char character(int index) {
        if (index < 0 || index >= line.length()) {
            throw new IndexOutOfBoundsException();
        }
        return line.charAt(index);
    }

    // Accounts, undo, and saving

    int account(int what) {
        argument(what >= 0 && what <= 13);
        int silent = (int) now.clocks.stream().filter(c -> c.spring == 0).count();
        int[] n = now.counts;
        return new int[] {
            now.clocks.size(), silent, now.bills.size(), adjourned(now), n[HOUR], springs(), n[HELD], n[CARRIED],
            n[LOST], n[CHIMES], n[BACK], n[WOUND], input.length(), past.size()
        }[what];
    }

    private int springs() {
        return now.clocks.stream().mapToInt(c -> c.spring).sum();
    }

    double meanSpring() {
        if (now.clocks.isEmpty()) {
            throw new ArithmeticException();
        }
        return (double) springs() / now.clocks.size();
    }

    float carriedShare() {
        if (now.counts[HELD] == 0) {
            throw new ArithmeticException();
        }
        return (float) now.counts[CARRIED] / now.counts[HELD];
    }

    int undo() {
        if (past.isEmpty()) {
            throw new IllegalStateException();
        }
        now = past.removeLast();
        return past.size();
    }

    int save() {
        saved = now.copy();
        return saved.clocks.size();
    }

    int restore() {
        if (saved == null) {
            throw new IllegalStateException();
        }
        now = saved.copy();
        past.clear();
        return now.clocks.size();
    }
}
