import java.lang.reflect.InvocationTargetException;
import java.lang.reflect.Method;
import java.util.ArrayList;
import java.util.Collections;
import java.util.HashMap;
import java.util.List;
import java.util.Map;

/**
 * A parliament, and the calls that it had, told in words: "clock 5 3" for x.clock(5, 3), with ", " between two, and
 * "type vote;hour" for the appending of each character. A call that throws is also tried on one of two parliaments
 * that were made alike: both must answer alike afterwards, but for what the document says.
 */
final class Scene {
    private static final int MOST_CALLS = 512;
    private static final Map<String, Method> METHODS = methods();
    // Leaves something of all that a call that throws lets stay, and no clock, no bill and no hour.
    private static final List<String> BEFORE =
        List.of("type vots", "run", "type drop 7", "run", "clock 12 2", "tell 0", "save", "leave 0");
    private static final String PENDING = "type hou";
    private static final String REST_OF_PENDING = "type r";
    private static final List<List<String>> AFTERWARDS = List.of(List.of(), List.of("undo"),
        Collections.nCopies(3, "undo"), Collections.nCopies(8, "undo"), List.of("restore"),
        List.of(REST_OF_PENDING, "run"));

    private final ClockParliament x = new ClockParliament();
    private final List<String> story = new ArrayList<>();
    private boolean isBare = false;
    private int calls = 0;

    private static Map<String, Method> methods() {
        Map<String, Method> methods = new HashMap<>();
        for (Method method : ClockParliament.class.getMethods()) {
            if (method.getDeclaringClass() == ClockParliament.class) {
                methods.put(method.getName(), method);
            }
        }
        return methods;
    }

    static Scene of(String calls) {
        return new Scene().play(calls);
    }

    /** One whose twins have had no other calls than it. */
    static Scene bare(String calls) {
        Scene scene = new Scene();
        scene.isBare = true;
        return scene.play(calls);
    }

    /** Calls that must not throw. */
    Scene play(String calls) {
        if (!calls.isEmpty()) {
            for (String call : calls.split(", ")) {
                String answer = tell(call);
                Check.isSo(call + " answered " + answer, !answer.startsWith("throws."));
            }
        }
        return this;
    }

    Scene due(String call, Object answer) {
        Check.same(call + after(), tell(call), String.valueOf(answer));
        return this;
    }

    Scene line(String call, String due) {
        Check.same(call + after(), tell(call), String.valueOf(due.length()));
        Check.same("line of " + call + after(), line(), due);
        return this;
    }

    /** It is refused: its reason is kept, without a cause, and nothing else is different. */
    Scene refused(String call, int number, int detail) {
        Check.same(call + after(), answerOf(call), "throws.UnsupportedOperationException");
        Check.same("reason of " + call + after(), reasons(), number + " " + detail);
        compare(List.of(call), number + " " + detail, null);
        story.add(call);
        return this;
    }

    /** It throws, and nothing is different. */
    Scene fails(String call, Class<? extends RuntimeException> due) {
        Check.same(call + after(), answerOf(call), "throws." + due.getSimpleName());
        compare(List.of(call), null, null);
        story.add(call);
        return this;
    }

    Scene noIndex(String call) {
        return fails(call, IndexOutOfBoundsException.class);
    }

    Scene noArgument(String call) {
        return fails(call, IllegalArgumentException.class);
    }

    Scene noElement(String call) {
        return fails(call, java.util.NoSuchElementException.class);
    }

    Scene noState(String call) {
        return fails(call, IllegalStateException.class);
    }

    /** The text, read, has a fault: the input is empty then, and nothing else is different. */
    Scene fault(String text, int position) {
        hasRoom(type(text));
        Check.same("run of \"" + text + "\"" + after(), answerOf("run"), "throws.IllegalArgumentException");
        Check.same("fault of \"" + text + "\"" + after(), answerOf("faultPosition"), String.valueOf(position));
        compare(List.of("type " + text, "run"), null, String.valueOf(position));
        story.add("type " + text);
        story.add("run");
        return this;
    }

    /** An order of the text is refused: the input is empty then, the reason is kept, and nothing else is different. */
    Scene refusedText(String text, int order, int number, int detail) {
        String due = "11 " + order + " " + number + " " + detail;
        hasRoom(type(text));
        Check.same("run of \"" + text + "\"" + after(), answerOf("run"), "throws.UnsupportedOperationException");
        Check.same("reason of \"" + text + "\"" + after(), reasons(), due);
        compare(List.of("type " + text, "run"), due, "-1");
        story.add("type " + text);
        story.add("run");
        return this;
    }

    /** The text, read, has no fault, and each of its orders is done. */
    Scene text(String text, int orders) {
        hasRoom(tell("type " + text));
        return due("run", orders).due("faultPosition", -1);
    }

    /** All that goes back when a change is undone. */
    String state() {
        StringBuilder told = new StringBuilder();
        for (int what = 0; what <= 11; what++) {
            told.append(answerOf("account " + what)).append(' ');
        }
        for (int key = 0; key < 3; key++) {
            told.append('k').append(answerOf("keeper " + key));
        }
        for (int clock = 0; clock < Integer.parseInt(answerOf("account 0")); clock++) {
            told.append(" c");
            for (int what = 0; what <= 6; what++) {
                told.append(' ').append(answerOf("clockOf " + clock + " " + what));
            }
        }
        for (int bill = 0; bill < Integer.parseInt(answerOf("account 2")); bill++) {
            told.append(" b");
            for (int what = 0; what <= 5; what++) {
                told.append(' ').append(answerOf("billOf " + bill + " " + what));
            }
        }
        return told.toString();
    }

    /** The numbers of the reason and of its cause, as far as there are some. */
    String reasons() {
        StringBuilder told = new StringBuilder();
        for (int depth = 0; depth < 2; depth++) {
            String number = answerOf("reason " + depth + " false");
            String detail = answerOf("reason " + depth + " true");
            if (!number.startsWith("throws.") || !detail.startsWith("throws.")) {
                told.append(told.length() == 0 ? "" : " ").append(number).append(' ').append(detail);
            }
        }
        return told.toString();
    }

    String line() {
        StringBuilder told = new StringBuilder();
        for (String sign = answerOf("character 0"); sign.length() == 1; sign = answerOf("character " + told.length())) {
            told.append(sign);
        }
        return told.toString();
    }

    String answerOf(String call) {
        calls++;
        if (calls > MOST_CALLS) {
            Check.same("calls" + after(), calls, MOST_CALLS);
        }
        String[] words = call.split(" ");
        Method method = METHODS.get(words[0]);
        try {
            return String.valueOf(method.invoke(x, arguments(method, words)));
        } catch (InvocationTargetException e) {
            return "throws." + e.getCause().getClass().getSimpleName();
        } catch (IllegalAccessException e) {
            throw new IllegalStateException(e);
        }
    }

    private static Object[] arguments(Method method, String[] words) {
        Class<?>[] types = method.getParameterTypes();
        Object[] arguments = new Object[types.length];
        for (int i = 0; i < types.length; i++) {
            String word = words[i + 1];
            if (types[i] == boolean.class) {
                arguments[i] = Boolean.parseBoolean(word);
            } else if (types[i] == char.class) {
                arguments[i] = (char) Integer.parseInt(word);
            } else {
                arguments[i] = Integer.parseInt(word);
            }
        }
        return arguments;
    }

    /** Makes a call that belongs to the story, so that twins are made by it too. */
    private String tell(String call) {
        story.add(call);
        if (call.startsWith("type ")) {
            return type(call.substring(5));
        }
        return answerOf(call);
    }

    private String type(String text) {
        String answer = "";
        for (int i = 0; i < text.length(); i++) {
            answer = answerOf("append " + (int) text.charAt(i));
        }
        return answer;
    }

    private void hasRoom(String answer) {
        if (answer.startsWith("throws.")) {
            Check.same("typing" + after(), answer, "no longer than 60");
        }
    }

    private String after() {
        return story.isEmpty() ? "" : " after " + story;
    }

    private Scene twin(boolean isPending) {
        Scene twin = new Scene();
        if (!isBare) {
            BEFORE.forEach(twin::tell);
        }
        story.forEach(twin::tell);
        if (isPending && twin.answerOf("account 12").equals("0")) {
            twin.tell(PENDING);
        }
        return twin;
    }

    private void compare(List<String> thrown, String dueReasons, String dueFault) {
        boolean isPending = thrown.size() == 1 && !thrown.get(0).equals("run");
        String what = "nothing else by " + thrown + after() + ", seen after ";
        for (List<String> afterwards : AFTERWARDS) {
            Scene one = twin(isPending);
            Scene other = twin(isPending);
            thrown.forEach(one::tell);
            afterwards.forEach(one::tell);
            afterwards.forEach(other::tell);
            Check.same(what + afterwards, one.told(), other.told());
            if (!afterwards.contains("run")) {
                Check.same(what + afterwards + ": reason", one.reasons(),
                    dueReasons == null ? other.reasons() : dueReasons);
                Check.same(what + afterwards + ": fault", one.answerOf("faultPosition"),
                    dueFault == null ? other.answerOf("faultPosition") : dueFault);
            }
        }
    }

    private String told() {
        return state() + " " + answerOf("account 12") + " " + answerOf("account 13") + " " + line();
    }
}
