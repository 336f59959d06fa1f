import java.lang.reflect.InvocationTargetException;
import java.lang.reflect.Method;
import java.lang.reflect.Modifier;
import java.util.ArrayList;
import java.util.HashMap;
import java.util.List;
import java.util.Map;
import java.util.Set;
import java.util.function.Function;
import java.util.regex.Matcher;
import java.util.regex.Pattern;

/**
 * The statements of one case, carried out on an object of its own. What they mean is told in
 * src/test/boundaries/README.md. A refused call, and one that only asks, is compared with an object
 * that did not get it: everything must be the same.
 */
final class Script {
    private static final int MOST_CALLS = 512;
    /** After so many calls there are still enough left to look at everything. */
    private static final int LONGEST_COMPARED = 180;
    private static final Pattern CALL = Pattern.compile("(\\w+)\\((.*)\\)(?: = (.+)| throws (\\w+))?");
    private static final Pattern MACRO = Pattern.compile("(\\w+)(?: (.*))?");
    private static final Map<String, Method> FACE = face();
    private static final Set<String> CHANGES = Set.of("addReed", "breakReed", "removeReed", "setFog", "addBoat",
            "removeBoat", "addMove", "clearPlan", "mirror", "reverse", "reduce", "sail", "planWay", "addLanding",
            "removeLanding", "append", "run", "describeRow", "describePlan", "undo", "save", "restore");

    private record Call(String name, Object[] arguments) { }

    /** An object that has got some calls, and counts them: nothing is promised after the 512th. */
    private static final class Subject {
        final MirrorFerry ferry = new MirrorFerry();
        int calls;

        Subject(List<Call> tape) {
            for (Call call : tape) {
                answer(call.name, call.arguments);
            }
        }

        String answer(String name, Object... arguments) {
            calls++;
            if (calls > MOST_CALLS) {
                throw new AssertionError("more than " + MOST_CALLS + " calls");
            }
            try {
                Object got = FACE.get(name).invoke(ferry, arguments);
                return got instanceof Character ? "'" + got + "'" : String.valueOf(got);
            } catch (InvocationTargetException e) {
                return "throws " + e.getCause().getClass().getSimpleName();
            } catch (IllegalAccessException e) {
                throw new AssertionError(e);
            }
        }

        int number(String name, Object... arguments) {
            return Integer.parseInt(answer(name, arguments));
        }

        boolean refuses(String name, Object... arguments) {
            return answer(name, arguments).startsWith("throws");
        }
    }

    /** The calls so far, without those that changed nothing. */
    private final List<Call> tape = new ArrayList<>();
    private final Subject subject = new Subject(tape);
    private final Map<String, String> remembered = new HashMap<>();
    private final List<String> wrong = new ArrayList<>();

    private static Map<String, Method> face() {
        Map<String, Method> face = new HashMap<>();
        for (Method method : MirrorFerry.class.getDeclaredMethods()) {
            if (Modifier.isPublic(method.getModifiers())) {
                face.put(method.getName(), method);
            }
        }
        return face;
    }

    /** Carries out a statement; answers what is not as due. */
    List<String> carryOut(String statement) {
        wrong.clear();
        Matcher call = CALL.matcher(statement);
        Matcher macro = MACRO.matcher(statement);
        if (call.matches() && FACE.containsKey(call.group(1))) {
            String due = call.group(4) != null ? "throws " + call.group(4) : call.group(3);
            for (Object[] arguments : argumentLists(FACE.get(call.group(1)), call.group(2))) {
                makeCall(call.group(1), arguments, due);
            }
        } else if (macro.matches()) {
            carryOutMacro(macro.group(1), macro.group(2) == null ? "" : macro.group(2));
        } else {
            wrong.add("no statement");
        }
        return List.copyOf(wrong);
    }

    private void carryOutMacro(String macro, String rest) {
        switch (macro) {
            case "repeat" -> {
                String[] parts = rest.split(" ", 2);
                List<String> all = new ArrayList<>();
                for (int i = 0; i < Integer.parseInt(parts[0]); i++) {
                    all.addAll(carryOut(parts[1]));
                }
                wrong.clear();
                wrong.addAll(all);
            }
            case "reeds" -> {
                for (int i = 0; i < Integer.parseInt(rest); i++) {
                    makeCall("addReed", new Object[] {i % 9, i / 9}, "" + (i + 1));
                }
            }
            case "walls" -> {
                for (int i = 0; i < 16; i++) {
                    makeCall("addReed", new Object[] {i % 4 + i / 4 % 2, i / 4 * 2 + 1}, "" + (i + 1));
                }
            }
            case "spend" -> {
                for (int i = 0; i < Integer.parseInt(rest); i++) {
                    makeCall("addBoat", new Object[] {4, 4}, "" + i);
                    makeCall("removeBoat", new Object[] {i}, "0");
                }
            }
            case "put" -> {
                String[] parts = rest.split(" ", 2);
                int plan = Integer.parseInt(parts[0]);
                makeCall("clearPlan", new Object[] {plan}, null);
                for (char move : parts[1].toCharArray()) {
                    makeCall("addMove", new Object[] {plan, move}, null);
                }
            }
            case "type" -> {
                for (char sign : unquoted(rest).toCharArray()) {
                    makeCall("append", new Object[] {sign}, null);
                }
            }
            case "moves" -> due(moves(subject, rest.charAt(0) - '0'), unquoted(rest.substring(5)));
            case "line" -> due(line(subject), unquoted(rest.substring(3)));
            case "row" -> {
                makeCall("describeRow", new Object[] {rest.charAt(0) - '0'}, "9");
                due(line(subject), unquoted(rest.substring(5)));
            }
            case "remember" -> remembered.put(rest, marsh(tape));
            case "as" -> due(marsh(tape), remembered.get(rest));
            default -> wrong.add("no statement");
        }
    }

    private void due(String got, String want) {
        if (!got.equals(want)) {
            wrong.add("answered " + got + ", due is " + want);
        }
    }

    private static String unquoted(String quoted) {
        return quoted.substring(1, quoted.length() - 1);
    }

    // ---- calls

    /** All lists of arguments that alternatives, as in "-1|9, 0", give. */
    private static List<Object[]> argumentLists(Method method, String text) {
        List<Object[]> lists = new ArrayList<>();
        lists.add(new Object[method.getParameterCount()]);
        String[] parts = text.isEmpty() ? new String[0] : text.split(", ");
        if (parts.length != method.getParameterCount()) {
            throw new AssertionError(method + " with " + text);
        }
        for (int i = 0; i < parts.length; i++) {
            List<Object[]> longer = new ArrayList<>();
            for (Object[] list : lists) {
                for (String alternative : parts[i].split("\\|")) {
                    Object[] copy = list.clone();
                    copy[i] = argument(method.getParameterTypes()[i], alternative);
                    longer.add(copy);
                }
            }
            lists = longer;
        }
        return lists;
    }

    private static Object argument(Class<?> type, String text) {
        if (type == char.class) {
            return text.startsWith("#") ? (char) Integer.parseInt(text.substring(1)) : text.charAt(1);
        }
        return switch (text) {
            case "MIN" -> Integer.MIN_VALUE;
            case "MAX" -> Integer.MAX_VALUE;
            default -> Integer.parseInt(text);
        };
    }

    /** Makes a call; a call of which nothing is told may answer anything, but not throw. */
    private void makeCall(String name, Object[] arguments, String due) {
        Call call = new Call(name, arguments);
        String got = subject.answer(name, arguments);
        if (due == null ? got.startsWith("throws") : !got.equals(due)) {
            wrong.add(call.name + List.of(arguments) + " answered " + got + ", due is " + due);
        }
        boolean refused = got.startsWith("throws");
        if (name.equals("run") && refused) {
            compareRefusedRun(got);
            tape.add(call);
        } else if (refused || !CHANGES.contains(name)) {
            if (refused || tape.size() < LONGEST_COMPARED) {
                compare(tape, with(tape, call), "");
            }
        } else {
            tape.add(call);
        }
    }

    private static List<Call> with(List<Call> tape, Call call) {
        List<Call> longer = new ArrayList<>(tape);
        longer.add(call);
        return longer;
    }

    // ---- what has not changed

    private void compare(List<Call> without, List<Call> with, String except) {
        Map<String, String> before = everything(without);
        Map<String, String> after = everything(with);
        for (String part : before.keySet()) {
            if (!part.equals(except) && !before.get(part).equals(after.get(part))) {
                wrong.add("changed " + part + "\n      from " + before.get(part) + "\n      to   " + after.get(part));
            }
        }
    }

    /** A refused run leaves all as if its text had never been typed, but for one of two numbers. */
    private void compareRefusedRun(String got) {
        List<Call> untyped = new ArrayList<>(tape);
        for (int i = untyped.size() - 1; i >= 0 && !untyped.get(i).name.equals("run"); i--) {
            if (untyped.get(i).name.equals("append")) {
                untyped.remove(i);
            }
        }
        boolean failed = got.equals("throws IllegalStateException");
        compare(untyped, with(tape, new Call("run", new Object[0])), failed ? "failed command" : "error position");
    }

    /** Everything that later calls can show, each part asked of an object of its own. */
    private static Map<String, String> everything(List<Call> tape) {
        Map<String, String> all = new HashMap<>();
        List<Call> undone = new ArrayList<>(tape);
        boolean more = true;
        for (int i = 0; more; i++) {
            all.put("marsh after " + i + " of undo()", marsh(undone));
            undone = with(undone, new Call("undo", new Object[0]));
            more = !new Subject(undone.subList(0, undone.size() - 1)).refuses("undo");
        }
        put(all, "number of undo()s", tape, s -> s.answer("undo"));
        put(all, "whether a snapshot is there", tape, s -> s.answer("restore"));
        all.put("marsh after restore()", marsh(with(tape, new Call("restore", new Object[0]))));
        put(all, "undo() after restore()", with(tape, new Call("restore", new Object[0])), s -> s.answer("undo"));
        put(all, "length of the command text", tape, s -> s.answer("append", '0'));
        put(all, "run() of the command text", tape, s -> s.answer("run"));
        all.put("marsh after run()", marsh(with(tape, new Call("run", new Object[0]))));
        put(all, "error position", tape, s -> s.answer("errorPosition"));
        put(all, "failed command", tape, s -> s.answer("failedCommand"));
        put(all, "line", tape, Script::line);
        return all;
    }

    private static void put(Map<String, String> all, String part, List<Call> tape, Function<Subject, String> ask) {
        all.put(part, ask.apply(new Subject(tape)));
    }

    /** All that changes can change. */
    private static String marsh(List<Call> tape) {
        StringBuilder view = new StringBuilder(numbers(new Subject(tape)));
        view.append(" next boat ").append(nextBoat(new Subject(tape)));
        int landings = new Subject(tape).number("landingCount");
        for (int landing = 0; landing < landings; landing++) {
            view.append(" landing in ").append(cellOfLanding(new Subject(tape), landing, landings));
        }
        return view.toString();
    }

    private static String numbers(Subject s) {
        StringBuilder view = new StringBuilder();
        for (String name : List.of("reedCount", "brokenCount", "fog", "boatCount", "landingCount", "fareTotal",
                "fareTotalByBoats", "meetingCount", "pairingCost")) {
            view.append(name).append(' ').append(s.answer(name)).append(", ");
        }
        for (int cell = 0; cell < 81; cell++) {
            boolean reed = s.answer("hasReed", cell % 9, cell / 9).equals("true");
            boolean passable = s.answer("isPassable", cell % 9, cell / 9).equals("true");
            view.append(reed ? passable ? "'" : "#" : passable ? "." : ":");
        }
        for (int place = 0; place < s.number("boatCount"); place++) {
            int boat = s.number("boatAt", place);
            view.append(", boat ").append(boat);
            for (String name : List.of("columnOf", "rowOf", "faresOf")) {
                view.append(' ').append(s.answer(name, boat));
            }
        }
        for (int plan = 0; plan < 6; plan++) {
            view.append(", plan ").append(moves(s, plan));
        }
        return view.toString();
    }

    private static String moves(Subject s, int plan) {
        StringBuilder moves = new StringBuilder();
        int length = s.number("planLength", plan);
        for (int position = 0; position < length; position++) {
            moves.append(s.answer("moveAt", plan, position).charAt(1));
        }
        return moves.toString();
    }

    private static String line(Subject s) {
        StringBuilder line = new StringBuilder();
        for (String sign = s.answer("lineAt", 0); !sign.startsWith("throws"); sign = s.answer("lineAt", line.length())) {
            line.append(sign.charAt(1));
        }
        return line.toString();
    }

    private static String nextBoat(Subject s) {
        if (s.number("boatCount") == 4) {
            s.answer("removeBoat", s.number("boatAt", 0));
        }
        for (int cell = 0; cell < 81; cell++) {
            String boat = s.answer("addBoat", cell % 9, cell / 9);
            if (!boat.startsWith("throws")) {
                return boat;
            }
        }
        return "nowhere";
    }

    /** A cell cannot be asked of a landing: only a second one in it is refused. */
    private static String cellOfLanding(Subject s, int landing, int landings) {
        for (int other = landings - 1; other >= 0; other--) {
            if (other != landing) {
                s.answer("removeLanding", other);
            }
        }
        for (int cell = 0; cell < 81; cell++) {
            if (s.refuses("addLanding", cell % 9, cell / 9)) {
                return cell % 9 + "" + cell / 9;
            }
            s.answer("removeLanding", 1);
        }
        return "none";
    }
}
