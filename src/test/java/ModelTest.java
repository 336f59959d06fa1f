import java.lang.reflect.InvocationTargetException;
import java.lang.reflect.Method;
import java.util.ArrayList;
import java.util.Comparator;
import java.util.HashMap;
import java.util.List;
import java.util.Map;
import java.util.Random;

/** Gives the same calls to MirrorFerry and to PlainFerry, and compares every answer. */
public final class ModelTest {
    private static final int RUNS = 1500;
    private static final int CALLS = 512;
    private static final String[] COMMANDS = {"reed ##", "break ##", "boat ##", "plan p=*", "mirror pp", "back pp",
        "reduce p", "sail b p", "way b>## p", "landing ##", "fog f"};

    private static final Map<String, Method> FERRY = methodsOf(MirrorFerry.class);
    private static final Map<String, Method> PLAIN = methodsOf(PlainFerry.class);

    private final Random random;
    private final MirrorFerry ferry = new MirrorFerry();
    private final PlainFerry plain = new PlainFerry();
    private final List<String> calls = new ArrayList<>();
    /** Of how many calls in a hundred the arguments may be anything. */
    private final int wild;
    private final List<Method> likely = new ArrayList<>();
    private int called;

    private ModelTest(long seed) {
        random = new Random(seed);
        wild = random.nextInt(4) * 3;
        List<Method> methods = new ArrayList<>(FERRY.values());
        methods.sort(Comparator.comparing(Method::getName));
        // Each run leans on calls of its own, so that full and empty marshes both come about.
        for (Method method : methods) {
            int weight = random.nextInt(4) == 0 ? 16 : 4;
            boolean takesAway = method.getName().matches("remove.*|clearPlan|reduce|undo");
            boolean sweeps = method.getName().matches("restore|run|append");
            for (int i = 0; i < (sweeps ? 1 : takesAway ? weight / 2 : weight); i++) {
                likely.add(method);
            }
        }
    }

    public static void main(String[] args) throws Exception {
        for (long seed = 1; seed <= RUNS; seed++) {
            new ModelTest(seed).play();
        }
        System.out.println("MirrorFerry and PlainFerry agree in " + RUNS + " runs of " + CALLS + " calls");
    }

    private static Map<String, Method> methodsOf(Class<?> type) {
        Map<String, Method> methods = new HashMap<>();
        for (Method method : type.getDeclaredMethods()) {
            if (java.lang.reflect.Modifier.isPublic(method.getModifiers())) {
                methods.put(method.getName(), method);
            }
        }
        return methods;
    }

    private void play() throws Exception {
        prepare();
        int texts = random.nextInt(40);
        while (called < CALLS) {
            if (random.nextInt(400) < texts) {
                runText(randomText());
            } else {
                Method method = likely.get(random.nextInt(likely.size()));
                call(method.getName(), randomArguments(method));
            }
        }
    }

    private void prepare() throws Exception {
        int marsh = random.nextInt(3);
        for (int i = 0; i < 16 && marsh == 1; i++) {
            // Walls with gaps at their middles and their ends in turn, so that ways are long.
            call("addReed", i % 4 + i / 4 % 2, i / 4 * 2 + 1);
        }
        int reeds = marsh == 0 ? 0 : random.nextInt(32);
        for (int i = 0; i < reeds; i++) {
            call("addReed", random.nextInt(9), random.nextInt(9));
        }
        int boats = random.nextInt(6);
        for (int i = 0; i < boats; i++) {
            call("addBoat", random.nextInt(9), random.nextInt(9));
        }
        int landings = random.nextInt(9);
        for (int i = 0; i < landings; i++) {
            call("addLanding", random.nextInt(9), random.nextInt(9));
        }
        int moves = random.nextInt(40);
        for (int i = 0; i < moves; i++) {
            call("addMove", random.nextInt(2), aMove());
        }
    }

    private void runText(String text) throws Exception {
        for (char sign : text.toCharArray()) {
            call("append", sign);
        }
        call("run");
        call(random.nextBoolean() ? "errorPosition" : "failedCommand");
    }

    private String randomText() {
        StringBuilder text = new StringBuilder();
        int commands = 1 + random.nextInt(4);
        for (int i = 0; i < commands; i++) {
            text.append(i > 0 ? ";" : "").append(randomCommand());
        }
        if (random.nextInt(4) == 0) {
            int at = random.nextInt(text.length());
            switch (random.nextInt(4)) {
                case 0 -> text.setLength(at);
                case 1 -> text.deleteCharAt(at);
                case 2 -> text.setCharAt(at, " ;=>0UDLRreab".charAt(random.nextInt(13)));
                default -> text.insert(at, " ;=>0UDLRreab".charAt(random.nextInt(13)));
            }
        }
        return text.toString();
    }

    private String randomCommand() {
        StringBuilder command = new StringBuilder();
        for (char sign : COMMANDS[random.nextInt(COMMANDS.length)].toCharArray()) {
            switch (sign) {
                case '#' -> command.append(random.nextInt(40) == 0 ? 9 : random.nextInt(9));
                case 'p' -> command.append(command.isEmpty() || command.indexOf(" ") < 0 ? "p" : "" + small(6));
                case 'b' -> command.append(command.indexOf(" ") < 0 ? "b" : "" + aBoat());
                case 'f' -> command.append(command.indexOf(" ") < 0 ? "f" : "" + small(3));
                case '*' -> {
                    for (int i = random.nextInt(30) == 0 ? 21 : random.nextInt(8); i > 0; i--) {
                        command.append(aMove());
                    }
                }
                default -> command.append(sign);
            }
        }
        return command.toString();
    }

    private int small(int bound) {
        return random.nextInt(30) == 0 ? Math.min(9, bound + random.nextInt(3)) : random.nextInt(bound);
    }

    private int aBoat() {
        int count = plain.boatCount();
        return count > 0 && random.nextInt(10) > 0 ? plain.boatAt(random.nextInt(count)) % 10 : random.nextInt(10);
    }

    private char aMove() {
        return "UDLR".charAt(random.nextInt(4));
    }

    private Object[] randomArguments(Method method) {
        Class<?>[] types = method.getParameterTypes();
        Object[] arguments = new Object[types.length];
        for (int i = 0; i < types.length; i++) {
            boolean anything = random.nextInt(100) < wild;
            if (types[i] == char.class) {
                arguments[i] = anything ? (char) random.nextInt(random.nextBoolean() ? 130 : 65536)
                        : method.getName().equals("append") ? COMMANDS[random.nextInt(11)].charAt(random.nextInt(4)) : aMove();
            } else {
                arguments[i] = anything ? anyInt() : likelyInt(method.getName(), i);
            }
        }
        if (method.getName().matches("breakReed|removeReed") && random.nextInt(4) > 0) {
            aimAtReed(arguments);
        }
        return arguments;
    }

    private void aimAtReed(Object[] arguments) {
        int start = random.nextInt(81);
        for (int i = 0; i < 81; i++) {
            int cell = (start + i) % 81;
            if (plain.hasReed(cell % 9, cell / 9)) {
                arguments[0] = cell % 9;
                arguments[1] = cell / 9;
                return;
            }
        }
    }

    private int anyInt() {
        return switch (random.nextInt(6)) {
            case 0 -> Integer.MIN_VALUE;
            case 1 -> Integer.MAX_VALUE;
            case 2 -> -1;
            case 3 -> random.nextInt();
            default -> random.nextInt(12) - 1;
        };
    }

    private int likelyInt(String name, int index) {
        boolean boatFirst = name.matches("sail|blockedMove|way.*|breakingEffort|planWay|removeBoat|.*Of") && !name.equals("partnerOf");
        if (boatFirst && index == 0) {
            return plain.boatCount() > 0 ? plain.boatAt(random.nextInt(plain.boatCount())) : random.nextInt(3);
        }
        if (name.matches("addMove|clearPlan|mirror|reverse|reduce|reducedLength|planLength|areMirrored|describePlan|sail|blockedMove")
                || name.equals("planWay") && index == 3 || name.equals("moveAt") && index == 0) {
            return random.nextInt(random.nextInt(3) == 0 ? 6 : 2);
        }
        return switch (name) {
            case "setFog" -> random.nextInt(3);
            case "boatAt", "boatAtRank" -> random.nextInt(5);
            case "partnerOf", "removeLanding" -> random.nextInt(8);
            case "moveAt", "lineAt" -> random.nextInt(random.nextBoolean() ? 10 : 21);
            default -> random.nextInt(9);
        };
    }

    private void call(String name, Object... arguments) throws Exception {
        if (called >= CALLS) {
            return;
        }
        called++;
        calls.add(name + List.of(arguments));
        Object got = answer(FERRY.get(name), ferry, arguments);
        Object want = answer(PLAIN.get(name), plain, arguments);
        if (!got.equals(want)) {
            calls.forEach(System.out::println);
            System.out.println("answered " + got + ", due is " + want);
            System.exit(1);
        }
    }

    private static Object answer(Method method, Object target, Object[] arguments) throws Exception {
        try {
            return method.invoke(target, arguments);
        } catch (InvocationTargetException e) {
            return e.getCause().getClass();
        }
    }
}
