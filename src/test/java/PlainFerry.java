import java.util.ArrayDeque;
import java.util.ArrayList;
import java.util.Arrays;
import java.util.Comparator;
import java.util.Deque;
import java.util.HashMap;
import java.util.List;
import java.util.Map;
import java.util.NoSuchElementException;
import java.util.TreeMap;
import java.util.regex.Matcher;
import java.util.regex.Pattern;

/**
 * The document once more, written as plainly as the Java library lets it be and without a look
 * at how MirrorFerry does it: ModelTest holds the two against each other.
 */
public final class PlainFerry {
    record Cell(int x, int y) {
        Cell image() {
            return new Cell(8 - x, y);
        }

        boolean exists() {
            return 0 <= x && x <= 8 && 0 <= y && y <= 8;
        }

        Cell after(char move) {
            return switch (move) {
                case 'U' -> new Cell(x, y + 1);
                case 'D' -> new Cell(x, y - 1);
                case 'L' -> new Cell(x - 1, y);
                default -> new Cell(x + 1, y);
            };
        }

        int distanceTo(Cell other) {
            return Math.abs(x - other.x) + Math.abs(y - other.y);
        }
    }

    record Boat(Cell cell, int fares) {
    }

    private static final class State {
        Map<Cell, Boolean> brokenReeds = new HashMap<>();
        TreeMap<Integer, Boat> boats = new TreeMap<>();
        List<String> plans = new ArrayList<>(List.of("", "", "", "", "", ""));
        List<Cell> landings = new ArrayList<>();
        int fog;
        int nextBoat;
        int fareTotal;
        int removedFares;
        int meetings;

        State copy() {
            State copy = new State();
            copy.brokenReeds = new HashMap<>(brokenReeds);
            copy.boats = new TreeMap<>(boats);
            copy.plans = new ArrayList<>(plans);
            copy.landings = new ArrayList<>(landings);
            copy.fog = fog;
            copy.nextBoat = nextBoat;
            copy.fareTotal = fareTotal;
            copy.removedFares = removedFares;
            copy.meetings = meetings;
            return copy;
        }
    }

    private static final String COMMAND = "(?:reed \\d\\d|break \\d\\d|boat \\d\\d|plan \\d=[UDLR]*|mirror \\d\\d"
            + "|back \\d\\d|reduce \\d|sail \\d \\d|way \\d>\\d\\d \\d|landing \\d\\d|fog \\d)";
    private static final Pattern TEXT = Pattern.compile(COMMAND + "(?:;" + COMMAND + ")*");

    private State now = new State();
    private State saved;
    private final Deque<State> before = new ArrayDeque<>();
    private boolean running;
    private String text = "";
    private String line = "";
    private Integer errorPosition;
    private Integer failedCommand;

    private void change() {
        if (!running) {
            before.push(now.copy());
            if (before.size() > 8) {
                before.removeLast();
            }
        }
    }

    private static Cell cell(int x, int y) {
        Cell cell = new Cell(x, y);
        if (!cell.exists()) {
            throw new IndexOutOfBoundsException();
        }
        return cell;
    }

    private static void checkPlan(int plan) {
        if (plan < 0 || plan > 5) {
            throw new IndexOutOfBoundsException();
        }
    }

    private Boat boat(int boat) {
        if (!now.boats.containsKey(boat)) {
            throw new NoSuchElementException();
        }
        return now.boats.get(boat);
    }

    private boolean stands(Cell cell) {
        return Boolean.FALSE.equals(now.brokenReeds.get(cell));
    }

    private boolean passable(Cell cell) {
        return !stands(cell) && !stands(cell.image());
    }

    private boolean taken(Cell cell, int exceptBoat) {
        return now.boats.entrySet().stream().anyMatch(e -> e.getKey() != exceptBoat
                && (e.getValue().cell().equals(cell) || e.getValue().cell().image().equals(cell)));
    }

    public int addReed(int x, int y) {
        Cell cell = cell(x, y);
        if (now.brokenReeds.containsKey(cell) || taken(cell, -1) || now.brokenReeds.size() == 30) {
            throw new IllegalStateException();
        }
        change();
        now.brokenReeds.put(cell, false);
        return reedCount();
    }

    public int breakReed(int x, int y) {
        Cell cell = cell(x, y);
        if (!now.brokenReeds.containsKey(cell)) {
            throw new NoSuchElementException();
        }
        if (now.brokenReeds.get(cell)) {
            throw new IllegalStateException();
        }
        change();
        now.brokenReeds.put(cell, true);
        return brokenCount();
    }

    public int removeReed(int x, int y) {
        Cell cell = cell(x, y);
        if (!now.brokenReeds.containsKey(cell)) {
            throw new NoSuchElementException();
        }
        change();
        now.brokenReeds.remove(cell);
        return reedCount();
    }

    public boolean hasReed(int x, int y) {
        return now.brokenReeds.containsKey(cell(x, y));
    }

    public boolean isPassable(int x, int y) {
        return passable(cell(x, y));
    }

    public int reedCount() {
        return now.brokenReeds.size();
    }

    public int brokenCount() {
        return (int) now.brokenReeds.values().stream().filter(b -> b).count();
    }

    public int oddReeds() {
        return (int) now.brokenReeds.keySet().stream().filter(c -> stands(c) && !stands(c.image())).count();
    }

    public int oddReedsByRows() {
        return oddReeds();
    }

    public int setFog(int side) {
        if (side < 0 || side > 2) {
            throw new IllegalArgumentException();
        }
        change();
        int old = now.fog;
        now.fog = side;
        return old;
    }

    public int fog() {
        return now.fog;
    }

    public int addBoat(int x, int y) {
        Cell cell = cell(x, y);
        if (now.boats.size() == 4) {
            throw new IllegalStateException();
        }
        if (!passable(cell) || taken(cell, -1)) {
            throw new UnsupportedOperationException();
        }
        change();
        now.boats.put(now.nextBoat, new Boat(cell, 0));
        return now.nextBoat++;
    }

    public int removeBoat(int boat) {
        int fares = boat(boat).fares();
        change();
        now.boats.remove(boat);
        now.removedFares += fares;
        return fares;
    }

    public int boatCount() {
        return now.boats.size();
    }

    public int boatAt(int place) {
        if (place < 0 || place >= now.boats.size()) {
            throw new IndexOutOfBoundsException();
        }
        return new ArrayList<>(now.boats.keySet()).get(place);
    }

    public int columnOf(int boat) {
        return boat(boat).cell().x();
    }

    public int rowOf(int boat) {
        return boat(boat).cell().y();
    }

    public int imageColumnOf(int boat) {
        return boat(boat).cell().image().x();
    }

    public int faresOf(int boat) {
        return boat(boat).fares();
    }

    public int boatAtRank(int rank) {
        if (rank < 0 || rank >= now.boats.size()) {
            throw new NoSuchElementException();
        }
        List<Integer> ranked = new ArrayList<>(now.boats.keySet());
        ranked.sort(Comparator.comparingInt(b -> -now.boats.get(b).fares()));
        return ranked.get(rank);
    }

    public int addMove(int plan, char move) {
        checkPlan(plan);
        if ("UDLR".indexOf(move) < 0) {
            throw new IllegalArgumentException();
        }
        if (now.plans.get(plan).length() == 20) {
            throw new IllegalStateException();
        }
        change();
        now.plans.set(plan, now.plans.get(plan) + move);
        return planLength(plan);
    }

    public int clearPlan(int plan) {
        checkPlan(plan);
        change();
        return now.plans.set(plan, "").length();
    }

    private static String exchanged(String moves, String from, String to) {
        StringBuilder result = new StringBuilder();
        for (char move : moves.toCharArray()) {
            result.append(to.charAt(from.indexOf(move)));
        }
        return result.toString();
    }

    public int mirror(int plan, int target) {
        checkPlan(plan);
        checkPlan(target);
        change();
        now.plans.set(target, exchanged(now.plans.get(plan), "UDLR", "UDRL"));
        return planLength(target);
    }

    public int reverse(int plan, int target) {
        checkPlan(plan);
        checkPlan(target);
        change();
        String opposite = exchanged(now.plans.get(plan), "UDLR", "DURL");
        now.plans.set(target, new StringBuilder(opposite).reverse().toString());
        return planLength(target);
    }

    private static String reduced(String moves) {
        String shorter = moves.replaceFirst("UD|DU|LR|RL", "");
        return shorter.equals(moves) ? moves : reduced(shorter);
    }

    public int reduce(int plan) {
        checkPlan(plan);
        change();
        now.plans.set(plan, reduced(now.plans.get(plan)));
        return planLength(plan);
    }

    public int reducedLength(int plan) {
        checkPlan(plan);
        return reduced(now.plans.get(plan)).length();
    }

    public int planLength(int plan) {
        checkPlan(plan);
        return now.plans.get(plan).length();
    }

    public char moveAt(int plan, int position) {
        checkPlan(plan);
        if (position < 0 || position >= planLength(plan)) {
            throw new NoSuchElementException();
        }
        return now.plans.get(plan).charAt(position);
    }

    public boolean areMirrored(int plan, int other) {
        checkPlan(plan);
        checkPlan(other);
        return now.plans.get(plan).equals(exchanged(now.plans.get(other), "UDLR", "UDRL"));
    }

    public int sail(int boat, int plan) {
        if (blockedMove(boat, plan) >= 0) {
            throw new UnsupportedOperationException();
        }
        change();
        Boat old = boat(boat);
        Cell cell = old.cell();
        for (char move : now.plans.get(plan).toCharArray()) {
            Cell next = cell.after(move);
            if (next.x() == 4 && cell.x() != 4) {
                now.meetings++;
            }
            cell = next;
        }
        int fare = planLength(plan) / 2 * 2 + 1;
        now.boats.put(boat, new Boat(cell, old.fares() + fare));
        now.fareTotal += fare;
        return fare;
    }

    public int blockedMove(int boat, int plan) {
        Cell cell = boat(boat).cell();
        checkPlan(plan);
        String moves = now.plans.get(plan);
        for (int i = 0; i < moves.length(); i++) {
            cell = cell.after(moves.charAt(i));
            if (!cell.exists() || !passable(cell) || taken(cell, boat)) {
                return i;
            }
        }
        return -1;
    }

    private interface Toll {
        int of(Cell cell);
    }

    /** The cheapest cost from a cell to each cell, found by trying on until nothing gets better. */
    private static Map<Cell, Integer> costs(Cell start, Toll toll) {
        Map<Cell, Integer> costs = new HashMap<>();
        costs.put(start, 0);
        Deque<Cell> open = new ArrayDeque<>(List.of(start));
        while (!open.isEmpty()) {
            Cell cell = open.remove();
            for (char move : "RLDU".toCharArray()) {
                Cell next = cell.after(move);
                if (next.exists() && toll.of(next) >= 0) {
                    int cost = costs.get(cell) + toll.of(next);
                    if (!costs.containsKey(next) || cost < costs.get(next)) {
                        costs.put(next, cost);
                        open.add(next);
                    }
                }
            }
        }
        return costs;
    }

    private int cost(int boat, int x, int y, Toll toll) {
        Cell start = boat(boat).cell();
        Integer cost = costs(start, toll).get(cell(x, y));
        if (cost == null) {
            throw new NoSuchElementException();
        }
        return cost;
    }

    public int wayLength(int boat, int x, int y) {
        return cost(boat, x, y, c -> passable(c) ? 1 : -1);
    }

    public int wayLengthByRounds(int boat, int x, int y) {
        return wayLength(boat, x, y);
    }

    private boolean foggy(Cell cell) {
        return now.fog == 1 && cell.x() <= 3 || now.fog == 2 && cell.x() >= 5;
    }

    public int wayCost(int boat, int x, int y) {
        return cost(boat, x, y, c -> !passable(c) ? -1 : foggy(c) ? 2 : 1);
    }

    public int wayCostByRounds(int boat, int x, int y) {
        return wayCost(boat, x, y);
    }

    public int breakingEffort(int boat, int x, int y) {
        return cost(boat, x, y, c -> (stands(c) ? 1 : 0) + (c.x() != 4 && stands(c.image()) ? 1 : 0));
    }

    public int planWay(int boat, int x, int y, int plan) {
        int length = wayLength(boat, x, y);
        checkPlan(plan);
        if (length > 20) {
            throw new IllegalStateException();
        }
        change();
        now.plans.set(plan, firstWays(boat(boat).cell(), length).get(cell(x, y)));
        return length;
    }

    /** For each cell to which a way of this length leads, the first of these ways in the order U, D, L, R. */
    private Map<Cell, String> firstWays(Cell start, int length) {
        Comparator<String> order = Comparator.comparing(w -> exchanged(w, "UDLR", "0123"));
        Map<Cell, String> ways = new HashMap<>(Map.of(start, ""));
        for (int step = 0; step < length; step++) {
            Map<Cell, String> longer = new HashMap<>();
            ways.forEach((cell, way) -> {
                for (char move : "UDLR".toCharArray()) {
                    Cell next = cell.after(move);
                    if (next.exists() && passable(next)) {
                        longer.merge(next, way + move, (a, b) -> order.compare(a, b) < 0 ? a : b);
                    }
                }
            });
            ways = longer;
        }
        return ways;
    }

    public int addLanding(int x, int y) {
        Cell cell = cell(x, y);
        if (now.landings.contains(cell) || now.landings.size() == 8) {
            throw new IllegalStateException();
        }
        change();
        now.landings.add(cell);
        return now.landings.size() - 1;
    }

    public int removeLanding(int landing) {
        if (landing < 0 || landing >= now.landings.size()) {
            throw new IndexOutOfBoundsException();
        }
        change();
        now.landings.remove(landing);
        return now.landings.size();
    }

    public int landingCount() {
        return now.landings.size();
    }

    private int pairCost(int a, int b) {
        Cell first = now.landings.get(a);
        Cell second = now.landings.get(b);
        return Math.min(first.distanceTo(second), first.distanceTo(second.image()));
    }

    /** All pairings as rows of partners, in the order of which the first of the best is the best. */
    private void pairings(int[] partners, List<int[]> all) {
        int first = 0;
        while (first < partners.length && partners[first] >= 0) {
            first++;
        }
        if (first == partners.length) {
            all.add(partners);
            return;
        }
        for (int other = first + 1; other < partners.length; other++) {
            if (partners[other] < 0) {
                int[] more = partners.clone();
                more[first] = other;
                more[other] = first;
                pairings(more, all);
            }
        }
    }

    private int cost(int[] partners) {
        int sum = 0;
        for (int i = 0; i < partners.length; i++) {
            sum += i < partners[i] ? pairCost(i, partners[i]) : 0;
        }
        return sum;
    }

    private int[] bestPairing() {
        int count = now.landings.size();
        if (count % 2 == 1) {
            throw new IllegalStateException();
        }
        int[] none = new int[count];
        Arrays.fill(none, -1);
        List<int[]> all = new ArrayList<>();
        pairings(none, all);
        int[] best = all.get(0);
        for (int[] pairing : all) {
            best = cost(pairing) < cost(best) ? pairing : best;
        }
        return best;
    }

    public int pairingCost() {
        return cost(bestPairing());
    }

    public int pairingCostBySearch() {
        return pairingCost();
    }

    public int partnerOf(int landing) {
        if (landing < 0 || landing >= now.landings.size()) {
            throw new IndexOutOfBoundsException();
        }
        return bestPairing()[landing];
    }

    public int fareTotal() {
        return now.fareTotal;
    }

    public int fareTotalByBoats() {
        return now.removedFares + now.boats.values().stream().mapToInt(Boat::fares).sum();
    }

    public int meetingCount() {
        return now.meetings;
    }

    public int append(char character) {
        if (character < ' ' || character > '~') {
            throw new IllegalArgumentException();
        }
        if (text.length() == 60) {
            throw new IllegalStateException();
        }
        text += character;
        return text.length();
    }

    public int run() {
        String whole = text;
        text = "";
        if (!TEXT.matcher(whole).matches()) {
            errorPosition = errorIn(whole);
            throw new IllegalArgumentException();
        }
        State old = now.copy();
        String[] commands = whole.split(";");
        for (int i = 0; i < commands.length; i++) {
            running = true;
            try {
                carryOut(commands[i]);
            } catch (RuntimeException e) {
                now = old;
                failedCommand = i;
                throw new IllegalStateException();
            } finally {
                running = false;
            }
        }
        State done = now;
        now = old;
        change();
        now = done;
        return commands.length;
    }

    private static int errorIn(String whole) {
        int length = 0;
        while (length < whole.length()) {
            Matcher matcher = TEXT.matcher(whole.substring(0, length + 1));
            if (!matcher.matches() && !matcher.hitEnd()) {
                return length;
            }
            length++;
        }
        return length;
    }

    private void carryOut(String command) {
        String name = command.substring(0, command.indexOf(' '));
        int[] n = command.chars().filter(Character::isDigit).map(c -> c - '0').toArray();
        switch (name) {
            case "reed" -> addReed(n[0], n[1]);
            case "break" -> breakReed(n[0], n[1]);
            case "boat" -> addBoat(n[0], n[1]);
            case "mirror" -> mirror(n[0], n[1]);
            case "back" -> reverse(n[0], n[1]);
            case "reduce" -> reduce(n[0]);
            case "sail" -> sail(n[0], n[1]);
            case "way" -> planWay(n[0], n[1], n[2], n[3]);
            case "landing" -> addLanding(n[0], n[1]);
            case "fog" -> setFog(n[0]);
            default -> {
                clearPlan(n[0]);
                for (char move : command.substring(command.indexOf('=') + 1).toCharArray()) {
                    addMove(n[0], move);
                }
            }
        }
    }

    public int errorPosition() {
        if (errorPosition == null) {
            throw new NoSuchElementException();
        }
        return errorPosition;
    }

    public int failedCommand() {
        if (failedCommand == null) {
            throw new NoSuchElementException();
        }
        return failedCommand;
    }

    public int describeRow(int y) {
        StringBuilder row = new StringBuilder();
        for (int x = 0; x < 9; x++) {
            Cell cell = cell(x, y);
            Boolean broken = now.brokenReeds.get(cell);
            String sign = broken == null ? "." : broken ? "'" : "#";
            for (Map.Entry<Integer, Boat> entry : now.boats.entrySet()) {
                if (entry.getValue().cell().equals(cell)) {
                    sign = "" + entry.getKey() % 10;
                } else if (entry.getValue().cell().image().equals(cell)) {
                    sign = "~";
                }
            }
            row.append(sign);
        }
        line = row.toString();
        return 9;
    }

    public int describePlan(int plan) {
        checkPlan(plan);
        StringBuilder runs = new StringBuilder();
        Matcher run = Pattern.compile("(.)\\1*").matcher(now.plans.get(plan));
        while (run.find()) {
            int length = run.end() - run.start();
            runs.append(run.group(1)).append(length > 1 ? "" + length : "");
        }
        line = runs.toString();
        return line.length();
    }

    public char lineAt(int index) {
        if (index < 0 || index >= line.length()) {
            throw new IndexOutOfBoundsException();
        }
        return line.charAt(index);
    }

    public double meanFares() {
        if (now.boats.isEmpty()) {
            throw new ArithmeticException();
        }
        return (double) (fareTotal() - now.removedFares) / now.boats.size();
    }

    public float passableShare() {
        int open = 0;
        for (int i = 0; i < 81; i++) {
            open += passable(cell(i % 9, i / 9)) ? 1 : 0;
        }
        return open / 81f;
    }

    public boolean isConsistent() {
        return true;
    }

    public int undo() {
        if (before.isEmpty()) {
            throw new IllegalStateException();
        }
        now = before.pop();
        return before.size();
    }

    public int save() {
        saved = now.copy();
        return boatCount();
    }

    public int restore() {
        if (saved == null) {
            throw new IllegalStateException();
        }
        now = saved.copy();
        before.clear();
        return boatCount();
    }
}
