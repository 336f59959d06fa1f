import java.util.NoSuchElementException;

/** A ferry in a marsh with a mirror. README.md says how to use it. */
public final class MirrorFerry {
    private static final int SIDE = 9;
    private static final int CELLS = SIDE * SIDE;
    private static final int MIDDLE = 4;
    private static final int MOST_REEDS = 30;
    private static final int MOST_BOATS = 4;
    private static final int PLANS = 6;
    private static final int MOST_MOVES = 20;
    private static final int MOST_LANDINGS = 8;
    private static final int LANDING_SETS = 1 << MOST_LANDINGS;
    private static final int MOST_SIGNS = 60;
    private static final int MOST_UNDOS = 8;

    private static final int NOWHERE = -1;
    private static final int NO_PLACE = -1;
    private static final int NO_POSITION = -1;

    // A change answers a number that is never negative, so a negative one can name the
    // exception that is due: run() has to know of it without a throw.
    private static final int OUT_OF_BOUNDS = -1;
    private static final int NO_SUCH_ELEMENT = -2;
    private static final int ILLEGAL_STATE = -3;
    private static final int ILLEGAL_ARGUMENT = -4;
    private static final int UNSUPPORTED = -5;

    private static final int NO_REED = 0;
    private static final int STANDING = 1;
    private static final int BROKEN = 2;

    // Greater than every length, cost and effort in the marsh, and small enough to add to.
    private static final int FAR = 1000000;
    private static final int BLOCKED = -1;
    // A search puts its first cell into the heap, and then at most one entry for each move of each cell.
    private static final int HEAP_ROOM = 4 * CELLS + 1;

    // The numbers of the moves: pairs of opposite moves differ in the last bit alone.
    private static final int MOVES = 4;
    private static final int LEFT = 2;
    private static final char[] LETTERS = {'U', 'D', 'L', 'R'};
    private static final int[] STEP_X = {0, 0, -1, 1};
    private static final int[] STEP_Y = {1, -1, 0, 0};

    private static final Command[] COMMANDS = Command.values();

    private final Marsh marsh;
    private final Marsh snapshot;
    private final History history;
    private final Ways ways;
    private final Pairing pairing;
    private final CommandReader reader;
    private final Text commandText;
    private final Text line;
    private final int[] spareMoves;
    private boolean snapshotTaken;
    private int lastErrorPosition;
    private int lastFailedCommand;

    public MirrorFerry() {
        marsh = new Marsh();
        snapshot = new Marsh();
        history = new History();
        ways = new Ways();
        pairing = new Pairing();
        reader = new CommandReader();
        commandText = new Text();
        line = new Text();
        spareMoves = new int[MOST_MOVES];
        snapshotTaken = false;
        lastErrorPosition = NO_POSITION;
        lastFailedCommand = NO_POSITION;
    }

    // ---- reeds and fog

    public int addReed(int x, int y) throws IndexOutOfBoundsException, IllegalStateException {
        history.note(marsh);
        return settled(marsh.growReed(x, y));
    }

    public int breakReed(int x, int y)
            throws IndexOutOfBoundsException, NoSuchElementException, IllegalStateException {
        history.note(marsh);
        return settled(marsh.snapReed(x, y));
    }

    public int removeReed(int x, int y) throws IndexOutOfBoundsException, NoSuchElementException {
        history.note(marsh);
        return settled(marsh.cutReed(x, y));
    }

    public boolean hasReed(int x, int y) throws IndexOutOfBoundsException {
        return marsh.reeds.stateOf(existingCell(x, y)) != NO_REED;
    }

    public boolean isPassable(int x, int y) throws IndexOutOfBoundsException {
        return marsh.reeds.isOpen(existingCell(x, y));
    }

    public int reedCount() {
        return marsh.reeds.count;
    }

    public int brokenCount() {
        return marsh.reeds.broken;
    }

    public int oddReeds() {
        return marsh.reeds.oddByCells();
    }

    public int oddReedsByRows() {
        return marsh.reeds.oddByRows();
    }

    public int setFog(int side) throws IllegalArgumentException {
        history.note(marsh);
        return settled(marsh.moveFog(side));
    }

    public int fog() {
        return marsh.fogSide;
    }

    // ---- boats

    public int addBoat(int x, int y)
            throws IndexOutOfBoundsException, IllegalStateException, UnsupportedOperationException {
        history.note(marsh);
        return settled(marsh.launchBoat(x, y));
    }

    public int removeBoat(int boat) throws NoSuchElementException {
        history.note(marsh);
        return settled(marsh.fleet.dismiss(boat));
    }

    public int boatCount() {
        return marsh.fleet.count;
    }

    public int boatAt(int place) throws IndexOutOfBoundsException {
        if (place < 0 || place >= marsh.fleet.count) {
            throw new IndexOutOfBoundsException();
        }
        return marsh.fleet.numbers[place];
    }

    public int columnOf(int boat) throws NoSuchElementException {
        return column(marsh.fleet.cells[existingPlace(boat)]);
    }

    public int rowOf(int boat) throws NoSuchElementException {
        return row(marsh.fleet.cells[existingPlace(boat)]);
    }

    public int imageColumnOf(int boat) throws NoSuchElementException {
        return column(image(marsh.fleet.cells[existingPlace(boat)]));
    }

    public int faresOf(int boat) throws NoSuchElementException {
        return marsh.fleet.fares[existingPlace(boat)];
    }

    public int boatAtRank(int rank) throws NoSuchElementException {
        int place = marsh.fleet.placeOfRank(rank);
        if (place == NO_PLACE) {
            throw new NoSuchElementException();
        }
        return marsh.fleet.numbers[place];
    }

    // ---- plans

    public int addMove(int plan, char move)
            throws IndexOutOfBoundsException, IllegalArgumentException, IllegalStateException {
        history.note(marsh);
        return settled(marsh.plans.extend(plan, move));
    }

    public int clearPlan(int plan) throws IndexOutOfBoundsException {
        history.note(marsh);
        return settled(marsh.plans.empty(plan));
    }

    public int mirror(int plan, int target) throws IndexOutOfBoundsException {
        history.note(marsh);
        return settled(marsh.plans.putMirrored(plan, target));
    }

    public int reverse(int plan, int target) throws IndexOutOfBoundsException {
        history.note(marsh);
        return settled(marsh.plans.putWayBack(plan, target));
    }

    public int reduce(int plan) throws IndexOutOfBoundsException {
        history.note(marsh);
        return settled(marsh.plans.shorten(plan));
    }

    public int reducedLength(int plan) throws IndexOutOfBoundsException {
        return marsh.plans.lengthByPairs(existingPlan(plan), spareMoves);
    }

    public int planLength(int plan) throws IndexOutOfBoundsException {
        return marsh.plans.lengths[existingPlan(plan)];
    }

    public char moveAt(int plan, int position) throws IndexOutOfBoundsException, NoSuchElementException {
        int existing = existingPlan(plan);
        if (position < 0 || position >= marsh.plans.lengths[existing]) {
            throw new NoSuchElementException();
        }
        return letter(marsh.plans.moveIn(existing, position));
    }

    public boolean areMirrored(int plan, int other) throws IndexOutOfBoundsException {
        return marsh.plans.mirrorEachOther(existingPlan(plan), existingPlan(other));
    }

    // ---- sailing

    public int sail(int boat, int plan)
            throws NoSuchElementException, IndexOutOfBoundsException, UnsupportedOperationException {
        history.note(marsh);
        return settled(marsh.sailBy(boat, plan));
    }

    public int blockedMove(int boat, int plan) throws NoSuchElementException, IndexOutOfBoundsException {
        int place = existingPlace(boat);
        return marsh.blockedPosition(place, existingPlan(plan));
    }

    public int wayLength(int boat, int x, int y) throws NoSuchElementException, IndexOutOfBoundsException {
        int start = marsh.fleet.cells[existingPlace(boat)];
        int goal = existingCell(x, y);
        ways.setPlainTolls(marsh);
        ways.searchByBreadth(start);
        return reached(ways.found[goal]);
    }

    public int wayLengthByRounds(int boat, int x, int y)
            throws NoSuchElementException, IndexOutOfBoundsException {
        int start = marsh.fleet.cells[existingPlace(boat)];
        int goal = existingCell(x, y);
        ways.setPlainTolls(marsh);
        ways.searchByRounds(start);
        return reached(ways.improved[goal]);
    }

    public int wayCost(int boat, int x, int y) throws NoSuchElementException, IndexOutOfBoundsException {
        int start = marsh.fleet.cells[existingPlace(boat)];
        int goal = existingCell(x, y);
        ways.setFogTolls(marsh);
        ways.searchByHeap(start);
        return reached(ways.found[goal]);
    }

    public int wayCostByRounds(int boat, int x, int y)
            throws NoSuchElementException, IndexOutOfBoundsException {
        int start = marsh.fleet.cells[existingPlace(boat)];
        int goal = existingCell(x, y);
        ways.setFogTolls(marsh);
        ways.searchByRounds(start);
        return reached(ways.improved[goal]);
    }

    public int breakingEffort(int boat, int x, int y)
            throws NoSuchElementException, IndexOutOfBoundsException {
        int start = marsh.fleet.cells[existingPlace(boat)];
        int goal = existingCell(x, y);
        ways.setReedTolls(marsh);
        ways.searchByHeap(start);
        return ways.found[goal];
    }

    public int planWay(int boat, int x, int y, int plan)
            throws NoSuchElementException, IndexOutOfBoundsException, IllegalStateException {
        history.note(marsh);
        return settled(marsh.layWay(ways, boat, x, y, plan));
    }

    // ---- landings

    public int addLanding(int x, int y) throws IndexOutOfBoundsException, IllegalStateException {
        history.note(marsh);
        return settled(marsh.landings.build(x, y));
    }

    public int removeLanding(int landing) throws IndexOutOfBoundsException {
        history.note(marsh);
        return settled(marsh.landings.tearDown(landing));
    }

    public int landingCount() {
        return marsh.landings.count;
    }

    public int pairingCost() throws IllegalStateException {
        requireEvenLandings();
        return pairing.costByTable(marsh.landings);
    }

    public int pairingCostBySearch() throws IllegalStateException {
        requireEvenLandings();
        return pairing.costByTrying(marsh.landings);
    }

    public int partnerOf(int landing) throws IndexOutOfBoundsException, IllegalStateException {
        if (landing < 0 || landing >= marsh.landings.count) {
            throw new IndexOutOfBoundsException();
        }
        requireEvenLandings();
        return pairing.bestPartner(marsh.landings, landing);
    }

    // ---- totals

    public int fareTotal() {
        return marsh.fleet.total;
    }

    public int fareTotalByBoats() {
        return marsh.fleet.presentFares() + marsh.fleet.removedFares;
    }

    public int meetingCount() {
        return marsh.fleet.meetings;
    }

    // ---- commands

    public int append(char character) throws IllegalArgumentException, IllegalStateException {
        if (character < 32 || character > 126) {
            throw new IllegalArgumentException();
        }
        if (commandText.length >= MOST_SIGNS) {
            throw new IllegalStateException();
        }
        return commandText.put(character);
    }

    public int run() throws IllegalArgumentException, IllegalStateException {
        int error = reader.readAll(commandText);
        if (error != NO_POSITION) {
            commandText.wipe();
            lastErrorPosition = error;
            throw new IllegalArgumentException();
        }
        history.note(marsh);
        int failed = carryOutAll();
        commandText.wipe();
        if (failed != NO_POSITION) {
            history.putBack(marsh);
            lastFailedCommand = failed;
            throw new IllegalStateException();
        }
        history.confirm();
        return reader.count;
    }

    public int errorPosition() throws NoSuchElementException {
        if (lastErrorPosition == NO_POSITION) {
            throw new NoSuchElementException();
        }
        return lastErrorPosition;
    }

    public int failedCommand() throws NoSuchElementException {
        if (lastFailedCommand == NO_POSITION) {
            throw new NoSuchElementException();
        }
        return lastFailedCommand;
    }

    // ---- line, statistics, undo, snapshot

    public int describeRow(int y) throws IndexOutOfBoundsException {
        if (y < 0 || y >= SIDE) {
            throw new IndexOutOfBoundsException();
        }
        line.wipe();
        for (int x = 0; x < SIDE; x++) {
            line.put(marsh.signOf(y * SIDE + x));
        }
        return line.length;
    }

    public int describePlan(int plan) throws IndexOutOfBoundsException {
        int existing = existingPlan(plan);
        line.wipe();
        marsh.plans.writeTo(line, existing);
        return line.length;
    }

    public char lineAt(int index) throws IndexOutOfBoundsException {
        if (index < 0 || index >= line.length) {
            throw new IndexOutOfBoundsException();
        }
        return line.signAt(index);
    }

    public double meanFares() throws ArithmeticException {
        if (marsh.fleet.count == 0) {
            throw new ArithmeticException();
        }
        return (double) marsh.fleet.presentFares() / (double) marsh.fleet.count;
    }

    public float passableShare() {
        return (float) marsh.reeds.openCells() / (float) CELLS;
    }

    public boolean isConsistent() {
        return waysAgree()
                && marsh.reeds.oddByCells() == marsh.reeds.oddByRows()
                && reductionsAgree()
                && pairingsAgree()
                && fareTotal() == fareTotalByBoats();
    }

    public int undo() throws IllegalStateException {
        if (history.count == 0) {
            throw new IllegalStateException();
        }
        history.takeBack(marsh);
        return history.count;
    }

    public int save() {
        snapshot.copyFrom(marsh);
        snapshotTaken = true;
        return marsh.fleet.count;
    }

    public int restore() throws IllegalStateException {
        if (!snapshotTaken) {
            throw new IllegalStateException();
        }
        marsh.copyFrom(snapshot);
        history.forget();
        return marsh.fleet.count;
    }

    // ---- what several calls need

    /** Ends a change: throws what its answer names, or makes it one that can be undone. */
    private int settled(int answer) {
        switch (answer) {
            case OUT_OF_BOUNDS:
                throw new IndexOutOfBoundsException();
            case NO_SUCH_ELEMENT:
                throw new NoSuchElementException();
            case ILLEGAL_STATE:
                throw new IllegalStateException();
            case ILLEGAL_ARGUMENT:
                throw new IllegalArgumentException();
            case UNSUPPORTED:
                throw new UnsupportedOperationException();
            default:
                history.confirm();
                return answer;
        }
    }

    private static int existingCell(int x, int y) {
        int cell = cellAt(x, y);
        if (cell == NOWHERE) {
            throw new IndexOutOfBoundsException();
        }
        return cell;
    }

    private static int existingPlan(int plan) {
        if (!isPlan(plan)) {
            throw new IndexOutOfBoundsException();
        }
        return plan;
    }

    private int existingPlace(int boat) {
        int place = marsh.fleet.placeOf(boat);
        if (place == NO_PLACE) {
            throw new NoSuchElementException();
        }
        return place;
    }

    private static int reached(int distance) {
        if (distance >= FAR) {
            throw new NoSuchElementException();
        }
        return distance;
    }

    private void requireEvenLandings() {
        if (marsh.landings.count % 2 != 0) {
            throw new IllegalStateException();
        }
    }

    private int carryOutAll() {
        for (int index = 0; index < reader.count; index++) {
            if (carryOut(COMMANDS[reader.kinds[index]], reader.starts[index]) < 0) {
                return index;
            }
        }
        return NO_POSITION;
    }

    private int carryOut(Command command, int start) {
        int first = command.number(commandText, start, 0);
        int second = command.number(commandText, start, 1);
        switch (command) {
            case REED:
                return marsh.growReed(first, second);
            case BREAK:
                return marsh.snapReed(first, second);
            case BOAT:
                return marsh.launchBoat(first, second);
            case PLAN:
                return rewritePlan(first, start + command.pattern.length());
            case MIRROR:
                return marsh.plans.putMirrored(first, second);
            case BACK:
                return marsh.plans.putWayBack(first, second);
            case REDUCE:
                return marsh.plans.shorten(first);
            case SAIL:
                return marsh.sailBy(first, second);
            case WAY:
                int third = command.number(commandText, start, 2);
                int fourth = command.number(commandText, start, 3);
                return marsh.layWay(ways, first, second, third, fourth);
            case LANDING:
                return marsh.landings.build(first, second);
            case FOG:
                return marsh.moveFog(first);
            default:
                return UNSUPPORTED;
        }
    }

    private int rewritePlan(int plan, int firstMove) {
        int answer = marsh.plans.empty(plan);
        int end = commandText.endOfMoves(firstMove);
        for (int at = firstMove; at < end && answer >= 0; at++) {
            answer = marsh.plans.extend(plan, commandText.signAt(at));
        }
        return answer;
    }

    private boolean waysAgree() {
        for (int place = 0; place < marsh.fleet.count; place++) {
            int start = marsh.fleet.cells[place];
            ways.setPlainTolls(marsh);
            ways.searchByBreadth(start);
            ways.searchByRounds(start);
            if (!ways.resultsAgree()) {
                return false;
            }
            ways.setFogTolls(marsh);
            ways.searchByHeap(start);
            ways.searchByRounds(start);
            if (!ways.resultsAgree()) {
                return false;
            }
        }
        return true;
    }

    private boolean reductionsAgree() {
        for (int plan = 0; plan < PLANS; plan++) {
            if (marsh.plans.lengthByStack(plan, spareMoves) != marsh.plans.lengthByPairs(plan, spareMoves)) {
                return false;
            }
        }
        return true;
    }

    private boolean pairingsAgree() {
        return marsh.landings.count % 2 != 0
                || pairing.costByTable(marsh.landings) == pairing.costByTrying(marsh.landings);
    }

    // ---- cells and moves

    private static int cellAt(int x, int y) {
        boolean exists = x >= 0 && x < SIDE && y >= 0 && y < SIDE;
        return exists ? y * SIDE + x : NOWHERE;
    }

    private static int column(int cell) {
        return cell % SIDE;
    }

    private static int row(int cell) {
        return cell / SIDE;
    }

    private static int image(int cell) {
        return cell + SIDE - 1 - 2 * (cell % SIDE);
    }

    private static int neighbour(int cell, int move) {
        int x = cell % SIDE + STEP_X[move & 3];
        int y = cell / SIDE + STEP_Y[move & 3];
        return cellAt(x, y);
    }

    private static int distance(int cell, int other) {
        return Math.abs(column(cell) - column(other)) + Math.abs(row(cell) - row(other));
    }

    private static char letter(int move) {
        return LETTERS[move & 3];
    }

    private static int moveOf(char letter) {
        for (int move = 0; move < MOVES; move++) {
            if (LETTERS[move] == letter) {
                return move;
            }
        }
        return NO_POSITION;
    }

    private static int opposite(int move) {
        return move ^ 1;
    }

    private static int mirrored(int move) {
        return move < LEFT ? move : opposite(move);
    }

    private static boolean isPlan(int plan) {
        return plan >= 0 && plan < PLANS;
    }

    /** The reeds in the cells of the marsh. */
    private static final class Reeds {
        final int[] states = new int[CELLS];
        int count;
        int broken;

        void copyFrom(Reeds other) {
            System.arraycopy(other.states, 0, states, 0, CELLS);
            count = other.count;
            broken = other.broken;
        }

        int stateOf(int cell) {
            return states[cell];
        }

        int standingIn(int cell) {
            return states[cell] == STANDING ? 1 : 0;
        }

        int standingInPair(int cell) {
            int other = image(cell);
            return other == cell ? standingIn(cell) : standingIn(cell) + standingIn(other);
        }

        boolean isOpen(int cell) {
            return states[cell] != STANDING && states[image(cell)] != STANDING;
        }

        int openCells() {
            int open = 0;
            for (int cell = 0; cell < CELLS; cell++) {
                open += isOpen(cell) ? 1 : 0;
            }
            return open;
        }

        int oddByCells() {
            int odd = 0;
            for (int cell = 0; cell < CELLS; cell++) {
                odd += standingIn(cell) == 1 && standingIn(image(cell)) == 0 ? 1 : 0;
            }
            return odd;
        }

        int oddByRows() {
            int odd = 0;
            for (int y = 0; y < SIDE; y++) {
                int reeds = 0;
                int reversed = 0;
                for (int x = 0; x < SIDE; x++) {
                    int standing = standingIn(y * SIDE + x);
                    reeds |= standing << x;
                    reversed |= standing << (SIDE - 1 - x);
                }
                odd += Integer.bitCount(reeds & ~reversed);
            }
            return odd;
        }

        int grow(int cell) {
            states[cell] = STANDING;
            count++;
            return count;
        }

        int snap(int cell) {
            states[cell] = BROKEN;
            broken++;
            return broken;
        }

        int cut(int cell) {
            broken -= states[cell] == BROKEN ? 1 : 0;
            states[cell] = NO_REED;
            count--;
            return count;
        }
    }

    /** The boats, in the ascending order of their numbers, and what they have taken and met. */
    private static final class Fleet {
        final int[] numbers = new int[MOST_BOATS];
        final int[] cells = new int[MOST_BOATS];
        final int[] fares = new int[MOST_BOATS];
        int count;
        int nextNumber;
        int total;
        int removedFares;
        int meetings;

        void copyFrom(Fleet other) {
            System.arraycopy(other.numbers, 0, numbers, 0, MOST_BOATS);
            System.arraycopy(other.cells, 0, cells, 0, MOST_BOATS);
            System.arraycopy(other.fares, 0, fares, 0, MOST_BOATS);
            count = other.count;
            nextNumber = other.nextNumber;
            total = other.total;
            removedFares = other.removedFares;
            meetings = other.meetings;
        }

        int placeOf(int boat) {
            for (int place = 0; place < count; place++) {
                if (numbers[place] == boat) {
                    return place;
                }
            }
            return NO_PLACE;
        }

        int placeIn(int cell) {
            for (int place = 0; place < count; place++) {
                if (cells[place] == cell) {
                    return place;
                }
            }
            return NO_PLACE;
        }

        /** Whether a boat, or the image of one, is in a cell; the boat at one place does not count. */
        boolean occupies(int cell, int exceptPlace) {
            for (int place = 0; place < count; place++) {
                boolean here = cells[place] == cell || image(cells[place]) == cell;
                if (here && place != exceptPlace) {
                    return true;
                }
            }
            return false;
        }

        int placeOfRank(int rank) {
            for (int place = 0; place < count; place++) {
                if (rankOf(place) == rank) {
                    return place;
                }
            }
            return NO_PLACE;
        }

        private int rankOf(int place) {
            int ahead = 0;
            for (int other = 0; other < count; other++) {
                boolean more = fares[other] > fares[place];
                boolean sameButEarlier = fares[other] == fares[place] && other < place;
                ahead += more || sameButEarlier ? 1 : 0;
            }
            return ahead;
        }

        int presentFares() {
            int sum = 0;
            for (int place = 0; place < count; place++) {
                sum += fares[place];
            }
            return sum;
        }

        int launch(int cell) {
            int number = nextNumber;
            if (count < MOST_BOATS) {
                numbers[count] = number;
                cells[count] = cell;
                fares[count] = 0;
                count++;
                nextNumber++;
            }
            return number;
        }

        int dismiss(int boat) {
            int place = placeOf(boat);
            if (place == NO_PLACE) {
                return NO_SUCH_ELEMENT;
            }
            int taken = fares[place];
            removedFares += taken;
            for (int later = place + 1; later < count; later++) {
                numbers[later - 1] = numbers[later];
                cells[later - 1] = cells[later];
                fares[later - 1] = fares[later];
            }
            count--;
            return taken;
        }

        void step(int place, int move) {
            int next = neighbour(cells[place], move);
            if (next == NOWHERE) {
                return;
            }
            if (column(next) == MIDDLE && column(cells[place]) != MIDDLE) {
                meetings++;
            }
            cells[place] = next;
        }

        void pay(int place, int fare) {
            fares[place] += fare;
            total += fare;
        }
    }

    /** The moves of the plans, each plan in its own stretch of one row. */
    private static final class Plans {
        final int[] moves = new int[PLANS * MOST_MOVES];
        final int[] lengths = new int[PLANS];

        void copyFrom(Plans other) {
            System.arraycopy(other.moves, 0, moves, 0, PLANS * MOST_MOVES);
            System.arraycopy(other.lengths, 0, lengths, 0, PLANS);
        }

        int moveIn(int plan, int position) {
            return moves[plan * MOST_MOVES + position];
        }

        private void setMove(int plan, int position, int move) {
            moves[plan * MOST_MOVES + position] = move;
        }

        int extend(int plan, char letter) {
            if (!isPlan(plan)) {
                return OUT_OF_BOUNDS;
            }
            int move = moveOf(letter);
            if (move == NO_POSITION) {
                return ILLEGAL_ARGUMENT;
            }
            if (lengths[plan] >= MOST_MOVES) {
                return ILLEGAL_STATE;
            }
            setMove(plan, lengths[plan], move);
            lengths[plan]++;
            return lengths[plan];
        }

        int empty(int plan) {
            if (!isPlan(plan)) {
                return OUT_OF_BOUNDS;
            }
            int removed = lengths[plan];
            lengths[plan] = 0;
            return removed;
        }

        int putMirrored(int plan, int target) {
            if (!isPlan(plan) || !isPlan(target)) {
                return OUT_OF_BOUNDS;
            }
            int length = lengths[plan];
            for (int position = 0; position < length; position++) {
                setMove(target, position, mirrored(moveIn(plan, position)));
            }
            lengths[target] = length;
            return length;
        }

        int putWayBack(int plan, int target) {
            if (!isPlan(plan) || !isPlan(target)) {
                return OUT_OF_BOUNDS;
            }
            int length = lengths[plan];
            // Both ends are read before either is written: the target may be the plan itself.
            for (int front = 0; front < length - front; front++) {
                int back = length - 1 - front;
                int first = moveIn(plan, front);
                int last = moveIn(plan, back);
                setMove(target, front, opposite(last));
                setMove(target, back, opposite(first));
            }
            lengths[target] = length;
            return length;
        }

        int shorten(int plan) {
            if (!isPlan(plan)) {
                return OUT_OF_BOUNDS;
            }
            lengths[plan] = stackMoves(plan, moves, plan * MOST_MOVES);
            return lengths[plan];
        }

        /** The length that shorten() would leave, in a row that is lent. */
        int lengthByStack(int plan, int[] lent) {
            return stackMoves(plan, lent, 0);
        }

        // The stack may lie over the moves themselves: it never holds more than have been looked at.
        private int stackMoves(int plan, int[] stack, int bottom) {
            int left = 0;
            for (int position = 0; position < lengths[plan]; position++) {
                int move = moveIn(plan, position);
                if (left > 0 && stack[bottom + left - 1] == opposite(move)) {
                    left--;
                } else {
                    stack[bottom + left] = move;
                    left++;
                }
            }
            return left;
        }

        int lengthByPairs(int plan, int[] rest) {
            int left = lengths[plan];
            System.arraycopy(moves, plan * MOST_MOVES, rest, 0, left);
            int pair = firstPair(rest, left);
            for (int round = 0; round < MOST_MOVES && pair != NO_POSITION; round++) {
                for (int later = pair + 2; later < left; later++) {
                    rest[later - 2] = rest[later];
                }
                left -= 2;
                pair = firstPair(rest, left);
            }
            return left;
        }

        private static int firstPair(int[] row, int length) {
            for (int position = 0; position + 1 < length; position++) {
                if (row[position] == opposite(row[position + 1])) {
                    return position;
                }
            }
            return NO_POSITION;
        }

        boolean mirrorEachOther(int plan, int other) {
            if (lengths[plan] != lengths[other]) {
                return false;
            }
            for (int position = 0; position < lengths[plan]; position++) {
                if (moveIn(plan, position) != mirrored(moveIn(other, position))) {
                    return false;
                }
            }
            return true;
        }

        void writeTo(Text text, int plan) {
            int equal = 0;
            for (int position = 0; position < lengths[plan]; position++) {
                int move = moveIn(plan, position);
                equal++;
                if (position + 1 == lengths[plan] || moveIn(plan, position + 1) != move) {
                    text.put(letter(move));
                    text.putNumberAboveOne(equal);
                    equal = 0;
                }
            }
        }
    }

    /** The cells of the landings. */
    private static final class Landings {
        final int[] cells = new int[MOST_LANDINGS];
        int count;

        void copyFrom(Landings other) {
            System.arraycopy(other.cells, 0, cells, 0, MOST_LANDINGS);
            count = other.count;
        }

        int build(int x, int y) {
            int cell = cellAt(x, y);
            if (cell == NOWHERE) {
                return OUT_OF_BOUNDS;
            }
            if (count >= MOST_LANDINGS || isIn(cell)) {
                return ILLEGAL_STATE;
            }
            cells[count] = cell;
            count++;
            return count - 1;
        }

        private boolean isIn(int cell) {
            for (int landing = 0; landing < count; landing++) {
                if (cells[landing] == cell) {
                    return true;
                }
            }
            return false;
        }

        int tearDown(int landing) {
            if (landing < 0 || landing >= count) {
                return OUT_OF_BOUNDS;
            }
            for (int later = landing + 1; later < count; later++) {
                cells[later - 1] = cells[later];
            }
            count--;
            return count;
        }

        int costOfPair(int landing, int other) {
            int straight = distance(cells[landing], cells[other]);
            int mirroredWay = distance(cells[landing], image(cells[other]));
            return Math.min(straight, mirroredWay);
        }
    }

    /** Everything that changes can change: what is undone, saved and restored. */
    private static final class Marsh {
        final Reeds reeds = new Reeds();
        final Fleet fleet = new Fleet();
        final Plans plans = new Plans();
        final Landings landings = new Landings();
        int fogSide;

        void copyFrom(Marsh other) {
            reeds.copyFrom(other.reeds);
            fleet.copyFrom(other.fleet);
            plans.copyFrom(other.plans);
            landings.copyFrom(other.landings);
            fogSide = other.fogSide;
        }

        int growReed(int x, int y) {
            int cell = cellAt(x, y);
            if (cell == NOWHERE) {
                return OUT_OF_BOUNDS;
            }
            boolean hasRoom = reeds.stateOf(cell) == NO_REED && !fleet.occupies(cell, NO_PLACE);
            if (!hasRoom || reeds.count >= MOST_REEDS) {
                return ILLEGAL_STATE;
            }
            return reeds.grow(cell);
        }

        int snapReed(int x, int y) {
            int cell = cellAt(x, y);
            if (cell == NOWHERE) {
                return OUT_OF_BOUNDS;
            }
            if (reeds.stateOf(cell) == NO_REED) {
                return NO_SUCH_ELEMENT;
            }
            if (reeds.stateOf(cell) == BROKEN) {
                return ILLEGAL_STATE;
            }
            return reeds.snap(cell);
        }

        int cutReed(int x, int y) {
            int cell = cellAt(x, y);
            if (cell == NOWHERE) {
                return OUT_OF_BOUNDS;
            }
            if (reeds.stateOf(cell) == NO_REED) {
                return NO_SUCH_ELEMENT;
            }
            return reeds.cut(cell);
        }

        int moveFog(int side) {
            if (side < 0 || side > 2) {
                return ILLEGAL_ARGUMENT;
            }
            int previous = fogSide;
            fogSide = side;
            return previous;
        }

        boolean isFoggy(int cell) {
            return fogSide == 1 && column(cell) < MIDDLE || fogSide == 2 && column(cell) > MIDDLE;
        }

        int launchBoat(int x, int y) {
            int cell = cellAt(x, y);
            if (cell == NOWHERE) {
                return OUT_OF_BOUNDS;
            }
            if (fleet.count >= MOST_BOATS) {
                return ILLEGAL_STATE;
            }
            if (!reeds.isOpen(cell) || fleet.occupies(cell, NO_PLACE)) {
                return UNSUPPORTED;
            }
            return fleet.launch(cell);
        }

        int blockedPosition(int place, int plan) {
            int cell = fleet.cells[place];
            for (int position = 0; position < plans.lengths[plan]; position++) {
                cell = neighbour(cell, plans.moveIn(plan, position));
                if (cell == NOWHERE || !reeds.isOpen(cell) || fleet.occupies(cell, place)) {
                    return position;
                }
            }
            return NO_POSITION;
        }

        int sailBy(int boat, int plan) {
            int place = fleet.placeOf(boat);
            if (place == NO_PLACE) {
                return NO_SUCH_ELEMENT;
            }
            if (!isPlan(plan)) {
                return OUT_OF_BOUNDS;
            }
            if (blockedPosition(place, plan) != NO_POSITION) {
                return UNSUPPORTED;
            }
            int length = plans.lengths[plan];
            for (int position = 0; position < length; position++) {
                fleet.step(place, plans.moveIn(plan, position));
            }
            int fare = length % 2 == 0 ? length + 1 : length;
            fleet.pay(place, fare);
            return fare;
        }

        int layWay(Ways ways, int boat, int x, int y, int plan) {
            int place = fleet.placeOf(boat);
            if (place == NO_PLACE) {
                return NO_SUCH_ELEMENT;
            }
            int goal = cellAt(x, y);
            if (goal == NOWHERE) {
                return OUT_OF_BOUNDS;
            }
            int start = fleet.cells[place];
            // Searched from the goal, so that each cell knows how many moves are left from it.
            ways.setPlainTolls(this);
            ways.searchByBreadth(goal);
            int length = ways.found[start];
            if (length >= FAR) {
                return NO_SUCH_ELEMENT;
            }
            if (!isPlan(plan)) {
                return OUT_OF_BOUNDS;
            }
            if (length > MOST_MOVES) {
                return ILLEGAL_STATE;
            }
            plans.empty(plan);
            int cell = start;
            for (int left = length - 1; left >= 0 && cell != NOWHERE; left--) {
                int move = ways.firstMoveTo(cell, left);
                plans.extend(plan, letter(move));
                cell = neighbour(cell, move);
            }
            return length;
        }

        char signOf(int cell) {
            int place = fleet.placeIn(cell);
            if (place != NO_PLACE) {
                return (char) ('0' + fleet.numbers[place] % 10);
            }
            if (fleet.placeIn(image(cell)) != NO_PLACE) {
                return '~';
            }
            switch (reeds.stateOf(cell)) {
                case STANDING:
                    return '#';
                case BROKEN:
                    return '\'';
                default:
                    return '.';
            }
        }
    }

    /**
     * The states before the latest changes, in a ring. One slot more than can be undone is free
     * for the state before the change that is under way, so that a refused change loses none.
     */
    private static final class History {
        private static final int SLOTS = MOST_UNDOS + 1;
        private final Marsh[] slots = new Marsh[SLOTS];
        private int free;
        int count;

        History() {
            for (int slot = 0; slot < SLOTS; slot++) {
                slots[slot] = new Marsh();
            }
        }

        void note(Marsh marsh) {
            slots[free].copyFrom(marsh);
        }

        void putBack(Marsh marsh) {
            marsh.copyFrom(slots[free]);
        }

        void confirm() {
            free = (free + 1) % SLOTS;
            count = Math.min(count + 1, MOST_UNDOS);
        }

        void takeBack(Marsh marsh) {
            free = (free + SLOTS - 1) % SLOTS;
            count--;
            marsh.copyFrom(slots[free]);
        }

        void forget() {
            count = 0;
        }
    }

    /** Searches from a cell over all cells, with rows that every search uses again. */
    private static final class Ways {
        /** For each cell what a move to it costs, or BLOCKED. */
        private final int[] tolls = new int[CELLS];
        private final int[] queue = new int[CELLS];
        private final int[] heap = new int[HEAP_ROOM];
        private int heapSize;
        /** For each cell the result of a search by breadth or by heap, FAR if there is no way. */
        final int[] found = new int[CELLS];
        /** For each cell the result of a search by rounds, FAR if there is no way. */
        final int[] improved = new int[CELLS];

        void setPlainTolls(Marsh marsh) {
            for (int cell = 0; cell < CELLS; cell++) {
                tolls[cell] = marsh.reeds.isOpen(cell) ? 1 : BLOCKED;
            }
        }

        void setFogTolls(Marsh marsh) {
            for (int cell = 0; cell < CELLS; cell++) {
                int toll = marsh.isFoggy(cell) ? 2 : 1;
                tolls[cell] = marsh.reeds.isOpen(cell) ? toll : BLOCKED;
            }
        }

        void setReedTolls(Marsh marsh) {
            for (int cell = 0; cell < CELLS; cell++) {
                tolls[cell] = marsh.reeds.standingInPair(cell);
            }
        }

        private void begin(int[] distances, int start) {
            for (int cell = 0; cell < CELLS; cell++) {
                distances[cell] = FAR;
            }
            // planWay() may start at a goal to which no way can come.
            if (tolls[start] != BLOCKED) {
                distances[start] = 0;
            }
        }

        void searchByBreadth(int start) {
            begin(found, start);
            queue[0] = start;
            int filled = found[start] == 0 ? 1 : 0;
            for (int taken = 0; taken < CELLS && taken < filled; taken++) {
                filled = spread(queue[taken], filled);
            }
        }

        /** Puts the cells that a cell leads to first into the queue; answers how many are in it now. */
        private int spread(int cell, int filled) {
            int end = filled;
            for (int move = 0; move < MOVES; move++) {
                int next = neighbour(cell, move);
                if (next != NOWHERE && tolls[next] != BLOCKED && found[next] == FAR && end < CELLS) {
                    found[next] = found[cell] + 1;
                    queue[end] = next;
                    end++;
                }
            }
            return end;
        }

        void searchByHeap(int start) {
            begin(found, start);
            heapSize = 0;
            if (found[start] == 0) {
                pushEntry(start);
            }
            for (int step = 0; step < HEAP_ROOM && heapSize > 0; step++) {
                int entry = popEntry();
                int cell = entry % CELLS;
                // An entry that has been improved since it was put into the heap is out of date.
                if (entry / CELLS == found[cell]) {
                    relax(cell);
                }
            }
        }

        private void relax(int cell) {
            for (int move = 0; move < MOVES; move++) {
                int next = neighbour(cell, move);
                if (next != NOWHERE && tolls[next] != BLOCKED && found[cell] + tolls[next] < found[next]) {
                    found[next] = found[cell] + tolls[next];
                    pushEntry(found[next] * CELLS + next);
                }
            }
        }

        private void pushEntry(int entry) {
            if (heapSize >= HEAP_ROOM) {
                return;
            }
            int at = heapSize;
            heapSize++;
            while (at > 0 && heap[(at - 1) / 2] > entry) {
                heap[at] = heap[(at - 1) / 2];
                at = (at - 1) / 2;
            }
            heap[at] = entry;
        }

        private int popEntry() {
            int least = heap[0];
            heapSize--;
            int entry = heap[heapSize];
            int at = 0;
            int child = lesserChild(at);
            while (child < heapSize && heap[child] < entry) {
                heap[at] = heap[child];
                at = child;
                child = lesserChild(at);
            }
            heap[at] = entry;
            return least;
        }

        private int lesserChild(int at) {
            int child = 2 * at + 1;
            return child + 1 < heapSize && heap[child + 1] < heap[child] ? child + 1 : child;
        }

        void searchByRounds(int start) {
            begin(improved, start);
            boolean changed = true;
            for (int round = 0; round < CELLS && changed; round++) {
                changed = false;
                for (int cell = 0; cell < CELLS; cell++) {
                    changed = improveFromNeighbours(cell) || changed;
                }
            }
        }

        private boolean improveFromNeighbours(int cell) {
            if (tolls[cell] == BLOCKED) {
                return false;
            }
            boolean changed = false;
            for (int move = 0; move < MOVES; move++) {
                int from = neighbour(cell, move);
                if (from != NOWHERE && improved[from] + tolls[cell] < improved[cell]) {
                    improved[cell] = improved[from] + tolls[cell];
                    changed = true;
                }
            }
            return changed;
        }

        boolean resultsAgree() {
            for (int cell = 0; cell < CELLS; cell++) {
                if (found[cell] != improved[cell]) {
                    return false;
                }
            }
            return true;
        }

        /** The first move, in the order U, D, L, R, to a cell with this result. */
        int firstMoveTo(int cell, int result) {
            for (int move = 0; move < MOVES; move++) {
                int next = neighbour(cell, move);
                if (next != NOWHERE && found[next] == result) {
                    return move;
                }
            }
            return 0;
        }
    }

    /** Finds the best pairing, with rows that every search uses again. */
    private static final class Pairing {
        /** For each landing and each other one the cost of the two as partners. */
        private final int[] costs = new int[MOST_LANDINGS * MOST_LANDINGS];
        /** For each set of landings, a bit for each, the smallest cost of pairing them. */
        private final int[] best = new int[LANDING_SETS];

        int costByTable(Landings landings) {
            fillCosts(landings);
            fillTable(landings.count);
            return best[allOf(landings.count)];
        }

        int costByTrying(Landings landings) {
            fillCosts(landings);
            return leastCost(costs, allOf(landings.count), 0);
        }

        int bestPartner(Landings landings, int landing) {
            fillCosts(landings);
            fillTable(landings.count);
            int set = allOf(landings.count);
            for (int pair = 0; pair < MOST_LANDINGS / 2 && set != 0; pair++) {
                int first = firstOf(set);
                int partner = firstBestPartner(set);
                if (first == landing) {
                    return partner;
                }
                if (partner == landing) {
                    return first;
                }
                set = without(set, first, partner);
            }
            return landing;
        }

        private void fillCosts(Landings landings) {
            for (int landing = 0; landing < landings.count; landing++) {
                for (int other = 0; other < landings.count; other++) {
                    costs[landing * MOST_LANDINGS + other] = landings.costOfPair(landing, other);
                }
            }
        }

        private void fillTable(int count) {
            best[0] = 0;
            for (int set = 1; set <= allOf(count); set++) {
                int first = firstOf(set);
                int least = FAR;
                // A set that holds an odd number of landings comes to FAR, as no choice costs less.
                for (int partner = first + 1; partner < count; partner++) {
                    if (holds(set, partner)) {
                        least = Math.min(least, costOfChoice(set, first, partner));
                    }
                }
                best[set] = least;
            }
        }

        private int costOfChoice(int set, int first, int partner) {
            return costs[first * MOST_LANDINGS + partner] + best[without(set, first, partner)];
        }

        private int firstBestPartner(int set) {
            int first = firstOf(set);
            for (int partner = first + 1; partner < MOST_LANDINGS; partner++) {
                if (holds(set, partner) && costOfChoice(set, first, partner) == best[set]) {
                    return partner;
                }
            }
            return first;
        }

        private static int leastCost(int[] costs, int set, int depth) {
            if (set == 0 || depth >= MOST_LANDINGS / 2) {
                return 0;
            }
            int first = firstOf(set);
            int least = FAR;
            for (int partner = first + 1; partner < MOST_LANDINGS; partner++) {
                if (holds(set, partner)) {
                    int rest = leastCost(costs, without(set, first, partner), depth + 1);
                    least = Math.min(least, costs[first * MOST_LANDINGS + partner] + rest);
                }
            }
            return least;
        }

        private static int allOf(int count) {
            return (1 << count) - 1;
        }

        private static boolean holds(int set, int landing) {
            return (set & (1 << landing)) != 0;
        }

        private static int without(int set, int landing, int other) {
            return set & ~(1 << landing) & ~(1 << other);
        }

        private static int firstOf(int set) {
            for (int landing = 0; landing < MOST_LANDINGS - 1; landing++) {
                if (holds(set, landing)) {
                    return landing;
                }
            }
            return MOST_LANDINGS - 1;
        }
    }

    /** A text of a few characters: the command text, or the line. */
    private static final class Text {
        private final char[] signs = new char[MOST_SIGNS];
        int length;

        int put(char sign) {
            if (length < MOST_SIGNS) {
                signs[length] = sign;
                length++;
            }
            return length;
        }

        void putNumberAboveOne(int number) {
            if (number >= 10) {
                put((char) ('0' + number / 10 % 10));
            }
            if (number > 1) {
                put((char) ('0' + number % 10));
            }
        }

        void wipe() {
            length = 0;
        }

        /** The character at an index; behind the end one that no text holds. */
        char signAt(int index) {
            return index >= 0 && index < length ? signs[index] : (char) 0;
        }

        int endOfMoves(int from) {
            int end = from;
            while (end < length && moveOf(signAt(end)) != NO_POSITION) {
                end++;
            }
            return end;
        }
    }

    /** The commands with their patterns, in which # is a digit; moves may follow that of PLAN. */
    private enum Command {
        REED("reed ##"),
        BREAK("break ##"),
        BOAT("boat ##"),
        PLAN("plan #="),
        MIRROR("mirror ##"),
        BACK("back ##"),
        REDUCE("reduce #"),
        SAIL("sail # #"),
        WAY("way #>## #"),
        LANDING("landing ##"),
        FOG("fog #");

        final String pattern;

        Command(String pattern) {
            this.pattern = pattern;
        }

        /** How many characters of the text, from a start, follow the pattern. */
        int matchedSigns(Text text, int start) {
            int matched = 0;
            while (matched < pattern.length() && fits(pattern.charAt(matched), text.signAt(start + matched))) {
                matched++;
            }
            return matched;
        }

        private static boolean fits(char wanted, char sign) {
            return wanted == '#' ? sign >= '0' && sign <= '9' : sign == wanted;
        }

        int endIn(Text text, int start) {
            int end = start + pattern.length();
            return this == PLAN ? text.endOfMoves(end) : end;
        }

        /** The number of the command at an index, or 0 if it has no more. */
        int number(Text text, int start, int index) {
            int seen = 0;
            for (int at = 0; at < pattern.length(); at++) {
                if (pattern.charAt(at) == '#') {
                    if (seen == index) {
                        return text.signAt(start + at) - '0';
                    }
                    seen++;
                }
            }
            return 0;
        }
    }

    /** Finds the commands of a command text and where they start. */
    private static final class CommandReader {
        /** For each command its index in COMMANDS. */
        final int[] kinds = new int[MOST_SIGNS];
        final int[] starts = new int[MOST_SIGNS];
        int count;

        /** Reads a text; answers its error position, or NO_POSITION if it is a command text. */
        int readAll(Text text) {
            count = 0;
            int start = 0;
            while (count < MOST_SIGNS) {
                int kind = kindAt(text, start);
                if (kind == NO_POSITION) {
                    return start + longestMatch(text, start);
                }
                kinds[count] = kind;
                starts[count] = start;
                count++;
                int end = COMMANDS[kind].endIn(text, start);
                if (end == text.length) {
                    return NO_POSITION;
                }
                if (text.signAt(end) != ';') {
                    return end;
                }
                start = end + 1;
            }
            return start;
        }

        private static int kindAt(Text text, int start) {
            for (int kind = 0; kind < COMMANDS.length; kind++) {
                if (COMMANDS[kind].matchedSigns(text, start) == COMMANDS[kind].pattern.length()) {
                    return kind;
                }
            }
            return NO_POSITION;
        }

        private static int longestMatch(Text text, int start) {
            int longest = 0;
            for (int kind = 0; kind < COMMANDS.length; kind++) {
                longest = Math.max(longest, COMMANDS[kind].matchedSigns(text, start));
            }
            return longest;
        }
    }
}
