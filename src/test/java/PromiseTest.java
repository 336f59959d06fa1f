import java.lang.reflect.Field;
import java.util.ArrayList;
import java.util.List;
import java.util.NoSuchElementException;
import java.util.function.Supplier;

/** For each promise of the document ordinary inputs, the edges that it names, and wrong inputs. */
public final class PromiseTest {
    private static final Class<? extends RuntimeException> BOUNDS = IndexOutOfBoundsException.class;
    private static final Class<? extends RuntimeException> MISSING = NoSuchElementException.class;
    private static final Class<? extends RuntimeException> STATE = IllegalStateException.class;
    private static final Class<? extends RuntimeException> ARGUMENT = IllegalArgumentException.class;
    private static final Class<? extends RuntimeException> UNSUPPORTED = UnsupportedOperationException.class;
    private static final int[] WRONG = {-1, 9, Integer.MIN_VALUE, Integer.MAX_VALUE};

    private static int promise;
    private static int wrong;
    private static MirrorFerry ferry;

    public static void main(String[] args) {
        Runnable[] promises = {
            PromiseTest::newObject, PromiseTest::addReed, PromiseTest::breakReed, PromiseTest::removeReed,
            PromiseTest::hasReed, PromiseTest::isPassable, PromiseTest::reedCount, PromiseTest::brokenCount,
            PromiseTest::oddReeds, PromiseTest::oddReedsByRows, PromiseTest::setFog, PromiseTest::fog,
            PromiseTest::addBoat, PromiseTest::removeBoat, PromiseTest::boatCount, PromiseTest::boatAt,
            PromiseTest::columnOf, PromiseTest::rowOf, PromiseTest::imageColumnOf, PromiseTest::faresOf,
            PromiseTest::boatAtRank, PromiseTest::addMove, PromiseTest::clearPlan, PromiseTest::mirror,
            PromiseTest::reverse, PromiseTest::reduce, PromiseTest::reducedLength, PromiseTest::planLength,
            PromiseTest::moveAt, PromiseTest::areMirrored, PromiseTest::sail, PromiseTest::blockedMove,
            PromiseTest::wayLength, PromiseTest::wayLengthByRounds, PromiseTest::wayCost,
            PromiseTest::wayCostByRounds, PromiseTest::breakingEffort, PromiseTest::planWay,
            PromiseTest::addLanding, PromiseTest::removeLanding, PromiseTest::landingCount,
            PromiseTest::pairingCost, PromiseTest::pairingCostBySearch, PromiseTest::partnerOf,
            PromiseTest::fareTotal, PromiseTest::fareTotalByBoats, PromiseTest::meetingCount,
            PromiseTest::append, PromiseTest::run, PromiseTest::errorPosition, PromiseTest::failedCommand,
            PromiseTest::describeRow, PromiseTest::describePlan, PromiseTest::lineAt, PromiseTest::meanFares,
            PromiseTest::passableShare, PromiseTest::isConsistent, PromiseTest::undo, PromiseTest::save,
            PromiseTest::restore};
        for (int i = 0; i < promises.length; i++) {
            promise = i + 1;
            ferry = new MirrorFerry();
            promises[i].run();
        }
        System.out.println(wrong == 0 ? promises.length + " promises hold" : wrong + " answers are not as due");
        System.exit(wrong == 0 ? 0 : 1);
    }

    // ---- what the tests are told with

    private static void due(Object got, Object want) {
        if (!want.equals(got)) {
            wrong++;
            int line = StackWalker.getInstance().walk(frames -> frames
                    .filter(f -> !f.getMethodName().matches("due|thrown|lambda.*")).findFirst().get().getLineNumber());
            System.out.println("promise " + promise + ", line " + line + ": answered " + got + ", due is " + want);
        }
    }

    /** A call throws this exception and changes nothing. */
    private static void thrown(Class<? extends RuntimeException> want, Supplier<Object> call) {
        String before = view(ferry);
        Object got;
        try {
            got = call.get();
        } catch (RuntimeException e) {
            got = e.getClass();
        }
        due(got, want);
        due(view(ferry), before);
    }

    private static Object answer(Supplier<Object> query) {
        try {
            return query.get();
        } catch (RuntimeException e) {
            return e.getClass().getSimpleName();
        }
    }

    /** All that the object shows without a change, but for the line. */
    private static String view(MirrorFerry f) {
        return marshView(f) + answer(f::errorPosition) + answer(f::failedCommand);
    }

    private static String marshView(MirrorFerry f) {
        List<Object> all = new ArrayList<>(List.of(f.reedCount(), f.brokenCount(), f.fog(), f.boatCount(),
                f.landingCount(), f.fareTotal(), f.fareTotalByBoats(), f.meetingCount(), f.passableShare()));
        for (int y = 0; y < 9; y++) {
            for (int x = 0; x < 9; x++) {
                all.add((f.hasReed(x, y) ? 2 : 0) + (f.isPassable(x, y) ? 1 : 0));
            }
        }
        for (int place = 0; place < f.boatCount(); place++) {
            int boat = f.boatAt(place);
            all.addAll(List.of(boat, f.columnOf(boat), f.rowOf(boat), f.imageColumnOf(boat), f.faresOf(boat)));
        }
        for (int plan = 0; plan < 6; plan++) {
            all.add(moves(f, plan));
        }
        for (int i = 0; i < f.landingCount(); i++) {
            int landing = i;
            all.add(answer(() -> f.partnerOf(landing)));
        }
        all.add(answer(f::pairingCost));
        return all.toString();
    }

    private static String moves(MirrorFerry f, int plan) {
        StringBuilder moves = new StringBuilder();
        for (int i = 0; i < f.planLength(plan); i++) {
            moves.append(f.moveAt(plan, i));
        }
        return moves.toString();
    }

    private static String moves(int plan) {
        return moves(ferry, plan);
    }

    private static void put(int plan, String moves) {
        ferry.clearPlan(plan);
        for (char move : moves.toCharArray()) {
            ferry.addMove(plan, move);
        }
    }

    private static void type(String text) {
        for (char sign : text.toCharArray()) {
            ferry.append(sign);
        }
    }

    private static int runText(String text) {
        type(text);
        return ferry.run();
    }

    private static String line() {
        StringBuilder line = new StringBuilder();
        while (!(answer(() -> ferry.lineAt(line.length())) instanceof String)) {
            line.append(ferry.lineAt(line.length()));
        }
        return line.toString();
    }

    private static String rowText(int y) {
        due(ferry.describeRow(y), 9);
        return line();
    }

    private static String planText(int plan) {
        int length = ferry.describePlan(plan);
        due(line().length(), length);
        return line();
    }

    private interface CellCall {
        Object on(int x, int y);
    }

    private static void wrongCells(CellCall call) {
        for (int bad : WRONG) {
            thrown(BOUNDS, () -> call.on(bad, 0));
            thrown(BOUNDS, () -> call.on(8, bad));
            thrown(BOUNDS, () -> call.on(bad, bad));
        }
    }

    private interface NumberCall {
        Object on(int number);
    }

    private static void wrongPlans(NumberCall call) {
        for (int bad : new int[] {-1, 6, Integer.MIN_VALUE, Integer.MAX_VALUE}) {
            thrown(BOUNDS, () -> call.on(bad));
        }
    }

    private static void wrongBoats(NumberCall call) {
        for (int bad : new int[] {-1, 77, Integer.MIN_VALUE, Integer.MAX_VALUE}) {
            thrown(MISSING, () -> call.on(bad));
        }
    }

    /** Thirty reeds in the rows from 0 on. */
    private static void thirtyReeds() {
        for (int i = 0; i < 30; i++) {
            due(ferry.addReed(i % 9, i / 9), i + 1);
        }
    }

    /** Walls in the rows 1, 3, 5 and 7, with gaps at their middles and their ends in turn. */
    private static void walls() {
        for (int i = 0; i < 16; i++) {
            ferry.addReed(i % 4 + i / 4 % 2, i / 4 * 2 + 1);
        }
    }

    // ---- the promises

    private static void newObject() {
        due(ferry.reedCount(), 0);
        due(ferry.boatCount(), 0);
        due(ferry.landingCount(), 0);
        due(ferry.fog(), 0);
        due(ferry.brokenCount() + ferry.fareTotal() + ferry.fareTotalByBoats() + ferry.meetingCount(), 0);
        due(ferry.passableShare(), 1f);
        for (int plan = 0; plan < 6; plan++) {
            due(ferry.planLength(plan), 0);
        }
        thrown(STATE, ferry::undo);
        thrown(STATE, ferry::restore);
        thrown(BOUNDS, () -> ferry.lineAt(0));
        due(ferry.addBoat(0, 0), 0);
    }

    private static void addReed() {
        due(ferry.addReed(0, 0), 1);
        due(ferry.addReed(8, 8), 2);
        due(ferry.addReed(8, 0), 3);
        due(ferry.hasReed(8, 8), true);
        wrongCells(ferry::addReed);
        thrown(STATE, () -> ferry.addReed(0, 0));
        ferry.breakReed(0, 0);
        thrown(STATE, () -> ferry.addReed(0, 0));
        ferry.addBoat(1, 4);
        ferry.addBoat(4, 4);
        thrown(STATE, () -> ferry.addReed(1, 4));
        thrown(STATE, () -> ferry.addReed(7, 4));
        thrown(STATE, () -> ferry.addReed(4, 4));
        due(ferry.addReed(1, 5), 4);
        ferry = new MirrorFerry();
        thirtyReeds();
        thrown(STATE, () -> ferry.addReed(8, 8));
        thrown(BOUNDS, () -> ferry.addReed(9, 8));
        ferry.breakReed(0, 0);
        thrown(STATE, () -> ferry.addReed(8, 8));
        ferry.removeReed(0, 0);
        due(ferry.addReed(8, 8), 30);
    }

    private static void breakReed() {
        ferry.addReed(2, 3);
        ferry.addReed(3, 3);
        thrown(MISSING, () -> ferry.breakReed(6, 3));
        due(ferry.breakReed(2, 3), 1);
        due(ferry.breakReed(3, 3), 2);
        due(ferry.hasReed(2, 3), true);
        due(ferry.isPassable(2, 3), true);
        due(ferry.reedCount(), 2);
        thrown(STATE, () -> ferry.breakReed(2, 3));
        wrongCells(ferry::breakReed);
    }

    private static void removeReed() {
        ferry.addReed(2, 3);
        ferry.addReed(3, 2);
        ferry.addReed(4, 4);
        ferry.breakReed(3, 2);
        thrown(MISSING, () -> ferry.removeReed(6, 3));
        due(ferry.removeReed(2, 3), 2);
        due(ferry.brokenCount(), 1);
        due(ferry.removeReed(3, 2), 1);
        due(ferry.brokenCount(), 0);
        thrown(MISSING, () -> ferry.removeReed(3, 2));
        due(ferry.hasReed(2, 3), false);
        due(ferry.addReed(2, 3), 2);
        wrongCells(ferry::removeReed);
    }

    private static void hasReed() {
        due(ferry.hasReed(2, 3), false);
        ferry.addReed(2, 3);
        due(ferry.hasReed(2, 3), true);
        due(ferry.hasReed(6, 3), false);
        due(ferry.hasReed(3, 2), false);
        ferry.breakReed(2, 3);
        due(ferry.hasReed(2, 3), true);
        ferry.removeReed(2, 3);
        due(ferry.hasReed(2, 3), false);
        wrongCells(ferry::hasReed);
    }

    private static void isPassable() {
        due(ferry.isPassable(0, 0), true);
        ferry.addReed(0, 0);
        ferry.addReed(4, 8);
        due(ferry.isPassable(0, 0), false);
        due(ferry.isPassable(8, 0), false);
        due(ferry.isPassable(1, 0), true);
        due(ferry.isPassable(0, 8), true);
        due(ferry.isPassable(4, 8), false);
        ferry.addReed(8, 0);
        ferry.breakReed(0, 0);
        due(ferry.isPassable(0, 0), false);
        ferry.breakReed(8, 0);
        due(ferry.isPassable(0, 0), true);
        due(ferry.isPassable(8, 0), true);
        wrongCells(ferry::isPassable);
    }

    private static void reedCount() {
        due(ferry.reedCount(), 0);
        thirtyReeds();
        due(ferry.reedCount(), 30);
        ferry.breakReed(0, 0);
        due(ferry.reedCount(), 30);
        ferry.removeReed(0, 0);
        due(ferry.reedCount(), 29);
    }

    private static void brokenCount() {
        ferry.addReed(0, 0);
        ferry.addReed(8, 0);
        due(ferry.brokenCount(), 0);
        ferry.breakReed(0, 0);
        due(ferry.brokenCount(), 1);
        ferry.breakReed(8, 0);
        due(ferry.brokenCount(), 2);
        ferry.undo();
        due(ferry.brokenCount(), 1);
        ferry.removeReed(0, 0);
        due(ferry.brokenCount(), 0);
    }

    private static void oddReeds(Supplier<Object> odd) {
        due(odd.get(), 0);
        ferry.addReed(4, 0);
        due(odd.get(), 0);
        ferry.addReed(0, 0);
        ferry.addReed(7, 8);
        due(odd.get(), 2);
        ferry.addReed(8, 0);
        due(odd.get(), 1);
        ferry.breakReed(0, 0);
        due(odd.get(), 2);
        ferry.breakReed(8, 0);
        due(odd.get(), 1);
        ferry.addReed(6, 8);
        ferry.addReed(2, 7);
        due(odd.get(), 3);
    }

    private static void oddReeds() {
        oddReeds(ferry::oddReeds);
    }

    private static void oddReedsByRows() {
        oddReeds(ferry::oddReedsByRows);
    }

    private static void setFog() {
        due(ferry.setFog(2), 0);
        due(ferry.setFog(1), 2);
        due(ferry.setFog(1), 1);
        for (int bad : new int[] {-1, 3, Integer.MIN_VALUE, Integer.MAX_VALUE}) {
            thrown(ARGUMENT, () -> ferry.setFog(bad));
        }
        due(ferry.setFog(0), 1);
        due(ferry.undo(), 3);
    }

    private static void fog() {
        for (int side = 2; side >= 0; side--) {
            ferry.setFog(side);
            due(ferry.fog(), side);
        }
        ferry.undo();
        due(ferry.fog(), 1);
    }

    private static void addBoat() {
        due(ferry.addBoat(3, 0), 0);
        wrongCells(ferry::addBoat);
        thrown(UNSUPPORTED, () -> ferry.addBoat(3, 0));
        thrown(UNSUPPORTED, () -> ferry.addBoat(5, 0));
        ferry.addReed(0, 8);
        thrown(UNSUPPORTED, () -> ferry.addBoat(0, 8));
        thrown(UNSUPPORTED, () -> ferry.addBoat(8, 8));
        ferry.breakReed(0, 8);
        due(ferry.addBoat(8, 8), 1);
        due(ferry.addBoat(4, 4), 2);
        ferry.removeBoat(2);
        due(ferry.addBoat(4, 4), 3);
        due(ferry.addBoat(4, 5), 4);
        thrown(STATE, () -> ferry.addBoat(4, 6));
        thrown(STATE, () -> ferry.addBoat(4, 5));
        wrongCells(ferry::addBoat);
        ferry.undo();
        due(ferry.addBoat(4, 5), 4);
    }

    private static void removeBoat() {
        ferry.addBoat(0, 0);
        ferry.addBoat(1, 0);
        ferry.addBoat(2, 0);
        put(0, "UU");
        ferry.sail(1, 0);
        wrongBoats(ferry::removeBoat);
        due(ferry.removeBoat(1), 3);
        thrown(MISSING, () -> ferry.removeBoat(1));
        due(ferry.boatCount(), 2);
        due(ferry.columnOf(2), 2);
        due(ferry.boatAt(1), 2);
        due(ferry.removeBoat(0), 0);
        due(ferry.addReed(1, 2), 1);
    }

    private static void boatCount() {
        for (int i = 0; i < 4; i++) {
            due(ferry.boatCount(), i);
            ferry.addBoat(0, i);
        }
        due(ferry.boatCount(), 4);
        ferry.removeBoat(2);
        due(ferry.boatCount(), 3);
    }

    private static void boatAt() {
        for (int i = 0; i < 4; i++) {
            ferry.addBoat(0, i);
        }
        ferry.removeBoat(1);
        ferry.addBoat(0, 8);
        due(ferry.boatAt(0), 0);
        due(ferry.boatAt(1), 2);
        due(ferry.boatAt(2), 3);
        due(ferry.boatAt(3), 4);
        ferry.removeBoat(4);
        thrown(BOUNDS, () -> ferry.boatAt(3));
        thrown(BOUNDS, () -> ferry.boatAt(-1));
        thrown(BOUNDS, () -> ferry.boatAt(Integer.MAX_VALUE));
    }

    private static void columnOf() {
        ferry.addBoat(7, 2);
        ferry.addBoat(0, 3);
        due(ferry.columnOf(0), 7);
        due(ferry.columnOf(1), 0);
        wrongBoats(ferry::columnOf);
        put(0, "L");
        ferry.sail(0, 0);
        due(ferry.columnOf(0), 6);
        ferry.removeBoat(0);
        thrown(MISSING, () -> ferry.columnOf(0));
    }

    private static void rowOf() {
        ferry.addBoat(7, 2);
        ferry.addBoat(0, 3);
        due(ferry.rowOf(0), 2);
        due(ferry.rowOf(1), 3);
        wrongBoats(ferry::rowOf);
        put(0, "UDDD");
        ferry.sail(0, 0);
        due(ferry.rowOf(0), 0);
    }

    private static void imageColumnOf() {
        ferry.addBoat(7, 2);
        ferry.addBoat(4, 3);
        due(ferry.imageColumnOf(0), 1);
        due(ferry.imageColumnOf(1), 4);
        wrongBoats(ferry::imageColumnOf);
        put(0, "R");
        ferry.sail(0, 0);
        due(ferry.imageColumnOf(0), 0);
    }

    private static void faresOf() {
        ferry.addBoat(0, 0);
        ferry.addBoat(8, 8);
        due(ferry.faresOf(0), 0);
        ferry.sail(0, 0);
        due(ferry.faresOf(0), 1);
        put(0, "UDU");
        ferry.sail(0, 0);
        due(ferry.faresOf(0), 4);
        due(ferry.faresOf(1), 0);
        wrongBoats(ferry::faresOf);
    }

    private static void boatAtRank() {
        for (int i = 0; i < 4; i++) {
            ferry.addBoat(0, i);
        }
        thrown(MISSING, () -> ferry.boatAtRank(4));
        thrown(MISSING, () -> ferry.boatAtRank(-1));
        due(ferry.boatAtRank(0), 0);
        due(ferry.boatAtRank(3), 3);
        put(0, "RL");
        ferry.sail(3, 0);
        ferry.sail(2, 0);
        ferry.sail(1, 5);
        due(ferry.boatAtRank(0), 2);
        due(ferry.boatAtRank(1), 3);
        due(ferry.boatAtRank(2), 1);
        due(ferry.boatAtRank(3), 0);
        ferry.removeBoat(3);
        due(ferry.boatAtRank(1), 1);
        thrown(MISSING, () -> ferry.boatAtRank(3));
    }

    private static void addMove() {
        due(ferry.addMove(0, 'U'), 1);
        due(ferry.addMove(0, 'D'), 2);
        due(ferry.addMove(5, 'L'), 1);
        due(ferry.addMove(0, 'R'), 3);
        due(moves(0), "UDR");
        due(moves(5), "L");
        for (char bad : new char[] {'u', ' ', 'X', (char) 0, (char) 65535}) {
            thrown(ARGUMENT, () -> ferry.addMove(0, bad));
            thrown(BOUNDS, () -> ferry.addMove(6, bad));
        }
        wrongPlans(plan -> ferry.addMove(plan, 'U'));
        put(1, "UUUUULLLLLUUUUULLLLL");
        thrown(STATE, () -> ferry.addMove(1, 'U'));
        thrown(ARGUMENT, () -> ferry.addMove(1, 'V'));
        due(ferry.addMove(2, 'U'), 1);
    }

    private static void clearPlan() {
        put(0, "UDLR");
        put(1, "LL");
        due(ferry.clearPlan(0), 4);
        due(ferry.clearPlan(0), 0);
        due(moves(0), "");
        due(moves(1), "LL");
        wrongPlans(ferry::clearPlan);
    }

    private static void mirror() {
        put(0, "UDLRR");
        put(1, "UUUUUUU");
        due(ferry.mirror(0, 1), 5);
        due(moves(1), "UDRLL");
        due(moves(0), "UDLRR");
        due(ferry.mirror(0, 0), 5);
        due(moves(0), "UDRLL");
        put(4, "LR");
        due(ferry.mirror(4, 4), 2);
        due(moves(4), "RL");
        due(ferry.mirror(5, 0), 0);
        due(moves(0), "");
        wrongPlans(plan -> ferry.mirror(plan, 0));
        wrongPlans(plan -> ferry.mirror(1, plan));
    }

    private static void reverse() {
        put(0, "UULRR");
        put(1, "LLLLLLLL");
        due(ferry.reverse(0, 1), 5);
        due(moves(1), "LLRDD");
        due(moves(0), "UULRR");
        due(ferry.reverse(0, 0), 5);
        due(moves(0), "LLRDD");
        put(2, "UR");
        due(ferry.reverse(2, 2), 2);
        due(moves(2), "LD");
        due(ferry.reverse(5, 0), 0);
        due(moves(0), "");
        wrongPlans(plan -> ferry.reverse(plan, 0));
        wrongPlans(plan -> ferry.reverse(1, plan));
    }

    private static final String[][] REDUCED = {
        {"", ""}, {"U", "U"}, {"UD", ""}, {"LR", ""}, {"RL", ""}, {"DU", ""}, {"UL", "UL"}, {"ULRD", ""},
        {"ULRDU", "U"}, {"UDLLRRUULDRD", "UULDRD"}, {"UUUUUUUUUUDDDDDDDDDD", ""}, {"LRLRL", "L"},
        {"UUULLLDDDRRRUUULLLDD", "UUULLLDDDRRRUUULLLDD"}};

    private static void reduce() {
        for (String[] pair : REDUCED) {
            put(3, pair[0]);
            due(ferry.reduce(3), pair[1].length());
            due(moves(3), pair[1]);
        }
        wrongPlans(ferry::reduce);
    }

    private static void reducedLength() {
        for (String[] pair : REDUCED) {
            put(3, pair[0]);
            due(ferry.reducedLength(3), pair[1].length());
            due(moves(3), pair[0]);
        }
        wrongPlans(ferry::reducedLength);
    }

    private static void planLength() {
        due(ferry.planLength(5), 0);
        put(5, "UDUDUDUDUDUDUDUDUDUD");
        due(ferry.planLength(5), 20);
        due(ferry.planLength(4), 0);
        wrongPlans(ferry::planLength);
    }

    private static void moveAt() {
        put(5, "UDLR");
        due("" + ferry.moveAt(5, 0) + ferry.moveAt(5, 1) + ferry.moveAt(5, 2) + ferry.moveAt(5, 3), "UDLR");
        thrown(MISSING, () -> ferry.moveAt(5, 4));
        thrown(MISSING, () -> ferry.moveAt(5, -1));
        thrown(MISSING, () -> ferry.moveAt(0, 0));
        thrown(MISSING, () -> ferry.moveAt(5, Integer.MAX_VALUE));
        wrongPlans(plan -> ferry.moveAt(plan, 0));
        wrongPlans(plan -> ferry.moveAt(plan, -1));
    }

    private static void areMirrored() {
        put(0, "ULR");
        put(1, "URL");
        put(2, "UR");
        put(3, "UD");
        due(ferry.areMirrored(0, 1), true);
        due(ferry.areMirrored(1, 0), true);
        due(ferry.areMirrored(0, 0), false);
        due(ferry.areMirrored(3, 3), true);
        due(ferry.areMirrored(1, 2), false);
        due(ferry.areMirrored(0, 2), false);
        due(ferry.areMirrored(2, 0), false);
        due(ferry.areMirrored(4, 5), true);
        put(4, "RU");
        due(ferry.areMirrored(2, 4), false);
        due(ferry.areMirrored(4, 4), false);
        wrongPlans(plan -> ferry.areMirrored(plan, 0));
        wrongPlans(plan -> ferry.areMirrored(0, plan));
    }

    private static void sail() {
        ferry.addBoat(0, 0);
        ferry.addBoat(8, 2);
        put(0, "RRUU");
        due(ferry.sail(0, 0), 5);
        due(ferry.columnOf(0), 2);
        due(ferry.rowOf(0), 2);
        due(ferry.sail(0, 5), 1);
        put(1, "D");
        due(ferry.sail(0, 1), 1);
        due(ferry.rowOf(0), 1);
        due(ferry.fareTotal(), 7);
        wrongBoats(boat -> ferry.sail(boat, 0));
        wrongBoats(boat -> ferry.sail(boat, 6));
        wrongPlans(plan -> ferry.sail(0, plan));
        put(2, "ULL");
        thrown(UNSUPPORTED, () -> ferry.sail(0, 2));
        put(2, "DD");
        thrown(UNSUPPORTED, () -> ferry.sail(0, 2));
        ferry.addReed(3, 1);
        put(2, "R");
        thrown(UNSUPPORTED, () -> ferry.sail(0, 2));
        ferry.breakReed(3, 1);
        due(ferry.sail(0, 2), 1);
        ferry.addReed(6, 1);
        put(3, "L");
        thrown(UNSUPPORTED, () -> ferry.sail(0, 3));
    }

    private static void blockedMove() {
        ferry.addBoat(0, 0);
        ferry.addBoat(8, 2);
        due(ferry.blockedMove(0, 0), -1);
        put(0, "UU");
        due(ferry.blockedMove(0, 0), 1);
        put(0, "RUUL");
        due(ferry.blockedMove(0, 0), 3);
        put(0, "RRRRRRRR");
        due(ferry.blockedMove(0, 0), -1);
        ferry.addMove(0, 'R');
        due(ferry.blockedMove(0, 0), 8);
        put(0, "RRLLD");
        due(ferry.blockedMove(0, 0), 4);
        due(ferry.rowOf(0), 0);
        ferry.addReed(2, 0);
        due(ferry.blockedMove(0, 0), 1);
        put(0, "RUU");
        due(ferry.blockedMove(1, 0), 0);
        put(0, "LD");
        ferry.addReed(1, 1);
        due(ferry.blockedMove(1, 0), 1);
        put(0, "UUUUUUU");
        due(ferry.blockedMove(1, 0), 6);
        wrongBoats(boat -> ferry.blockedMove(boat, 0));
        wrongBoats(boat -> ferry.blockedMove(boat, 6));
        wrongPlans(plan -> ferry.blockedMove(0, plan));
    }

    private interface WayCall {
        Object on(int boat, int x, int y);
    }

    private static void wrongWays(WayCall call) {
        wrongBoats(boat -> call.on(boat, 0, 0));
        wrongBoats(boat -> call.on(boat, 9, 9));
        wrongCells((x, y) -> call.on(0, x, y));
    }

    private static void wayLength(WayCall call) {
        ferry.addBoat(0, 0);
        ferry.addBoat(3, 0);
        due(call.on(0, 0, 0), 0);
        due(call.on(0, 8, 8), 16);
        due(call.on(0, 3, 0), 3);
        due(call.on(1, 0, 0), 3);
        walls();
        due(call.on(0, 0, 8), 24);
        due(call.on(0, 8, 8), 24);
        due(call.on(1, 4, 8), 25);
        thrown(MISSING, () -> call.on(0, 0, 1));
        thrown(MISSING, () -> call.on(0, 8, 1));
        ferry.addReed(4, 5);
        thrown(MISSING, () -> call.on(0, 0, 8));
        due(call.on(0, 8, 4), 12);
        ferry.breakReed(4, 5);
        due(call.on(0, 0, 8), 24);
        ferry.setFog(1);
        due(call.on(0, 0, 8), 24);
        wrongWays(call);
    }

    private static void wayLength() {
        wayLength(ferry::wayLength);
    }

    private static void wayLengthByRounds() {
        wayLength(ferry::wayLengthByRounds);
    }

    private static void wayCost(WayCall call) {
        ferry.addBoat(1, 0);
        ferry.addBoat(7, 8);
        due(call.on(0, 1, 0), 0);
        due(call.on(0, 1, 8), 8);
        ferry.setFog(1);
        due(call.on(0, 1, 0), 0);
        due(call.on(0, 1, 1), 2);
        due(call.on(0, 8, 0), 2 * 2 + 5);
        due(call.on(0, 0, 8), 2 * 9);
        due(call.on(1, 4, 8), 3);
        due(call.on(1, 3, 8), 5);
        ferry.setFog(2);
        due(call.on(0, 1, 8), 8);
        due(call.on(0, 4, 0), 3);
        due(call.on(0, 5, 0), 5);
        due(call.on(1, 8, 8), 2);
        // By the middle column: its cells are in no fog.
        due(call.on(1, 5, 0), 2 * 2 + 1 + 8 + 2);
        walls();
        due(call.on(0, 0, 0), 1);
        due(call.on(0, 0, 8), 23);
        due(call.on(0, 8, 8), 29);
        thrown(MISSING, () -> call.on(0, 0, 1));
        wrongWays(call);
    }

    private static void wayCost() {
        wayCost(ferry::wayCost);
    }

    private static void wayCostByRounds() {
        wayCost(ferry::wayCostByRounds);
    }

    private static void breakingEffort() {
        ferry.addBoat(0, 0);
        due(ferry.breakingEffort(0, 0, 0), 0);
        due(ferry.breakingEffort(0, 8, 8), 0);
        for (int x = 0; x < 9; x++) {
            ferry.addReed(x, 4);
        }
        due(ferry.breakingEffort(0, 0, 8), 1);
        due(ferry.breakingEffort(0, 4, 4), 1);
        due(ferry.breakingEffort(0, 3, 4), 2);
        due(ferry.breakingEffort(0, 0, 4), 2);
        ferry.addReed(4, 5);
        due(ferry.breakingEffort(0, 4, 8), 2);
        ferry.breakReed(2, 4);
        due(ferry.breakingEffort(0, 2, 4), 1);
        due(ferry.breakingEffort(0, 8, 8), 1);
        ferry.breakReed(6, 4);
        due(ferry.breakingEffort(0, 8, 8), 0);
        due(ferry.breakingEffort(0, 0, 4), 2);
        ferry.setFog(1);
        due(ferry.breakingEffort(0, 1, 4), 2);
        wrongWays(ferry::breakingEffort);
    }

    private static void planWay() {
        ferry.addBoat(4, 4);
        ferry.addBoat(4, 5);
        put(0, "UUU");
        due(ferry.planWay(0, 4, 4, 0), 0);
        due(moves(0), "");
        due(ferry.planWay(0, 6, 6, 0), 4);
        due(moves(0), "UURR");
        due(ferry.planWay(0, 3, 2, 5), 3);
        due(moves(5), "DDL");
        ferry.addReed(6, 6);
        ferry.addReed(4, 7);
        due(ferry.planWay(0, 5, 7, 0), 4);
        due(moves(0), "UURU");
        ferry.addReed(4, 3);
        due(ferry.planWay(0, 4, 2, 0), 4);
        due(moves(0), "LDDR");
        wrongWays((boat, x, y) -> ferry.planWay(boat, x, y, 0));
        wrongWays((boat, x, y) -> ferry.planWay(boat, x, y, 6));
        wrongPlans(plan -> ferry.planWay(0, 0, 0, plan));
        thrown(MISSING, () -> ferry.planWay(0, 4, 7, 0));
        thrown(MISSING, () -> ferry.planWay(0, 4, 7, 6));
        ferry = new MirrorFerry();
        ferry.addBoat(0, 0);
        walls();
        due(ferry.planWay(0, 2, 6, 1), 20);
        due(moves(1), "RRRRUULLLLUURRRRUULL");
        thrown(STATE, () -> ferry.planWay(0, 1, 6, 1));
        thrown(BOUNDS, () -> ferry.planWay(0, 1, 6, 6));
    }

    private static void addLanding() {
        ferry.addReed(1, 1);
        ferry.addBoat(2, 2);
        due(ferry.addLanding(1, 1), 0);
        due(ferry.addLanding(2, 2), 1);
        wrongCells(ferry::addLanding);
        thrown(STATE, () -> ferry.addLanding(1, 1));
        due(ferry.addLanding(7, 1), 2);
        for (int i = 3; i < 8; i++) {
            due(ferry.addLanding(i, 8), i);
        }
        thrown(STATE, () -> ferry.addLanding(0, 0));
        thrown(BOUNDS, () -> ferry.addLanding(0, 9));
    }

    private static void removeLanding() {
        for (int i = 0; i < 4; i++) {
            ferry.addLanding(4, 2 * i);
        }
        due(ferry.partnerOf(0), 1);
        due(ferry.removeLanding(1), 3);
        due(ferry.removeLanding(2), 2);
        due(ferry.pairingCost(), 4);
        thrown(BOUNDS, () -> ferry.removeLanding(2));
        thrown(BOUNDS, () -> ferry.removeLanding(-1));
        thrown(BOUNDS, () -> ferry.removeLanding(Integer.MAX_VALUE));
        due(ferry.removeLanding(0), 1);
        due(ferry.addLanding(4, 0), 1);
        due(ferry.pairingCost(), 4);
    }

    private static void landingCount() {
        due(ferry.landingCount(), 0);
        ferry.addLanding(0, 0);
        ferry.addLanding(0, 1);
        due(ferry.landingCount(), 2);
        ferry.removeLanding(0);
        due(ferry.landingCount(), 1);
    }

    private static void pairingCost(Supplier<Object> cost) {
        due(cost.get(), 0);
        ferry.addLanding(0, 0);
        thrown(STATE, cost);
        ferry.addLanding(8, 3);
        due(cost.get(), 3);
        ferry.addLanding(3, 3);
        thrown(STATE, cost);
        ferry.addLanding(4, 8);
        due(cost.get(), 3 + 6);
        ferry.addLanding(1, 0);
        ferry.addLanding(8, 1);
        due(cost.get(), 1 + 2 + 6);
        ferry.addLanding(5, 4);
        ferry.addLanding(4, 7);
        due(cost.get(), 1 + 2 + 1 + 1);
    }

    private static void pairingCost() {
        pairingCost(ferry::pairingCost);
    }

    private static void pairingCostBySearch() {
        pairingCost(ferry::pairingCostBySearch);
    }

    private static void partnerOf() {
        thrown(BOUNDS, () -> ferry.partnerOf(0));
        ferry.addLanding(0, 4);
        thrown(STATE, () -> ferry.partnerOf(0));
        thrown(BOUNDS, () -> ferry.partnerOf(1));
        thrown(BOUNDS, () -> ferry.partnerOf(-1));
        ferry.addLanding(4, 0);
        ferry.addLanding(4, 8);
        ferry.addLanding(8, 4);
        due(ferry.partnerOf(0), 3);
        due(ferry.partnerOf(1), 2);
        ferry = new MirrorFerry();
        for (int i = 0; i < 8; i++) {
            ferry.addLanding(i % 2 == 0 ? 0 : 8, i);
        }
        int[] partners = {1, 0, 3, 2, 5, 4, 7, 6};
        for (int i = 0; i < 8; i++) {
            due(ferry.partnerOf(i), partners[i]);
        }
        thrown(BOUNDS, () -> ferry.partnerOf(8));
        ferry = new MirrorFerry();
        int[][] square = {{4, 4}, {5, 5}, {4, 5}, {5, 4}, {0, 0}, {1, 1}, {1, 0}, {0, 1}};
        for (int[] cell : square) {
            ferry.addLanding(cell[0], cell[1]);
        }
        int[] ofSquares = {2, 3, 0, 1, 6, 7, 4, 5};
        for (int i = 0; i < 8; i++) {
            due(ferry.partnerOf(i), ofSquares[i]);
        }
    }

    private static void fareTotal(Supplier<Object> total) {
        due(total.get(), 0);
        ferry.addBoat(0, 0);
        ferry.addBoat(8, 8);
        put(0, "RL");
        ferry.sail(0, 0);
        ferry.sail(1, 5);
        due(total.get(), 4);
        ferry.removeBoat(0);
        due(total.get(), 4);
        ferry.sail(1, 5);
        due(total.get(), 5);
        ferry.removeBoat(1);
        due(total.get(), 5);
        ferry.undo();
        ferry.undo();
        due(total.get(), 4);
    }

    private static void fareTotal() {
        fareTotal(ferry::fareTotal);
    }

    private static void fareTotalByBoats() {
        fareTotal(ferry::fareTotalByBoats);
    }

    private static void meetingCount() {
        due(ferry.meetingCount(), 0);
        ferry.addBoat(4, 0);
        ferry.addBoat(3, 5);
        due(ferry.meetingCount(), 0);
        put(0, "UUDLR");
        ferry.sail(0, 0);
        due(ferry.meetingCount(), 1);
        put(0, "RRLLL");
        ferry.sail(1, 0);
        due(ferry.meetingCount(), 3);
        put(0, "RLRLLLLL");
        thrown(UNSUPPORTED, () -> ferry.sail(1, 0));
        put(0, "RR");
        ferry.sail(1, 0);
        due(ferry.meetingCount(), 4);
        ferry.removeBoat(1);
        due(ferry.meetingCount(), 4);
        ferry.undo();
        ferry.undo();
        due(ferry.meetingCount(), 3);
    }

    private static void append() {
        due(ferry.append(' '), 1);
        due(ferry.append('~'), 2);
        for (int bad : new int[] {31, 127, 0, 10, 160, 65535}) {
            thrown(ARGUMENT, () -> ferry.append((char) bad));
        }
        for (int i = 3; i <= 60; i++) {
            due(ferry.append('x'), i);
        }
        thrown(STATE, () -> ferry.append('x'));
        thrown(ARGUMENT, () -> ferry.append((char) 31));
        due(answer(ferry::run), "IllegalArgumentException");
        due(ferry.append('x'), 1);
        ferry.save();
        thrown(STATE, ferry::undo);
        ferry.restore();
        due(ferry.append('x'), 2);
    }

    private static void run() {
        due(runText("reed 12;break 12;boat 00;plan 3=UURD;mirror 32;back 31;fog 2"), 7);
        due(ferry.hasReed(1, 2), true);
        due(ferry.brokenCount(), 1);
        due(ferry.columnOf(0), 0);
        due(moves(3), "UURD");
        due(moves(2), "UULD");
        due(moves(1), "ULDD");
        due(ferry.fog(), 2);
        due(runText("sail 0 3;way 0>34 0;landing 58;plan 3=;plan 5=UDL;reduce 5"), 6);
        due(ferry.faresOf(0), 5);
        due(moves(0), "UUURR");
        due(ferry.landingCount(), 1);
        thrown(STATE, () -> ferry.addLanding(5, 8));
        due(moves(3), "");
        due(moves(5), "L");
        due(ferry.undo(), 1);
        due(ferry.landingCount(), 0);
        due(ferry.faresOf(0), 0);
        due(ferry.undo(), 0);
        due(ferry.boatCount(), 0);
        due(ferry.append('f'), 1);
        due(runText("og 1"), 1);
        due(ferry.fog(), 1);
        runFails();
    }

    private static void runFails() {
        ferry.addBoat(2, 2);
        String before = marshView(ferry);
        type("landing 00;boat 62");
        due(answer(ferry::run), "IllegalStateException");
        due(ferry.failedCommand(), 1);
        due(answer(ferry::errorPosition), "NoSuchElementException");
        type("landing 00;boat 62;");
        due(answer(ferry::run), "IllegalArgumentException");
        due(ferry.errorPosition(), 19);
        due(ferry.failedCommand(), 1);
        due(marshView(ferry), before);
        for (int i = 0; i < 8; i++) {
            ferry.setFog(i % 2);
        }
        type("fog 2;fog 3");
        due(answer(ferry::run), "IllegalStateException");
        due(ferry.fog(), 1);
        for (int i = 7; i >= 0; i--) {
            due(ferry.undo(), i);
        }
        due(ferry.append('x'), 1);
    }

    private static void errorPosition() {
        thrown(MISSING, ferry::errorPosition);
        String[] wrongTexts = {"|", "|x", "ree|", "re|x", "red|", "reed|x", "reed|", "reed |", "reed 1|",
            "reed 12| ", "reed 12;|", "reed 12;|;", "b|", "bo|", "br|", "ba|", "b|x", "bre|b", "brea|t", "plan 1|",
            "plan 1=U|X", "plan 1=U;|", "plan 1=|=", "plan 1|U", "plan |U", "mirror 1|", "mirror 1| 2", "sail 1|2",
            "sail 1 |", "way 1|", "way 1>|", "way 1>12|3", "way 1>12 |", "way 1>12 3|4", "landing 1|", "landin|G",
            "fog |", "fog | ", "fog 1| ", "| fog 1", "|Fog 1", "reduce 1|2", "reduce |", "redu|ke", "back 12;|",
            "fog 1;fo|f", "fog 9;|", "fog 1|,fog 2"};
        for (String text : wrongTexts) {
            wrongText(text);
        }
        due(ferry.errorPosition(), 5);
        due(runText("fog 1"), 1);
        due(ferry.errorPosition(), 5);
        ferry.undo();
        ferry.save();
        wrongText("re|x");
        ferry.restore();
        due(ferry.errorPosition(), 2);
        wrongText("fog 1;fog 1;fog 1;fog 1;fog 1;fog 1;fog 1;fog 1;fog 1;fog 1;|");
    }

    /** Runs a text that has a bar at its error position. */
    private static void wrongText(String marked) {
        String before = marshView(ferry);
        type(marked.replace("|", ""));
        due(answer(ferry::run), "IllegalArgumentException");
        due(marked + ferry.errorPosition(), marked + marked.indexOf('|'));
        due(marshView(ferry), before);
    }

    private static void failedCommand() {
        thrown(MISSING, ferry::failedCommand);
        String[] failing = {"|reed 90", "|reed 09", "fog 0;|break 00", "|boat 99", "|plan 6=", "fog 1;fog 1;|plan 9=U",
            "|plan 0=UUUUUUUUUUUUUUUUUUUUU", "|mirror 06", "|mirror 60", "|back 67", "fog 0;|reduce 6", "|sail 0 0",
            "boat 00;|sail 0 6", "boat 00;plan 0=D;|sail 0 0", "|way 0>00 0", "boat 00;|way 0>90 0",
            "boat 00;|way 0>00 6", "landing 00;|landing 00", "|landing 90", "fog 2;|fog 3;fog 4", "reed 00;|boat 00"};
        for (String marked : failing) {
            String before = marshView(ferry);
            type(marked.replace("|", ""));
            due(answer(ferry::run), "IllegalStateException");
            int index = (int) marked.substring(0, marked.indexOf('|')).chars().filter(c -> c == ';').count();
            due(marked + ferry.failedCommand(), marked + index);
            due(marshView(ferry), before);
        }
        due(runText("fog 1"), 1);
        due(ferry.failedCommand(), 1);
        ferry.undo();
        due(ferry.failedCommand(), 1);
    }

    private static void describeRow() {
        due(rowText(0), ".........");
        ferry.addReed(0, 3);
        ferry.addReed(4, 3);
        ferry.addReed(1, 3);
        ferry.breakReed(1, 3);
        due(rowText(3), "#'..#....");
        ferry.addBoat(7, 3);
        due(rowText(3), "#~..#..0.");
        ferry.undo();
        ferry.addBoat(1, 3);
        ferry.addBoat(4, 4);
        due(rowText(3), "#0..#..~.");
        due(rowText(4), "....1....");
        due(rowText(8), ".........");
        for (int boat = 1; boat < 12; boat++) {
            ferry.removeBoat(boat);
            ferry.addBoat(4, 4);
        }
        due(ferry.boatAt(1), 12);
        due(rowText(4), "....2....");
        for (int bad : WRONG) {
            thrown(BOUNDS, () -> ferry.describeRow(bad));
        }
        due(line(), "....2....");
    }

    private static void describePlan() {
        String[][] lines = {{"", ""}, {"U", "U"}, {"UU", "U2"}, {"UUURDD", "U3RD2"}, {"UDUD", "UDUD"},
            {"LLLLLLLLLLLLLLLLLLLL", "L20"}, {"LLLLLLLLLLR", "L10R"}, {"LLLLLLLLLRRRRRRRRRRR", "L9R11"},
            {"UDLRUDLRUDLRUDLRUDLR", "UDLRUDLRUDLRUDLRUDLR"}};
        for (String[] pair : lines) {
            put(2, pair[0]);
            due(planText(2), pair[1]);
        }
        wrongPlans(ferry::describePlan);
        due(line(), "UDLRUDLRUDLRUDLRUDLR");
        due(planText(0), "");
    }

    private static void lineAt() {
        thrown(BOUNDS, () -> ferry.lineAt(0));
        ferry.describeRow(0);
        due(ferry.lineAt(8), '.');
        thrown(BOUNDS, () -> ferry.lineAt(9));
        thrown(BOUNDS, () -> ferry.lineAt(-1));
        thrown(BOUNDS, () -> ferry.lineAt(Integer.MIN_VALUE));
        put(0, "DR");
        ferry.undo();
        ferry.save();
        ferry.restore();
        due(line(), ".........");
        ferry.describePlan(0);
        due(line(), "D");
    }

    private static void meanFares() {
        thrown(ArithmeticException.class, ferry::meanFares);
        ferry.addBoat(0, 0);
        ferry.addBoat(0, 1);
        ferry.addBoat(0, 2);
        due(ferry.meanFares(), 0.0);
        put(0, "RL");
        ferry.sail(0, 0);
        ferry.sail(1, 5);
        due(ferry.meanFares(), 4.0 / 3.0);
        ferry.removeBoat(0);
        due(ferry.meanFares(), 0.5);
        ferry.removeBoat(1);
        ferry.removeBoat(2);
        thrown(ArithmeticException.class, ferry::meanFares);
    }

    private static void passableShare() {
        ferry.addReed(0, 0);
        due(ferry.passableShare(), 79f / 81f);
        ferry.addReed(4, 0);
        due(ferry.passableShare(), 78f / 81f);
        ferry.addReed(8, 0);
        due(ferry.passableShare(), 78f / 81f);
        ferry.breakReed(8, 0);
        ferry.breakReed(4, 0);
        due(ferry.passableShare(), 79f / 81f);
    }

    private static void isConsistent() {
        due(ferry.isConsistent(), true);
        ferry.addBoat(0, 0);
        walls();
        ferry.addBoat(8, 8);
        ferry.addBoat(4, 4);
        ferry.addReed(4, 5);
        ferry.addReed(5, 1);
        ferry.setFog(2);
        put(0, "UDLRRLUD");
        put(1, "UULLRRLD");
        ferry.planWay(0, 8, 4, 2);
        ferry.sail(0, 2);
        ferry.removeBoat(0);
        String before = view(ferry);
        for (int i = 0; i < 8; i++) {
            ferry.addLanding(i, 8 * i % 7);
            due(ferry.isConsistent(), true);
        }
        due(moves(0), "UDLRRLUD");
        for (int i = 0; i < 8; i++) {
            ferry.undo();
        }
        due(view(ferry), before);
        addToTotal(1);
        due(ferry.isConsistent(), false);
        addToTotal(-1);
        due(ferry.isConsistent(), true);
    }

    /** No call can break an invariant, so a field is changed from outside. */
    private static void addToTotal(int difference) {
        try {
            Object fleet = field(field(ferry, "marsh"), "fleet");
            Field total = fleet.getClass().getDeclaredField("total");
            total.setAccessible(true);
            total.setInt(fleet, total.getInt(fleet) + difference);
        } catch (ReflectiveOperationException e) {
            due(e.toString(), "a field for the fare total");
        }
    }

    private static Object field(Object owner, String name) throws ReflectiveOperationException {
        Field field = owner.getClass().getDeclaredField(name);
        field.setAccessible(true);
        return field.get(owner);
    }

    private static void undo() {
        thrown(STATE, ferry::undo);
        List<String> views = new ArrayList<>();
        List<Runnable> changes = List.of(() -> ferry.addReed(0, 8), () -> ferry.addReed(1, 8),
            () -> ferry.addBoat(0, 0), () -> ferry.addBoat(4, 1), () -> ferry.addMove(0, 'U'),
            () -> ferry.addMove(0, 'R'), () -> ferry.addMove(0, 'R'), () -> ferry.addMove(0, 'L'),
            () -> ferry.mirror(0, 1), () -> ferry.reverse(0, 2), () -> ferry.reduce(0), () -> ferry.setFog(1),
            () -> ferry.setFog(1), () -> ferry.sail(0, 0), () -> ferry.breakReed(0, 8), () -> ferry.removeReed(0, 8),
            () -> ferry.removeBoat(0), () -> ferry.planWay(1, 4, 1, 1), () -> ferry.clearPlan(0),
            () -> ferry.clearPlan(0), () -> ferry.addLanding(1, 1), () -> ferry.addLanding(1, 2),
            () -> ferry.removeLanding(0), () -> runText("reed 88;fog 2"), () -> ferry.addBoat(0, 0));
        for (Runnable change : changes) {
            views.add(view(ferry));
            change.run();
            ferry.save();
            due(ferry.undo(), Math.min(views.size() - 1, 7));
            due(view(ferry), views.get(views.size() - 1));
            change.run();
        }
        for (int left = 7; left >= 0; left--) {
            due(ferry.undo(), left);
            due(view(ferry), views.get(changes.size() - 8 + left));
        }
        thrown(STATE, ferry::undo);
        ferry.setFog(0);
        thrown(ARGUMENT, () -> ferry.setFog(5));
        due(ferry.undo(), 0);
    }

    private static void save() {
        ferry.addBoat(0, 0);
        ferry.addBoat(1, 0);
        ferry.removeBoat(1);
        due(ferry.save(), 1);
        String saved = view(ferry);
        due(ferry.addBoat(1, 0), 2);
        ferry.addReed(8, 8);
        put(0, "UUR");
        ferry.sail(0, 0);
        ferry.setFog(1);
        ferry.addLanding(3, 3);
        due(ferry.undo(), 7);
        ferry.restore();
        due(view(ferry), saved);
        due(ferry.addBoat(1, 0), 2);
        due(ferry.save(), 2);
        ferry.removeBoat(0);
        ferry.restore();
        due(ferry.boatCount(), 2);
    }

    private static void restore() {
        ferry.addBoat(0, 0);
        thrown(STATE, ferry::restore);
        ferry.save();
        String saved = view(ferry);
        ferry.removeBoat(0);
        due(ferry.restore(), 1);
        thrown(STATE, ferry::undo);
        put(0, "UUR");
        ferry.sail(0, 0);
        ferry.addReed(5, 5);
        due(ferry.restore(), 1);
        due(view(ferry), saved);
        thrown(STATE, ferry::undo);
        ferry.setFog(1);
        due(ferry.undo(), 0);
        due(view(ferry), saved);
    }
}
