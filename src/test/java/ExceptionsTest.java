import java.util.function.IntFunction;

/** The exceptions of promises 8 to 65: which one, in which order, and that a call that throws changes nothing. */
public final class ExceptionsTest {
    private static final String SETUP = "boiler 50 3;roller 3 5 2 1;roller 2 4 1 3;roller 1 1 1 1;customer ann;customer bo;"
            + "bundle 0 7 10 4 9;bundle 1 3 4 9 5;bundle 0 2 3 6 99;bundle 1 4 9 9 99;"
            + "time 0 0 0 5;length 1 1 1 4;time 1 2 0 9;time 0 0 7 1;time 1 2 9 9;advance 3";
    private static final int MIN = Integer.MIN_VALUE;
    private static final int MAX = Integer.MAX_VALUE;

    private static RollerLease x;

    public static void main(String[] args) {
        beforeASetup();
        withoutAnything();
        fullOfEverything();
        inTheMidstOfASimulation();
        Check.finish("ExceptionsTest");
    }

    private static void inTheMidstOfASimulation() {
        x = Check.load(SETUP);
        String saved = Check.dump(x);
        x.saveState(0);
        String[] states = new String[8];
        for (int change = 0; change < 8; change++) {
            states[change] = Check.dump(x);
            x.setRefill(change + 10);
        }
        x.writeBundle(0);
        x.append(1, 2, 3, 4, 5);
        rollerIndices(3);
        customerIndices(2);
        leaseIndices(5);
        bundleIndices(4);
        outOfRange();
        leaseObstacles();
        bundlesThatDoNotFit();
        slots();
        outputBytes();
        Check.same("calls that throw leave the output", Check.output(x, 5), "7:4**");
        for (int change = 7; change >= 0; change--) {
            Check.equal("calls that throw are no changes", x.undo(), change);
            Check.same("calls that throw leave the changes", Check.dump(x), states[change]);
        }
        Check.refused(x, "undo of nothing", IllegalStateException.class, x::undo);
        Check.equal("calls that throw leave slot 0", x.restoreState(0), 3);
        Check.same("the state in slot 0", Check.dump(x), saved);
        Check.refused(x, "undo behind restoreState", IllegalStateException.class, x::undo);
    }

    private static void beforeASetup() {
        RollerLease n = new RollerLease();
        Check.throwsArgument("an invalid setup", () -> Check.parse(n, "boiler 10 0;roller 1 1 0 0"));
        Check.Call[] calls = {
            n::minute, n::steam, n::steamCapacity, n::steamRefill, n::revenue, n::imbalance, n::rollerCount,
            () -> n.rollerSpeed(-1), () -> n.rollerHeat(-1), () -> n.minutePrice(-1), () -> n.yardPrice(-1),
            () -> n.isValveOpen(-1) ? 1 : 0, () -> n.stallCount(-1), () -> n.activeLease(-1), () -> n.idleReason(-1),
            () -> n.nextBundle(-1), () -> (long) n.utilization(-1),
            n::customerCount, () -> n.customerLetter(-1, 0), () -> n.bill(-1),
            n::leaseCount, () -> n.leaseCustomer(-1), () -> n.leaseRoller(-1), () -> n.leaseStart(-1),
            () -> n.leaseEnd(-1), () -> n.leaseYardsLeft(-1), () -> n.leaseObstacle(-1, 0, 0),
            () -> n.firstFreeStart(-1, 0, 0), () -> n.cheapestRoller(0),
            n::bundleCount, () -> n.bundleOwner(-1), () -> n.bundleTag(-1), () -> n.bundleYardsLeft(-1),
            () -> n.bundleDeadline(-1), () -> n.bundleFinish(-1), () -> n.bundleScorch(-1), () -> n.findBundle(-1),
            n::lateCount, () -> (long) n.averageScorch(),
            () -> n.steamAfter(-1), () -> n.revenueAfter(-1), () -> n.predictedFinish(-1), () -> n.finishIfAllOpen(-1),
            () -> n.writeSchedule(-1, -1), () -> n.writeBundle(-1), n::writeBills,
            () -> n.advance(0), () -> n.leaseByTime(-1, -1, 0, 0), () -> n.leaseByLength(-1, -1, 0, 0),
            () -> n.cancelLease(-1), () -> n.setValve(-1, true) ? 1 : 0, () -> n.addBundle(-1, -1, 0, 0, 0),
            () -> n.setRefill(-1), () -> n.saveState(2), n::undo, () -> n.restoreState(0), () -> n.restoreState(1),
        };
        for (int i = 0; i < calls.length; i++) {
            Check.refused(n, "call " + i + " before a setup", IllegalStateException.class, calls[i]);
        }
        Check.refused(n, "slot 2, before a setup", IndexOutOfBoundsException.class, () -> n.restoreState(2));
        Check.refused(n, "slot -1, before a setup", IndexOutOfBoundsException.class, () -> n.restoreState(-1));
        Check.refused(n, "a byte that is none, before a setup", IndexOutOfBoundsException.class, () -> n.outputByte(0));
        Check.equal("undoCount before a setup", n.undoCount(), 0);
    }

    /** A laundry with the least there may be: without leases and bundles, their index 0 is none already. */
    private static void withoutAnything() {
        x = Check.load("boiler 10 0;roller 1 1 0 0;customer a");
        rollerIndices(1);
        customerIndices(1);
        leaseIndices(0);
        bundleIndices(0);
        Check.refused(x, "an empty slot", IllegalStateException.class, () -> x.restoreState(0));
        Check.refused(x, "an empty slot", IllegalStateException.class, () -> x.restoreState(1));
        Check.refused(x, "undo of nothing", IllegalStateException.class, x::undo);
        Check.refused(x, "a byte of no output", IndexOutOfBoundsException.class, () -> x.outputByte(0));
    }

    private static void indices(String what, int count, IntFunction<Check.Call> call) {
        int[] none = {-1, count, count + 1, MIN, MAX};
        for (int index : none) {
            Check.refused(x, what + " of " + index, IndexOutOfBoundsException.class, call.apply(index));
        }
    }

    private static void rollerIndices(int count) {
        indices("rollerSpeed", count, r -> () -> x.rollerSpeed(r));
        indices("rollerHeat", count, r -> () -> x.rollerHeat(r));
        indices("minutePrice", count, r -> () -> x.minutePrice(r));
        indices("yardPrice", count, r -> () -> x.yardPrice(r));
        indices("isValveOpen", count, r -> () -> x.isValveOpen(r) ? 1 : 0);
        indices("stallCount", count, r -> () -> x.stallCount(r));
        indices("activeLease", count, r -> () -> x.activeLease(r));
        indices("idleReason", count, r -> () -> x.idleReason(r));
        indices("nextBundle", count, r -> () -> x.nextBundle(r));
        indices("utilization", count, r -> () -> (long) x.utilization(r));
        indices("leaseObstacle", count, r -> () -> x.leaseObstacle(r, 0, 0));
        indices("firstFreeStart", count, r -> () -> x.firstFreeStart(r, 0, 0));
        indices("writeSchedule", count, r -> () -> x.writeSchedule(r, -1));
        indices("leaseByTime", count, r -> () -> x.leaseByTime(0, r, 0, 0));
        indices("leaseByLength", count, r -> () -> x.leaseByLength(0, r, 0, 0));
        indices("setValve", count, r -> () -> x.setValve(r, false) ? 1 : 0);
    }

    private static void customerIndices(int count) {
        indices("customerLetter", count, c -> () -> x.customerLetter(c, -1));
        indices("bill", count, c -> () -> x.bill(c));
        indices("leaseByTime", count, c -> () -> x.leaseByTime(c, 0, 0, 0));
        indices("leaseByLength", count, c -> () -> x.leaseByLength(c, 0, 0, 0));
        indices("addBundle", count, c -> () -> x.addBundle(c, -1, 0, 0, -1));
    }

    private static void leaseIndices(int count) {
        indices("leaseCustomer", count, l -> () -> x.leaseCustomer(l));
        indices("leaseRoller", count, l -> () -> x.leaseRoller(l));
        indices("leaseStart", count, l -> () -> x.leaseStart(l));
        indices("leaseEnd", count, l -> () -> x.leaseEnd(l));
        indices("leaseYardsLeft", count, l -> () -> x.leaseYardsLeft(l));
        indices("cancelLease", count, l -> () -> x.cancelLease(l));
    }

    private static void bundleIndices(int count) {
        indices("bundleOwner", count, b -> () -> x.bundleOwner(b));
        indices("bundleTag", count, b -> () -> x.bundleTag(b));
        indices("bundleYardsLeft", count, b -> () -> x.bundleYardsLeft(b));
        indices("bundleDeadline", count, b -> () -> x.bundleDeadline(b));
        indices("bundleFinish", count, b -> () -> x.bundleFinish(b));
        indices("bundleScorch", count, b -> () -> x.bundleScorch(b));
        indices("predictedFinish", count, b -> () -> x.predictedFinish(b));
        indices("finishIfAllOpen", count, b -> () -> x.finishIfAllOpen(b));
        indices("writeBundle", count, b -> () -> x.writeBundle(b));
    }

    private static void range(String what, int least, int most, IntFunction<Check.Call> call) {
        int[] outside = {least - 1, most + 1, MIN, MAX};
        for (int value : outside) {
            Check.refused(x, what + " with " + value, IllegalArgumentException.class, call.apply(value));
        }
    }

    private static void outOfRange() {
        range("leaseObstacle", 1, 200, m -> () -> x.leaseObstacle(0, 0, m));
        range("firstFreeStart", 1, 200, m -> () -> x.firstFreeStart(0, 0, m));
        range("cheapestRoller", 1, 200, y -> () -> x.cheapestRoller(y));
        range("steamAfter", 0, 300, m -> () -> x.steamAfter(m));
        range("revenueAfter", 0, 300, m -> () -> x.revenueAfter(m));
        range("writeSchedule", 0, 1000, m -> () -> x.writeSchedule(0, m));
        range("advance", 1, 300, m -> () -> x.advance(m));
        range("leaseByTime", 1, 200, m -> () -> x.leaseByTime(0, 0, 500, m));
        range("leaseByLength", 1, 200, y -> () -> x.leaseByLength(0, 0, 500, y));
        range("addBundle tag", 0, 99, t -> () -> x.addBundle(0, t, 1, 1, 1));
        range("addBundle yards", 1, 200, y -> () -> x.addBundle(0, 9, y, 1, 1));
        range("addBundle limit", 1, 9, l -> () -> x.addBundle(0, 9, 1, l, 1));
        range("addBundle deadline", 0, 999, d -> () -> x.addBundle(0, 9, 1, 1, d));
        range("setRefill", 0, 50, r -> () -> x.setRefill(r));
    }

    private static void refused(String what, Check.Call call) {
        Check.refused(x, what, IllegalArgumentException.class, call);
    }

    private static void leaseObstacles() {
        refused("by time, before now", () -> x.leaseByTime(0, 0, 2, 1));
        refused("by time, far before now", () -> x.leaseByTime(0, 0, MIN, 200));
        refused("by time, too late", () -> x.leaseByTime(0, 0, 801, 200));
        refused("by time, far too late", () -> x.leaseByTime(0, 0, MAX, 200));
        refused("by time, taken", () -> x.leaseByTime(0, 0, 4, 1));
        refused("by length, before now", () -> x.leaseByLength(0, 1, 2, 1));
        refused("by length, far before now", () -> x.leaseByLength(0, 1, MIN, 200));
        refused("by length, too late", () -> x.leaseByLength(0, 1, 901, 199));
        refused("by length, far too late", () -> x.leaseByLength(0, 1, MAX, 200));
        refused("by length, taken", () -> x.leaseByLength(0, 0, 5, 7));
        refused("a lease that has begun", () -> x.cancelLease(0));
        refused("a lease that has begun", () -> x.cancelLease(2));
    }

    private static void bundlesThatDoNotFit() {
        refused("a tag in use", () -> x.addBundle(1, 7, 1, 1, 1));
        refused("the tag of a finished bundle", () -> x.addBundle(1, 3, 1, 1, 1));
    }

    /** A laundry with the most there may be. */
    private static void fullOfEverything() {
        x = Check.load("boiler 10 0;roller 1 1 0 0;roller 1 1 0 0;roller 1 1 0 0;roller 1 1 0 0;roller 1 1 0 0;roller 1 1 0 0;"
                + "customer a;customer b;customer c;customer d;customer e;customer f");
        for (int i = 0; i < 16; i++) {
            Check.equal("a lease", x.leaseByTime(5, 5, i, 1), i);
            Check.equal("a bundle", x.addBundle(5, 99 - i, 1, 1, 1), i);
        }
        rollerIndices(6);
        customerIndices(6);
        leaseIndices(16);
        bundleIndices(16);
        refused("a 17th lease", () -> x.leaseByTime(0, 0, 50, 1));
        refused("a 17th lease", () -> x.leaseByLength(0, 0, 50, 1));
        refused("a 17th bundle", () -> x.addBundle(0, 0, 1, 1, 1));
        Check.equal("the number of leases", x.leaseCount(), 16);
        Check.equal("the number of bundles", x.bundleCount(), 16);
    }

    private static void slots() {
        indices("saveState", 2, s -> () -> x.saveState(s));
        indices("restoreState", 2, s -> () -> x.restoreState(s));
        Check.refused(x, "an empty slot", IllegalStateException.class, () -> x.restoreState(1));
    }

    private static void outputBytes() {
        indices("outputByte", 5, i -> () -> x.outputByte(i));
    }
}
