import java.util.function.IntFunction;

/** The exceptions of promises 8 to 65: which one, in which order, and that a call that throws changes nothing. */
public final class ExceptionsTest {
    private static final String SETUP = "boiler 50 3;roller 3 5 2 1;roller 2 4 1 3;roller 1 1 1 1;customer ann;customer bo;"
            + "bundle 0 7 10 4 9;bundle 1 3 4 9 5;bundle 0 2 3 6 99;bundle 1 4 9 9 99;"
            + "time 0 0 0 5;length 1 1 1 4;time 1 2 0 9;time 0 0 7 1;time 1 2 9 9;advance 3";
    private static final int MIN = Integer.MIN_VALUE;
    private static final int MAX = Integer.MAX_VALUE;

    private static RollerLease x;

    public static void main(String[] args) {
        beforeASetup();
        x = Check.load(SETUP);
        x.setValve(1, true);
        x.writeBundle(0);
        String before = Check.dump(x);
        withoutSuchARoller();
        withoutSuchACustomer();
        withoutSuchALease();
        withoutSuchABundle();
        outOfRange();
        leaseObstacles();
        bundlesThatDoNotFit();
        slots();
        Check.same("calls that throw change nothing", Check.dump(x), before);
        Check.same("calls that throw leave the output", Check.output(x, 5), "7:4**");
        Check.equal("calls that throw are no changes", x.undoCount(), 1);
        Check.finish("ExceptionsTest");
    }

    private static void beforeASetup() {
        RollerLease n = new RollerLease();
        Check.throwsArgument("an invalid setup", () -> Check.parse(n, "boiler 10 0;roller 1 1 0 0"));
        Check.Call[] calls = {
            n::minute, n::steam, n::steamCapacity, n::steamRefill, n::revenue, n::imbalance, n::rollerCount,
            () -> n.rollerSpeed(-1), () -> n.rollerHeat(-1), () -> n.minutePrice(-1), () -> n.yardPrice(-1),
            () -> n.isValveOpen(-1) ? 1 : 0, () -> n.stallCount(-1), () -> n.activeLease(-1), () -> n.idleReason(-1),
            () -> n.nextBundle(-1), () -> (long) n.utilization(-1),
            n::customerCount, () -> n.customerLetter(-1, 0), () -> n.bill(-1),
            n::leaseCount, () -> n.leaseCustomer(-1), () -> n.leaseRoller(-1), () -> n.leaseStart(-1),
            () -> n.leaseEnd(-1), () -> n.leaseYardsLeft(-1), () -> n.leaseObstacle(-1, 0, 0),
            () -> n.firstFreeStart(-1, 0, 0), () -> n.cheapestRoller(0),
            n::bundleCount, () -> n.bundleOwner(-1), () -> n.bundleTag(-1), () -> n.bundleYardsLeft(-1),
            () -> n.bundleDeadline(-1), () -> n.bundleFinish(-1), () -> n.bundleScorch(-1), () -> n.findBundle(-1),
            n::lateCount, () -> (long) n.averageScorch(),
            () -> n.steamAfter(-1), () -> n.revenueAfter(-1), () -> n.predictedFinish(-1), () -> n.finishIfAllOpen(-1),
            () -> n.writeSchedule(-1, -1), () -> n.writeBundle(-1), n::writeBills,
            () -> n.advance(0), () -> n.leaseByTime(-1, -1, 0, 0), () -> n.leaseByLength(-1, -1, 0, 0),
            () -> n.cancelLease(-1), () -> n.setValve(-1, true) ? 1 : 0, () -> n.addBundle(-1, -1, 0, 0, 0),
            () -> n.setRefill(-1), () -> n.saveState(2), n::undo, () -> n.restoreState(0), () -> n.restoreState(1),
        };
        for (int i = 0; i < calls.length; i++) {
            Check.throwsState("call " + i + " before a setup", calls[i]);
        }
        Check.throwsIndex("a slot that is none, before a setup", () -> n.restoreState(2));
        Check.throwsIndex("a slot that is none, before a setup", () -> n.restoreState(-1));
        Check.throwsIndex("a byte that is none, before a setup", () -> n.outputByte(0));
        Check.equal("undoCount before a setup", n.undoCount(), 0);
    }

    private static void indices(String what, int count, IntFunction<Check.Call> call) {
        int[] none = {-1, count, count + 1, MIN, MAX};
        for (int index : none) {
            Check.throwsIndex(what + " of " + index, call.apply(index));
        }
    }

    private static void withoutSuchARoller() {
        indices("rollerSpeed", 3, r -> () -> x.rollerSpeed(r));
        indices("rollerHeat", 3, r -> () -> x.rollerHeat(r));
        indices("minutePrice", 3, r -> () -> x.minutePrice(r));
        indices("yardPrice", 3, r -> () -> x.yardPrice(r));
        indices("isValveOpen", 3, r -> () -> x.isValveOpen(r) ? 1 : 0);
        indices("stallCount", 3, r -> () -> x.stallCount(r));
        indices("activeLease", 3, r -> () -> x.activeLease(r));
        indices("idleReason", 3, r -> () -> x.idleReason(r));
        indices("nextBundle", 3, r -> () -> x.nextBundle(r));
        indices("utilization", 3, r -> () -> (long) x.utilization(r));
        indices("leaseObstacle", 3, r -> () -> x.leaseObstacle(r, 0, 0));
        indices("firstFreeStart", 3, r -> () -> x.firstFreeStart(r, 0, 0));
        indices("writeSchedule", 3, r -> () -> x.writeSchedule(r, -1));
        indices("leaseByTime", 3, r -> () -> x.leaseByTime(0, r, 0, 0));
        indices("leaseByLength", 3, r -> () -> x.leaseByLength(0, r, 0, 0));
        indices("setValve", 3, r -> () -> x.setValve(r, false) ? 1 : 0);
    }

    private static void withoutSuchACustomer() {
        indices("customerLetter", 2, c -> () -> x.customerLetter(c, -1));
        indices("bill", 2, c -> () -> x.bill(c));
        indices("leaseByTime", 2, c -> () -> x.leaseByTime(c, 0, 0, 0));
        indices("leaseByLength", 2, c -> () -> x.leaseByLength(c, 0, 0, 0));
        indices("addBundle", 2, c -> () -> x.addBundle(c, -1, 0, 0, -1));
    }

    private static void withoutSuchALease() {
        indices("leaseCustomer", 5, l -> () -> x.leaseCustomer(l));
        indices("leaseRoller", 5, l -> () -> x.leaseRoller(l));
        indices("leaseStart", 5, l -> () -> x.leaseStart(l));
        indices("leaseEnd", 5, l -> () -> x.leaseEnd(l));
        indices("leaseYardsLeft", 5, l -> () -> x.leaseYardsLeft(l));
        indices("cancelLease", 5, l -> () -> x.cancelLease(l));
    }

    private static void withoutSuchABundle() {
        indices("bundleOwner", 4, b -> () -> x.bundleOwner(b));
        indices("bundleTag", 4, b -> () -> x.bundleTag(b));
        indices("bundleYardsLeft", 4, b -> () -> x.bundleYardsLeft(b));
        indices("bundleDeadline", 4, b -> () -> x.bundleDeadline(b));
        indices("bundleFinish", 4, b -> () -> x.bundleFinish(b));
        indices("bundleScorch", 4, b -> () -> x.bundleScorch(b));
        indices("predictedFinish", 4, b -> () -> x.predictedFinish(b));
        indices("finishIfAllOpen", 4, b -> () -> x.finishIfAllOpen(b));
        indices("writeBundle", 4, b -> () -> x.writeBundle(b));
    }

    private static void range(String what, int least, int most, IntFunction<Check.Call> call) {
        int[] outside = {least - 1, most + 1, MIN, MAX};
        for (int value : outside) {
            Check.throwsArgument(what + " with " + value, call.apply(value));
        }
    }

    private static void outOfRange() {
        range("leaseObstacle", 1, 200, m -> () -> x.leaseObstacle(0, 0, m));
        range("firstFreeStart", 1, 200, m -> () -> x.firstFreeStart(0, 0, m));
        range("cheapestRoller", 1, 200, y -> () -> x.cheapestRoller(y));
        range("steamAfter", 0, 300, m -> () -> x.steamAfter(m));
        range("revenueAfter", 0, 300, m -> () -> x.revenueAfter(m));
        range("writeSchedule", 0, 1000, m -> () -> x.writeSchedule(0, m));
        range("advance", 1, 300, m -> () -> x.advance(m));
        range("leaseByTime", 1, 200, m -> () -> x.leaseByTime(0, 0, 500, m));
        range("leaseByLength", 1, 200, y -> () -> x.leaseByLength(0, 0, 500, y));
        range("addBundle tag", 0, 99, t -> () -> x.addBundle(0, t, 1, 1, 1));
        range("addBundle yards", 1, 200, y -> () -> x.addBundle(0, 9, y, 1, 1));
        range("addBundle limit", 1, 9, l -> () -> x.addBundle(0, 9, 1, l, 1));
        range("addBundle deadline", 0, 999, d -> () -> x.addBundle(0, 9, 1, 1, d));
        range("setRefill", 0, 50, r -> () -> x.setRefill(r));
    }

    private static void leaseObstacles() {
        Check.throwsArgument("by time, before now", () -> x.leaseByTime(0, 0, 2, 1));
        Check.throwsArgument("by time, far before now", () -> x.leaseByTime(0, 0, MIN, 200));
        Check.throwsArgument("by time, too late", () -> x.leaseByTime(0, 0, 801, 200));
        Check.throwsArgument("by time, far too late", () -> x.leaseByTime(0, 0, MAX, 200));
        Check.throwsArgument("by time, taken", () -> x.leaseByTime(0, 0, 4, 1));
        Check.throwsArgument("by length, before now", () -> x.leaseByLength(0, 1, 2, 1));
        Check.throwsArgument("by length, far before now", () -> x.leaseByLength(0, 1, MIN, 200));
        Check.throwsArgument("by length, too late", () -> x.leaseByLength(0, 1, 901, 199));
        Check.throwsArgument("by length, far too late", () -> x.leaseByLength(0, 1, MAX, 200));
        Check.throwsArgument("by length, taken", () -> x.leaseByLength(0, 0, 5, 7));
        Check.throwsArgument("a lease that has begun", () -> x.cancelLease(0));
        Check.throwsArgument("a lease that has begun", () -> x.cancelLease(2));
        RollerLease full = Check.load("boiler 10 0;roller 1 1 0 0;customer a");
        for (int lease = 0; lease < 16; lease++) {
            Check.equal("a lease", full.leaseByTime(0, 0, lease, 1), lease);
        }
        Check.throwsArgument("a 17th lease", () -> full.leaseByTime(0, 0, 50, 1));
        Check.throwsArgument("a 17th lease", () -> full.leaseByLength(0, 0, 50, 1));
        Check.equal("the number of leases", full.leaseCount(), 16);
    }

    private static void bundlesThatDoNotFit() {
        Check.throwsArgument("a tag in use", () -> x.addBundle(1, 7, 1, 1, 1));
        Check.throwsArgument("the tag of a finished bundle", () -> x.addBundle(1, 3, 1, 1, 1));
        RollerLease full = Check.load("boiler 10 0;roller 1 1 0 0;customer a");
        for (int bundle = 0; bundle < 16; bundle++) {
            Check.equal("a bundle", full.addBundle(0, 99 - bundle, 1, 1, 1), bundle);
        }
        Check.throwsArgument("a 17th bundle", () -> full.addBundle(0, 0, 1, 1, 1));
        Check.equal("the number of bundles", full.bundleCount(), 16);
    }

    private static void slots() {
        indices("saveState", 2, s -> () -> x.saveState(s));
        indices("restoreState", 2, s -> () -> x.restoreState(s));
        Check.throwsState("slot 0", () -> x.restoreState(0));
        Check.throwsState("slot 1", () -> x.restoreState(1));
    }
}
