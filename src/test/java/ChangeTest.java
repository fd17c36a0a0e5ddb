/** Promises 56 to 65: the changes, undoing them, and the saved states. */
public final class ChangeTest {
    private static final String SETUP = "boiler 50 3;roller 3 5 2 1;roller 2 4 1 3;customer ann;customer bo;bundle 0 7 40 4 9;"
            + "bundle 1 3 9 9 5;bundle 0 2 8 6 99;time 0 0 0 9;length 1 1 2 12;service 0 3;pause 2;holiday 4 4;rate 5 9 150;"
            + "discount 1 25;fee 30 10";

    public static void main(String[] args) {
        promise56LeaseByTime();
        promise57LeaseByLength();
        promise58CancelLease();
        promise59SetValve();
        promise60AddBundle();
        promise61SetRefill();
        promise62UndoOfEachChange();
        promise62UndoOfAFeeAndOfUsedYards();
        promise63UndoCount();
        promise64And65SavedStates();
        promise65RestoredAfterManyChanges();
        aStateHoldsEverything();
        undoneBundlesAreGone();
        theFullLaundry();
        Check.finish("ChangeTest");
    }

    private static void promise56LeaseByTime() {
        RollerLease x = Check.load("boiler 10 0;roller 3 1 7 0;roller 1 1 2 0;customer a;customer b");
        Check.equal("the first lease", x.leaseByTime(1, 0, 4, 200), 0);
        Check.equal("the second lease", x.leaseByTime(0, 1, 0, 1), 1);
        Check.equal("the third lease", x.leaseByTime(0, 0, 0, 4), 2);
        Check.equal("the last minute", x.leaseByTime(0, 0, 999, 1), 3);
        Check.equal("customer", x.leaseCustomer(0), 1);
        Check.equal("roller", x.leaseRoller(1), 1);
        Check.equal("start", x.leaseStart(0), 4);
        Check.equal("end", x.leaseEnd(0), 204);
        Check.equal("yards", x.leaseYardsLeft(0), -1);
        Check.equal("it is charged", x.advance(6), 7 * 6 + 2);
        Check.equal("the current minute", x.leaseByTime(0, 1, 6, 1), 4);
    }

    private static void promise57LeaseByLength() {
        RollerLease x = Check.load("boiler 90 0;roller 3 1 7 2;roller 1 1 2 0;roller 9 1 0 0;customer a;customer b");
        Check.equal("yards that fill all minutes", x.leaseByLength(0, 0, 0, 9), 0);
        Check.equal("yards that do not", x.leaseByLength(1, 0, 3, 10), 1);
        Check.equal("one yard", x.leaseByLength(1, 0, 7, 1), 2);
        Check.equal("the longest", x.leaseByLength(1, 1, 800, 200), 3);
        Check.equal("a fast roller", x.leaseByLength(1, 2, 977, 200), 4);
        int[] ends = {3, 7, 8, 1000, 1000};
        int[] yards = {9, 10, 1, 200, 200};
        for (int lease = 0; lease < 5; lease++) {
            Check.equal("customer", x.leaseCustomer(lease), lease == 0 ? 0 : 1);
            Check.equal("end", x.leaseEnd(lease), ends[lease]);
            Check.equal("yards", x.leaseYardsLeft(lease), yards[lease]);
        }
        x.addBundle(0, 0, 99, 9, 99);
        Check.equal("it is charged by the yard", x.advance(4), 18);
    }

    private static void promise58CancelLease() {
        RollerLease x = Check.load("boiler 10 0;roller 3 1 7 0;customer a;customer b;fee 30 5;discount 1 50;time 0 0 3 2;time 1 0 5 2;"
                + "time 0 0 9 1;time 1 0 20 1;advance 3");
        Check.equal("the lease of now", x.cancelLease(0), 3);
        Check.equal("later leases move up", x.leaseStart(0), 5);
        Check.equal("the fee", x.bill(0), 30);
        Check.equal("its minutes are free again", x.leaseObstacle(0, 3, 2), 0);
        Check.equal("behind the notice time", x.cancelLease(2), 2);
        Check.equal("no fee", x.bill(1), 0);
        Check.equal("within the notice time", x.cancelLease(0), 1);
        Check.equal("the fee with a discount", x.bill(1), 15);
        Check.equal("revenue", x.revenue(), 45);
        Check.equal("the lease that is left", x.leaseStart(0), 9);
        Check.equal("the place is used again", x.leaseByTime(1, 0, 3, 1), 1);
        Check.equal("the new lease", x.leaseCustomer(1), 1);
        x.advance(1);
        Check.throwsArgument("a lease that has ended", () -> x.cancelLease(1));
        Check.equal("6 is not less than 5", x.cancelLease(0), 1);
        Check.equal("no fee for 5 minutes", x.bill(0), 30);
    }

    private static void promise59SetValve() {
        RollerLease x = Check.load("boiler 10 0;roller 3 1 7 0;roller 1 1 1 1;customer a;close 1");
        Check.isTrue("open and to be open", x.setValve(0, true));
        Check.isTrue("open before it is closed", x.setValve(0, false));
        Check.isFalse("closed before", x.setValve(0, false));
        Check.isFalse("now it is closed", x.isValveOpen(0));
        Check.isFalse("closed before it is opened", x.setValve(0, true));
        Check.isTrue("now it is open", x.isValveOpen(0));
        Check.isFalse("the other is closed", x.isValveOpen(1));
        Check.isFalse("the other was closed", x.setValve(1, true));
    }

    private static void promise60AddBundle() {
        RollerLease x = Check.load("boiler 99 0;roller 3 5 7 0;customer a;customer b;bundle 0 1 1 1 1");
        Check.equal("the least of all", x.addBundle(0, 0, 1, 1, 0), 1);
        Check.equal("the most of all", x.addBundle(1, 99, 200, 9, 999), 2);
        Check.equal("a third", x.addBundle(1, 50, 4, 4, 30), 3);
        int[][] bundles = {{0, 1, 1, 1}, {0, 0, 1, 0}, {1, 99, 200, 999}, {1, 50, 4, 30}};
        for (int b = 0; b < bundles.length; b++) {
            Check.equal("owner", x.bundleOwner(b), bundles[b][0]);
            Check.equal("tag", x.bundleTag(b), bundles[b][1]);
            Check.equal("yards", x.bundleYardsLeft(b), bundles[b][2]);
            Check.equal("deadline", x.bundleDeadline(b), bundles[b][3]);
            Check.equal("finish", x.bundleFinish(b), -1);
            Check.equal("scorched", x.bundleScorch(b), 0);
        }
        x.leaseByTime(1, 0, 0, 9);
        x.advance(3);
        Check.equal("the limit of 4 is below the heat", x.bundleScorch(3), 2);
        Check.equal("the limit of 9 is not", x.bundleScorch(2), 0);
        Check.equal("the bundle without a deadline is late", x.lateCount(), 2);
    }

    private static void promise61SetRefill() {
        RollerLease x = Check.load("boiler 60 4;roller 3 9 7 0;customer a;bundle 0 0 99 9 99;time 0 0 0 4;advance 4");
        Check.equal("the previous amount", x.setRefill(50), 4);
        Check.equal("the amount", x.steamRefill(), 50);
        Check.equal("steam", x.steam(), 40);
        x.advance(1);
        Check.equal("steam is at most the capacity", x.steam(), 60);
        Check.equal("the previous amount", x.setRefill(0), 50);
        Check.equal("the previous amount", x.setRefill(7), 0);
        x.undo();
        Check.equal("undone", x.steamRefill(), 0);
    }

    private static void promise62UndoOfEachChange() {
        RollerLease x = Check.load(SETUP);
        x.advance(6);
        String[] states = new String[9];
        states[1] = Check.dump(x);
        x.leaseByTime(1, 0, 20, 5);
        states[2] = Check.dump(x);
        x.leaseByLength(0, 1, 9, 30);
        states[3] = Check.dump(x);
        x.addBundle(1, 60, 9, 9, 9);
        states[4] = Check.dump(x);
        x.cancelLease(2);
        states[5] = Check.dump(x);
        x.setRefill(9);
        states[6] = Check.dump(x);
        x.setValve(0, false);
        states[7] = Check.dump(x);
        x.advance(10);
        states[8] = Check.dump(x);
        x.setValve(0, false);
        Check.same("a change that changed nothing", Check.dump(x), states[8]);
        for (int left = 7; left >= 0; left--) {
            Check.equal("undo", x.undo(), left);
            Check.equal("undoCount", x.undoCount(), left);
            Check.same("with " + left + " changes left", Check.dump(x), states[left + 1]);
        }
        Check.throwsState("nothing to undo", x::undo);
        Check.same("nothing is undone", Check.dump(x), states[1]);
    }

    private static void promise62UndoOfAFeeAndOfUsedYards() {
        RollerLease x = Check.load(SETUP + ";time 1 0 9 4");
        x.cancelLease(2);
        Check.equal("the fee: 30 less 25 percent", x.bill(1), 22);
        Check.equal("undo", x.undo(), 0);
        Check.equal("no fee", x.bill(1), 0);
        Check.equal("no revenue", x.revenue(), 0);
        Check.equal("the lease is back", x.leaseStart(2), 9);
        x.advance(9);
        Check.equal("yards of the lease", x.leaseYardsLeft(1), 3);
        Check.equal("undo", x.undo(), 0);
        Check.equal("yards of the lease", x.leaseYardsLeft(1), 12);
        Check.equal("the end of the lease", x.leaseEnd(1), 8);
        Check.equal("the finished bundle", x.bundleFinish(2), -1);
    }

    private static void promise63UndoCount() {
        RollerLease x = Check.load(SETUP);
        for (int change = 1; change <= 12; change++) {
            x.setRefill(change);
            Check.equal("undoCount", x.undoCount(), Math.min(change, 8));
        }
        for (int left = 7; left >= 5; left--) {
            Check.equal("undo", x.undo(), left);
            Check.equal("the refill", x.steamRefill(), left + 4);
        }
        x.setRefill(40);
        x.setRefill(41);
        Check.equal("undoCount", x.undoCount(), 7);
        int[] refills = {40, 9, 8, 7, 6, 5, 4};
        for (int refill : refills) {
            x.undo();
            Check.equal("the refill", x.steamRefill(), refill);
        }
        Check.throwsState("only 8 changes can be undone", x::undo);
        Check.throwsIndex("a call that throws", () -> x.setValve(9, true) ? 1 : 0);
        Check.throwsArgument("a call that throws", () -> x.advance(0));
        x.saveState(0);
        x.writeBills();
        x.steamAfter(3);
        Check.equal("no change", x.undoCount(), 0);
        x.advance(1);
        Check.equal("one change", x.undoCount(), 1);
    }

    private static void promise64And65SavedStates() {
        RollerLease x = Check.load(SETUP);
        x.advance(3);
        Check.equal("saveState", x.saveState(0), 3);
        String saved = Check.dump(x);
        x.advance(4);
        x.setValve(1, false);
        Check.equal("saveState", x.saveState(1), 7);
        Check.equal("saving clears no changes", x.undoCount(), 3);
        String later = Check.dump(x);
        Check.equal("undo behind a saved state", x.undo(), 2);
        Check.equal("restoreState", x.restoreState(0), 3);
        Check.same("the state", Check.dump(x), saved);
        Check.equal("no change can be undone", x.undoCount(), 0);
        Check.throwsState("undo", x::undo);
        x.advance(9);
        Check.equal("it stays saved", x.restoreState(0), 3);
        Check.same("the state", Check.dump(x), saved);
        Check.equal("the other slot", x.restoreState(1), 7);
        Check.same("its state", Check.dump(x), later);
        x.advance(1);
        Check.equal("saved again", x.saveState(0), 8);
        x.advance(1);
        Check.equal("restoreState", x.restoreState(0), 8);
        Check.equal("restored without a change", x.restoreState(0), 8);
    }

    private static void promise65RestoredAfterManyChanges() {
        RollerLease x = Check.load(SETUP);
        x.setRefill(1);
        x.setRefill(2);
        x.saveState(1);
        for (int refill = 3; refill < 20; refill++) {
            x.setRefill(refill);
        }
        Check.equal("restoreState", x.restoreState(1), 0);
        Check.equal("the refill", x.steamRefill(), 2);
        x.setRefill(30);
        Check.equal("undo", x.undo(), 0);
        Check.equal("the refill", x.steamRefill(), 2);
        Check.throwsState("the changes before are forgotten", x::undo);
    }

    /** What later minutes and cancellations do shows that no part of a state was left behind. */
    private static void aStateHoldsEverything() {
        RollerLease x = Check.load(SETUP + ";order 1;assign 0 0");
        x.advance(2);
        x.saveState(0);
        String[] due = new String[12];
        for (int minute = 0; minute < due.length; minute++) {
            due[minute] = Check.dump(x);
            x.advance(1);
        }
        for (int round = 0; round < 2; round++) {
            x.restoreState(0);
            for (int minute = 0; minute < due.length; minute++) {
                Check.same("minute " + (minute + 2) + " once more", Check.dump(x), due[minute]);
                x.advance(1);
            }
        }
    }

    private static void undoneBundlesAreGone() {
        RollerLease x = Check.load("boiler 99 9;roller 1 5 1 1;customer a;time 0 0 0 9");
        x.addBundle(0, 1, 2, 1, 0);
        x.saveState(0);
        x.advance(1);
        Check.equal("late", x.lateCount(), 1);
        Check.exact("scorched", x.averageScorch(), 1.0f);
        x.undo();
        x.undo();
        Check.equal("no bundle is late", x.lateCount(), 0);
        Check.exact("no bundle is scorched", x.averageScorch(), 0.0f);
        Check.equal("no bundle has the tag", x.findBundle(1), -1);
        x.addBundle(0, 2, 9, 9, 99);
        x.advance(2);
        x.restoreState(0);
        x.advance(1);
        Check.equal("the deadline of the saved bundle", x.bundleDeadline(0), 0);
        Check.equal("the limit of the saved bundle", x.bundleScorch(0), 1);
        Check.equal("the tag of the saved bundle", x.bundleTag(0), 1);
    }

    private static void theFullLaundry() {
        RollerLease x = Check.load("boiler 50 20;roller 1 1 1 1;roller 2 2 2 2;roller 3 3 3 3;roller 4 4 4 4;roller 5 5 5 5;"
                + "roller 6 6 6 6;customer a;customer b;customer c;customer d;customer e;customer f;holiday 9 9;holiday 8 8;"
                + "holiday 7 7;holiday 6 6;rate 1 1 50;rate 2 2 60;rate 3 3 70;rate 4 4 80;order 5 4 3 2 1 0");
        for (int i = 0; i < 16; i++) {
            Check.equal("a bundle", x.addBundle(i % 6, 90 - i, 9, 1 + i % 9, i), i);
            Check.equal("a lease", i % 2 == 0 ? x.leaseByTime(i % 6, i % 6, 10 * i, 9) : x.leaseByLength(i % 6, i % 6, 10 * i, 9), i);
        }
        String before = Check.dump(x);
        x.saveState(0);
        Check.equal("a new obstacle", x.leaseObstacle(0, 500, 1), 4);
        x.advance(200);
        int finished = 0;
        for (int b = 0; b < 16; b++) {
            finished += x.bundleFinish(b) != -1 ? 1 : 0;
            Check.equal("predictedFinish", x.predictedFinish(b), x.bundleFinish(b));
            Check.equal("finishIfAllOpen", x.finishIfAllOpen(b), x.bundleFinish(b));
        }
        // Three minutes of customer a's leases, at a yard a minute, are holidays: 3 yards are left of the first bundle.
        Check.equal("finished bundles", finished, 15);
        Check.equal("yards of the first bundle", x.bundleYardsLeft(0), 3);
        Check.equal("late bundles", x.lateCount(), 16);
        Check.isTrue("scorched bundles", x.averageScorch() > 0.0f);
        Check.equal("imbalance", x.imbalance(), 0);
        Check.equal("undo", x.undo(), 7);
        Check.same("undone", Check.dump(x), before);
        x.saveState(1);
        Check.equal("the last lease is cancelled", x.cancelLease(15), 15);
        Check.equal("restoreState", x.restoreState(1), 0);
        Check.same("restored", Check.dump(x), before);
        Check.equal("the last roller", x.cheapestRoller(1), 0);
    }
}
