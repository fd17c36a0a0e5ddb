/** The boundary cases of the calls, promises 8 to 65: the least and the greatest arguments, none, all, and one more. */
public final class BoundaryCallTest {
    private static final int MIN = Integer.MIN_VALUE;
    private static final int MAX = Integer.MAX_VALUE;
    private static final Class<?> STATE = IllegalStateException.class;
    private static final Class<?> INDEX = IndexOutOfBoundsException.class;
    private static final Class<?> ARGUMENT = IllegalArgumentException.class;

    private static final String LEAST = "boiler 10 0;roller 1 1 0 0;customer a";
    private static final String SIX = "boiler 500 50;repeat 5(roller 1 1 0 0);roller 9 8 7 6;customer a;customer b;customer c;"
            + "customer d;customer e;customer uvwxyz";

    public static void main(String[] args) {
        promises8To12AtFirst();
        promise13NothingAndAll();
        promises14To19FirstAndLastRoller();
        promise20NoStall();
        promise20StallsOfAnotherState();
        promise21FirstAndLastLease();
        promises22And23TheFirstReasonThatApplies();
        promise24NoneAndAllMinutes();
        promise26LettersBesideTheName();
        promises28To33FirstAndLastLease();
        promise34Starts();
        promise34Ends();
        promise34Neighbours();
        promise34SixteenLeases();
        promise35From();
        promise35Minutes();
        promise35NoneIsFree();
        promise36Yards();
        promise36Equal();
        promises37To43FirstAndLastBundle();
        promise44AnyTag();
        promises45And46None();
        promises47And48Minutes();
        promise49LastMinute();
        promise50LastMinute();
        promise51From();
        promise52Asterisks();
        promise53OneAndSix();
        promise54Bytes();
        promise55Minutes();
        promise56Boundaries();
        promise57Boundaries();
        promise58Boundaries();
        promise59NothingChanged();
        promise60Boundaries();
        promise60SixteenBundles();
        promise61Boundaries();
        promises62And63EightChanges();
        promises62And63Restart();
        promises62And63BesideOtherCalls();
        promises64And65Slots();
        promises64And65Overwritten();
        promise65WithoutASavedState();
        Check.finish("BoundaryCallTest");
    }

    // ---- promises 8 to 13: boiler and accounts

    private static void promises8To12AtFirst() {
        RollerLease x = Check.load(LEAST);
        Check.equal("minute", x.minute(), 0);
        Check.equal("steam", x.steam(), 10);
        Check.equal("steamCapacity", x.steamCapacity(), 10);
        Check.equal("steamRefill", x.steamRefill(), 0);
        Check.equal("revenue", x.revenue(), 0);
        x = Check.load(SIX);
        Check.equal("steam of the greatest boiler", x.steam(), 500);
        Check.equal("steamCapacity", x.steamCapacity(), 500);
        Check.equal("steamRefill", x.steamRefill(), 50);
        x.advance(1);
        Check.equal("the first minute", x.minute(), 1);
        Check.equal("full as it is", x.steam(), 500);
    }

    private static void promise13NothingAndAll() {
        Check.equal("without a lease", Check.load(LEAST).imbalance(), 0);
        RollerLease x = Check.load(SIX + ";rate 0 20 133;discount 1 33;discount 5 50;fee 99 200");
        for (int lease = 0; lease < 16; lease++) {
            x.leaseByTime(lease % 6, 5, lease, 1);
        }
        Check.equal("leases that meet do not overlap", x.imbalance(), 0);
        x.advance(8);
        x.cancelLease(15);
        x.cancelLease(8);
        Check.equal("uneven charges", x.imbalance(), 0);
        x.advance(300);
        Check.equal("later", x.imbalance(), 0);
    }

    // ---- promises 14 to 24: rollers

    private static void promises14To19FirstAndLastRoller() {
        RollerLease x = Check.load(SIX + ";close 5");
        Check.equal("rollerCount", x.rollerCount(), 6);
        Check.equal("rollerSpeed(0)", x.rollerSpeed(0), 1);
        Check.equal("rollerSpeed(5)", x.rollerSpeed(5), 9);
        Check.equal("rollerHeat(0)", x.rollerHeat(0), 1);
        Check.equal("rollerHeat(5)", x.rollerHeat(5), 8);
        Check.equal("minutePrice(0)", x.minutePrice(0), 0);
        Check.equal("minutePrice(5)", x.minutePrice(5), 7);
        Check.equal("yardPrice(0)", x.yardPrice(0), 0);
        Check.equal("yardPrice(5)", x.yardPrice(5), 6);
        Check.isTrue("isValveOpen(4)", x.isValveOpen(4));
        Check.isFalse("isValveOpen(5)", x.isValveOpen(5));
        x = Check.load("boiler 10 0;roller 9 9 50 50;customer a");
        Check.equal("rollerCount", x.rollerCount(), 1);
        Check.equal("the greatest speed", x.rollerSpeed(0), 9);
        Check.equal("the greatest heat", x.rollerHeat(0), 9);
        Check.equal("the greatest price per minute", x.minutePrice(0), 50);
        Check.equal("the greatest price per yard", x.yardPrice(0), 50);
    }

    private static void promise20NoStall() {
        // Only what is idle for want of steam stalls: not without a lease, a bundle or an open valve.
        RollerLease x = Check.load("boiler 10 0;roller 1 9 0 0;customer a;bundle 0 0 9 9 9;time 0 0 0 2;time 0 0 5 9");
        int[] stalls = {0, 0, 1, 1, 1, 1, 2};
        for (int due : stalls) {
            Check.equal("stalls in minute " + x.minute(), x.stallCount(0), due);
            x.advance(1);
        }
        x.setValve(0, false);
        x.advance(5);
        Check.equal("a closed valve", x.stallCount(0), 3);
    }

    private static void promise20StallsOfAnotherState() {
        RollerLease x = Check.load("boiler 10 0;roller 1 9 0 0;customer a;bundle 0 0 9 9 9;time 0 0 0 99");
        x.advance(3);
        x.saveState(0);
        Check.equal("stalls", x.stallCount(0), 2);
        x.steamAfter(9);
        Check.equal("predicted ones do not count", x.stallCount(0), 2);
        x.undo();
        Check.equal("undone", x.stallCount(0), 0);
        x.restoreState(0);
        Check.equal("restored", x.stallCount(0), 2);
        x.advance(1);
        Check.equal("one more", x.stallCount(0), 3);
        x.undo();
        Check.equal("one less", x.stallCount(0), 2);
    }

    private static void promise21FirstAndLastLease() {
        RollerLease x = Check.load(SIX);
        for (int r = 0; r < 6; r++) {
            Check.equal("no lease at all", x.activeLease(r), -1);
        }
        for (int lease = 0; lease < 16; lease++) {
            x.leaseByTime(0, 5, 15 - lease, 1);
        }
        for (int minute = 0; minute < 16; minute++) {
            Check.equal("activeLease(5) in minute " + minute, x.activeLease(5), 15 - minute);
            Check.equal("activeLease(0) in minute " + minute, x.activeLease(0), -1);
            x.advance(1);
        }
        Check.equal("behind the last", x.activeLease(5), -1);
    }

    private static void promises22And23TheFirstReasonThatApplies() {
        RollerLease x = Check.load("boiler 10 0;roller 1 9 0 0;customer a;customer b;bundle 0 0 5 9 9;service 0 1;pause 20;"
                + "time 0 0 0 1;advance 1;holiday 1 2;time 0 0 2 2;time 1 0 4 99;close 0");
        // All of them apply in minute 2 but the first: holiday, service, valve, (bundle,) steam.
        int[] reasons = {1, 6, 5, 5};
        for (int reason : reasons) {
            Check.equal("idleReason in minute " + x.minute(), x.idleReason(0), reason);
            Check.equal("nextBundle in minute " + x.minute(), x.nextBundle(0), -1);
            x.advance(1);
        }
        x.advance(15);
        Check.equal("the last minute of the service", x.idleReason(0), 5);
        x.advance(1);
        Check.equal("behind the service", x.idleReason(0), 2);
        x.setValve(0, true);
        Check.equal("with an open valve", x.idleReason(0), 3);
        x.addBundle(1, 99, 1, 1, 0);
        Check.equal("with a bundle", x.idleReason(0), 4);
        Check.equal("nextBundle", x.nextBundle(0), -1);
        x.setRefill(8);
        x.advance(1);
        Check.equal("with just the steam it needs", x.idleReason(0), 0);
        Check.equal("nextBundle", x.nextBundle(0), 1);
    }

    private static void promise24NoneAndAllMinutes() {
        RollerLease x = Check.load("boiler 10 9;roller 1 9 0 0;roller 1 1 0 0;customer a;bundle 0 0 99 9 9;time 0 0 0 2");
        Check.exact("in minute 0", x.utilization(0), 0.0);
        x.advance(1);
        Check.exact("all minutes", x.utilization(0), 1.0);
        Check.exact("no minute", x.utilization(1), 0.0);
        x.advance(2);
        Check.exact("two of three", x.utilization(0), 2.0 / 3.0);
        x.undo();
        x.undo();
        Check.exact("in minute 0 again", x.utilization(0), 0.0);
    }

    // ---- promises 25 to 33: customers and leases

    private static void promise26LettersBesideTheName() {
        RollerLease x = Check.load(SIX);
        Check.equal("customerCount", x.customerCount(), 6);
        Check.equal("the first letter", x.customerLetter(5, 0), 'u');
        Check.equal("the last letter", x.customerLetter(5, 5), 'z');
        int[] beside = {-1, 6, MIN, MAX};
        for (int index : beside) {
            Check.equal("letter " + index, x.customerLetter(5, index), -1);
            Check.equal("letter " + index + " of one", x.customerLetter(0, index), -1);
        }
        Check.equal("letter 1 of one", x.customerLetter(0, 1), -1);
        Check.refused(x, "customer 6", INDEX, () -> x.customerLetter(6, 0));
        Check.refused(x, "customer -1", INDEX, () -> x.customerLetter(-1, MIN));
    }

    private static void promises28To33FirstAndLastLease() {
        RollerLease x = Check.load(SIX);
        Check.equal("no lease", x.leaseCount(), 0);
        for (int lease = 0; lease < 15; lease++) {
            x.leaseByTime(0, 0, lease, 1);
        }
        x.leaseByLength(5, 5, 977, 200);
        Check.equal("leaseCount", x.leaseCount(), 16);
        Check.equal("leaseCustomer(0)", x.leaseCustomer(0), 0);
        Check.equal("leaseCustomer(15)", x.leaseCustomer(15), 5);
        Check.equal("leaseRoller(15)", x.leaseRoller(15), 5);
        Check.equal("leaseStart(0)", x.leaseStart(0), 0);
        Check.equal("leaseStart(15)", x.leaseStart(15), 977);
        Check.equal("leaseEnd(0)", x.leaseEnd(0), 1);
        Check.equal("leaseEnd(15)", x.leaseEnd(15), 1000);
        Check.equal("leaseYardsLeft(0)", x.leaseYardsLeft(0), -1);
        Check.equal("leaseYardsLeft(15)", x.leaseYardsLeft(15), 200);
        x.cancelLease(0);
        Check.equal("leaseRoller(14)", x.leaseRoller(14), 5);
        Check.refused(x, "lease 15", INDEX, () -> x.leaseRoller(15));
    }

    // ---- promises 34 to 36: looking for a lease

    private static void obstacle(RollerLease x, int start, int minutes, int due) {
        Check.equal("leaseObstacle(0, " + start + ", " + minutes + ")", x.leaseObstacle(0, start, minutes), due);
    }

    private static void promise34Starts() {
        RollerLease x = Check.load(LEAST);
        obstacle(x, 0, 1, 0);
        obstacle(x, -1, 1, 1);
        obstacle(x, MIN, 1, 1);
        obstacle(x, MIN, 200, 1);
        x.advance(5);
        obstacle(x, 5, 1, 0);
        obstacle(x, 4, 1, 1);
        obstacle(x, 4, 200, 1);
        obstacle(x, 0, 200, 1);
        obstacle(x, MIN, 200, 1);
    }

    private static void promise34Ends() {
        RollerLease x = Check.load(LEAST);
        obstacle(x, 999, 1, 0);
        obstacle(x, 999, 2, 2);
        obstacle(x, 1000, 1, 2);
        obstacle(x, 800, 200, 0);
        obstacle(x, 801, 200, 2);
        // Sums that would wrap around to a small end.
        obstacle(x, MAX, 1, 2);
        obstacle(x, MAX, 200, 2);
        obstacle(x, MAX - 199, 200, 2);
        obstacle(x, MAX - 200, 200, 2);
        Check.accepts(x, LEAST + ";repeat 3(advance 300);advance 99");
        obstacle(x, 999, 1, 0);
        obstacle(x, 998, 200, 1);
        x.advance(1);
        obstacle(x, 999, 1, 1);
        obstacle(x, 1000, 1, 2);
        obstacle(x, MAX, 200, 2);
        x.advance(300);
        obstacle(x, 1000, 200, 1);
        obstacle(x, 1300, 1, 2);
    }

    private static void promise34Neighbours() {
        RollerLease x = Check.load(LEAST + ";time 0 0 10 1;time 0 0 990 10");
        obstacle(x, 9, 1, 0);
        obstacle(x, 10, 1, 3);
        obstacle(x, 11, 1, 0);
        obstacle(x, 9, 2, 3);
        obstacle(x, 0, 10, 0);
        obstacle(x, 0, 200, 3);
        obstacle(x, 11, 200, 0);
        obstacle(x, 790, 200, 0);
        obstacle(x, 791, 199, 0);
        obstacle(x, 791, 200, 3);
        obstacle(x, 999, 1, 3);
        obstacle(x, 999, 2, 2);
        x.advance(11);
        obstacle(x, 10, 1, 1);
    }

    private static void promise34SixteenLeases() {
        RollerLease x = Check.load(LEAST);
        for (int lease = 0; lease < 16; lease++) {
            obstacle(x, 500, 1, 0);
            x.leaseByTime(0, 0, 2 * lease + 1, 1);
        }
        obstacle(x, 500, 1, 4);
        obstacle(x, 0, 1, 4);
        obstacle(x, 1, 1, 3);
        obstacle(x, 999, 2, 2);
        obstacle(x, -1, 1, 1);
        x.advance(300);
        obstacle(x, 300, 1, 4);
        x.undo();
        x.cancelLease(15);
        obstacle(x, 500, 1, 0);
        obstacle(x, 31, 1, 0);
    }

    private static void free(RollerLease x, int from, int minutes, int due) {
        Check.equal("firstFreeStart(0, " + from + ", " + minutes + ")", x.firstFreeStart(0, from, minutes), due);
    }

    private static void promise35From() {
        RollerLease x = Check.load(LEAST + ";time 0 0 2 3");
        free(x, 0, 1, 0);
        free(x, 1, 1, 1);
        free(x, 2, 1, 5);
        free(x, 4, 1, 5);
        free(x, 5, 1, 5);
        free(x, -1, 1, 0);
        free(x, MIN, 200, 5);
        free(x, 999, 1, 999);
        free(x, 1000, 1, -1);
        free(x, MAX, 1, -1);
        free(x, MAX, 200, -1);
        free(x, MAX - 200, 200, -1);
        x.advance(1);
        free(x, 0, 1, 1);
        x.advance(1);
        free(x, 0, 1, 5);
        x.advance(4);
        free(x, 5, 1, 6);
        free(x, MIN, 1, 6);
    }

    private static void promise35Minutes() {
        RollerLease x = Check.load(LEAST + ";time 0 0 1 1;time 0 0 3 1;time 0 0 6 1;time 0 0 207 1");
        free(x, 0, 1, 0);
        free(x, 1, 1, 2);
        free(x, 0, 2, 4);
        free(x, 0, 3, 7);
        free(x, 0, 200, 7);
        free(x, 8, 200, 208);
        free(x, 800, 200, 800);
        free(x, 801, 200, -1);
        free(x, 801, 199, 801);
        Check.refused(x, "0 minutes", ARGUMENT, () -> x.firstFreeStart(0, 0, 0));
        Check.refused(x, "201 minutes", ARGUMENT, () -> x.firstFreeStart(0, 0, 201));
    }

    private static void promise35NoneIsFree() {
        RollerLease x = Check.load(LEAST + ";time 0 0 0 200;time 0 0 200 200;time 0 0 400 200;time 0 0 600 200;time 0 0 800 199");
        free(x, 0, 1, 999);
        free(x, 0, 2, -1);
        x.leaseByTime(0, 0, 999, 1);
        free(x, 0, 1, -1);
        x.cancelLease(0);
        free(x, 0, 200, 0);
        free(x, 1, 200, -1);
        // The number of leases does not matter.
        RollerLease full = Check.load(LEAST);
        for (int lease = 0; lease < 16; lease++) {
            full.leaseByTime(0, 0, lease, 1);
        }
        free(full, 0, 1, 16);
        Check.equal("though there is an obstacle", full.leaseObstacle(0, 16, 1), 4);
        full.advance(300);
        full.advance(300);
        full.advance(300);
        full.advance(99);
        free(full, 0, 1, 999);
        full.advance(1);
        free(full, 0, 1, -1);
        full.advance(300);
        free(full, 0, 1, -1);
    }

    private static void promise36Yards() {
        RollerLease x = Check.load("boiler 10 0;roller 9 1 50 50;roller 1 1 1 50;customer a");
        // 50 a started 9 yards against 1 a yard.
        Check.equal("1 yard", x.cheapestRoller(1), 1);
        Check.equal("200 yards", x.cheapestRoller(200), 1);
        RollerLease one = Check.load("boiler 10 0;roller 1 1 50 50;customer a");
        Check.equal("the only roller", one.cheapestRoller(1), 0);
        Check.equal("the only roller", one.cheapestRoller(200), 0);
        RollerLease last = Check.load("boiler 10 0;repeat 5(roller 1 1 50 50);roller 1 1 50 49;customer a");
        Check.equal("the last of six", last.cheapestRoller(1), 5);
        Check.equal("the last of six", last.cheapestRoller(200), 5);
        // The minutes are rounded up: 9 yards are one minute, and 10 are two.
        RollerLease two = Check.load("boiler 10 0;roller 1 1 50 5;roller 9 1 45 50;customer a");
        Check.equal("8 yards: 40 and 45", two.cheapestRoller(8), 0);
        Check.equal("9 yards: 45 and 45", two.cheapestRoller(9), 0);
        Check.equal("10 yards: 50 and 90", two.cheapestRoller(10), 0);
        RollerLease less = Check.load("boiler 10 0;roller 1 1 50 5;roller 9 1 44 50;customer a");
        Check.equal("8 yards: 40 and 44", less.cheapestRoller(8), 0);
        Check.equal("9 yards: 45 and 44", less.cheapestRoller(9), 1);
        Check.equal("10 yards: 50 and 88", less.cheapestRoller(10), 0);
        Check.equal("18 yards: 90 and 88", less.cheapestRoller(18), 1);
    }

    private static void promise36Equal() {
        Check.equal("all are free", Check.load(SIX.replace("9 8 7 6", "9 8 0 6")).cheapestRoller(200), 0);
        RollerLease x = Check.load("boiler 10 0;roller 1 1 9 9;roller 1 1 8 50;roller 1 1 50 8;roller 1 1 8 8;customer a");
        Check.equal("of several the smallest", x.cheapestRoller(7), 1);
        RollerLease none = Check.load("boiler 10 0;roller 1 1 9 9;roller 1 1 50 0;roller 1 1 0 50;customer a");
        Check.equal("one of its prices is 0", none.cheapestRoller(1), 1);
    }

    // ---- promises 37 to 46: bundles

    private static void promises37To43FirstAndLastBundle() {
        RollerLease x = Check.load(SIX);
        Check.equal("no bundle", x.bundleCount(), 0);
        for (int bundle = 0; bundle < 15; bundle++) {
            x.addBundle(0, bundle, 1, 1, 0);
        }
        x.addBundle(5, 99, 200, 7, 999);
        Check.equal("bundleCount", x.bundleCount(), 16);
        Check.equal("bundleOwner(0)", x.bundleOwner(0), 0);
        Check.equal("bundleOwner(15)", x.bundleOwner(15), 5);
        Check.equal("bundleTag(0)", x.bundleTag(0), 0);
        Check.equal("bundleTag(15)", x.bundleTag(15), 99);
        Check.equal("bundleYardsLeft(0)", x.bundleYardsLeft(0), 1);
        Check.equal("bundleYardsLeft(15)", x.bundleYardsLeft(15), 200);
        Check.equal("bundleDeadline(0)", x.bundleDeadline(0), 0);
        Check.equal("bundleDeadline(15)", x.bundleDeadline(15), 999);
        x.leaseByTime(5, 5, 0, 200);
        x.advance(22);
        Check.equal("the last yards", x.bundleYardsLeft(15), 2);
        Check.equal("not finished", x.bundleFinish(15), -1);
        x.advance(1);
        Check.equal("finished", x.bundleFinish(15), 23);
        Check.equal("no yards", x.bundleYardsLeft(15), 0);
        Check.equal("scorched in all its minutes", x.bundleScorch(15), 23);
        Check.equal("never scorched", x.bundleScorch(0), 0);
    }

    private static void promise44AnyTag() {
        RollerLease x = Check.load(SIX);
        int[] tags = {MIN, -1, 0, 50, 99, 100, MAX};
        for (int tag : tags) {
            Check.equal("without bundles, tag " + tag, x.findBundle(tag), -1);
        }
        for (int bundle = 0; bundle < 16; bundle++) {
            x.addBundle(0, bundle == 0 ? 99 : 15 - bundle, 1, 1, 0);
        }
        Check.equal("tag 99", x.findBundle(99), 0);
        Check.equal("tag 0", x.findBundle(0), 15);
        Check.equal("tag 15", x.findBundle(15), -1);
        // What a row held before it was undone is no bundle any more.
        x.undo();
        Check.equal("an undone tag", x.findBundle(0), -1);
        int[] none = {MIN, -1, 100, 256, MAX};
        for (int tag : none) {
            Check.equal("tag " + tag, x.findBundle(tag), -1);
        }
    }

    private static void promises45And46None() {
        RollerLease x = Check.load(LEAST);
        Check.equal("no bundle is late", x.lateCount(), 0);
        Check.exact("without bundles", x.averageScorch(), 0.0f);
        x.addBundle(0, 0, 1, 1, 0);
        Check.equal("in minute 0", x.lateCount(), 0);
        Check.exact("one without a scorched minute", x.averageScorch(), 0.0f);
        x.advance(1);
        Check.equal("in minute 1", x.lateCount(), 1);
        RollerLease all = Check.load(SIX + ";time 0 5 0 200");
        for (int bundle = 0; bundle < 16; bundle++) {
            all.addBundle(0, bundle, 9, 7, bundle);
        }
        all.advance(16);
        // Bundle b is finished in minute b + 1, each one a minute too late.
        Check.equal("all are late", all.lateCount(), 16);
        Check.exact("all are scorched", all.averageScorch(), 1.0f);
        all.undo();
        Check.equal("none is late", all.lateCount(), 0);
        all.advance(7);
        Check.exact("7 of 16", all.averageScorch(), 0.4375f);
    }

    // ---- promises 47 to 50: predictions

    private static void promises47And48Minutes() {
        RollerLease x = Check.load("boiler 500 1;roller 1 2 3 0;customer a;bundle 0 0 200 9 9;"
                + "bundle 0 1 200 9 9;time 0 0 0 200;time 0 0 200 200");
        Check.equal("steamAfter(0)", x.steamAfter(0), 500);
        Check.equal("steamAfter(1)", x.steamAfter(1), 499);
        Check.equal("steamAfter(300)", x.steamAfter(300), 200);
        Check.equal("revenueAfter(0)", x.revenueAfter(0), 0);
        Check.equal("revenueAfter(1)", x.revenueAfter(1), 3);
        Check.equal("revenueAfter(300)", x.revenueAfter(300), 900);
        x.advance(300);
        Check.equal("steamAfter(0) later", x.steamAfter(0), 200);
        Check.equal("steamAfter(300) later", x.steamAfter(300), 300);
        Check.equal("revenueAfter(0) later", x.revenueAfter(0), 900);
        Check.equal("revenueAfter(300) later", x.revenueAfter(300), 1200);
        int[] outside = {-1, 301, MIN, MAX};
        for (int minutes : outside) {
            Check.refused(x, "steamAfter(" + minutes + ")", ARGUMENT, () -> x.steamAfter(minutes));
            Check.refused(x, "revenueAfter(" + minutes + ")", ARGUMENT, () -> x.revenueAfter(minutes));
        }
    }

    private static void promise49LastMinute() {
        RollerLease x = Check.load(LEAST + ";bundle 0 0 1 9 9;time 0 0 499 1");
        Check.equal("finished in minute 500", x.predictedFinish(0), 500);
        x = Check.load(LEAST + ";bundle 0 0 1 9 9;time 0 0 500 1");
        Check.equal("finished in minute 501", x.predictedFinish(0), -1);
        x.advance(1);
        Check.equal("500 minutes from now", x.predictedFinish(0), 501);
        x.advance(300);
        x.advance(199);
        Check.equal("a minute from now", x.predictedFinish(0), 501);
        x.advance(1);
        Check.equal("finished now", x.predictedFinish(0), 501);
        x.advance(300);
        x.advance(300);
        Check.equal("finished more than 500 minutes ago", x.predictedFinish(0), 501);
        x.addBundle(0, 1, 1, 1, 1);
        Check.equal("no lease any more", x.predictedFinish(1), -1);
        RollerLease first = Check.load(LEAST + ";bundle 0 0 1 9 9;time 0 0 0 1");
        Check.equal("the first minute", first.predictedFinish(0), 1);
        RollerLease last = Check.load(LEAST + ";bundle 0 0 1 9 9;time 0 0 999 1;repeat 5(advance 100)");
        Check.equal("the last minute of all", last.predictedFinish(0), 1000);
    }

    private static void promise50LastMinute() {
        String closed = LEAST + ";close 0;bundle 0 0 1 9 9;";
        RollerLease x = Check.load(closed + "time 0 0 499 1");
        Check.equal("all open, in minute 500", x.finishIfAllOpen(0), 500);
        Check.equal("closed", x.predictedFinish(0), -1);
        x = Check.load(closed + "time 0 0 500 1");
        Check.equal("all open, in minute 501", x.finishIfAllOpen(0), -1);
        x.advance(1);
        Check.equal("500 minutes from now", x.finishIfAllOpen(0), 501);
        x.setValve(0, true);
        x.advance(300);
        x.advance(300);
        x.setValve(0, false);
        Check.equal("finished already", x.finishIfAllOpen(0), 501);
        RollerLease six = Check.load(SIX + ";close 5;close 0;bundle 5 0 200 9 9;time 5 5 0 200");
        Check.equal("all of six are opened", six.finishIfAllOpen(0), 23);
        Check.isFalse("none is", six.isValveOpen(5));
        Check.isFalse("none is", six.isValveOpen(0));
    }

    // ---- promises 51 to 54: the output

    private static void promise51From() {
        RollerLease x = Check.load(SIX);
        Check.written(x, x.writeSchedule(0, 0), "....................");
        Check.written(x, x.writeSchedule(5, 1000), "....................");
        x.leaseByTime(5, 5, 999, 1);
        x.leaseByTime(0, 5, 0, 1);
        x.leaseByTime(1, 5, 20, 1);
        Check.written(x, x.writeSchedule(5, 0), "a...................");
        Check.written(x, x.writeSchedule(5, 1), "...................b");
        Check.written(x, x.writeSchedule(5, 980), "...................u");
        Check.written(x, x.writeSchedule(5, 979), "....................");
        Check.written(x, x.writeSchedule(5, 999), "u...................");
        Check.written(x, x.writeSchedule(5, 1000), "....................");
        Check.written(x, x.writeSchedule(0, 0), "....................");
        Check.refused(x, "from -1", ARGUMENT, () -> x.writeSchedule(0, -1));
        Check.refused(x, "from 1001", ARGUMENT, () -> x.writeSchedule(0, 1001));
        Check.refused(x, "from the greatest", ARGUMENT, () -> x.writeSchedule(0, MAX));
        x.advance(300);
        Check.written(x, x.writeSchedule(5, 0), "a...................");
    }

    private static void promise52Asterisks() {
        RollerLease x = Check.load("boiler 500 50;roller 1 9 0 0;customer a;bundle 0 0 11 8 10;"
                + "bundle 0 99 200 9 0;time 0 0 0 11");
        Check.written(x, x.writeBundle(1), "99:200");
        String asterisks = "";
        for (int minute = 0; minute < 10; minute++) {
            Check.written(x, x.writeBundle(0), "0:" + (11 - minute) + asterisks);
            x.advance(1);
            asterisks = minute < 9 ? asterisks + "*" : asterisks;
        }
        Check.written(x, x.writeBundle(0), "0:1*********");
        Check.written(x, x.writeBundle(1), "99:200!");
        x.advance(1);
        Check.equal("eleven minutes", x.bundleScorch(0), 11);
        Check.written(x, x.writeBundle(0), "0:0!*********");
        RollerLease most = Check.load(LEAST + ";bundle 0 10 200 9 9;bundle 0 1 200 9 9;merge 0 1");
        Check.written(most, most.writeBundle(0), "10:400");
    }

    private static void promise53OneAndSix() {
        RollerLease one = Check.load(LEAST);
        Check.written(one, one.writeBills(), "a=0");
        RollerLease six = Check.load(SIX + ";time 5 5 0 200;advance 200");
        Check.written(six, six.writeBills(), "a=0 b=0 c=0 d=0 e=0 uvwxyz=1400");
    }

    private static void promise54Bytes() {
        RollerLease x = Check.load(LEAST + ";bundle 0 0 1 9 9");
        Check.refused(x, "before the first output", INDEX, () -> x.outputByte(0));
        Check.refused(x, "a bundle that is none writes nothing", INDEX, () -> x.writeBundle(1));
        Check.refused(x, "a schedule that is none writes nothing", INDEX, () -> x.writeSchedule(1, 0));
        Check.refused(x, "still before the first output", INDEX, () -> x.outputByte(0));
        Check.equal("the length", x.writeSchedule(0, 0), 20);
        Check.equal("the first byte", x.outputByte(0), '.');
        Check.equal("the last byte", x.outputByte(19), '.');
        int[] none = {-1, 20, MIN, MAX};
        for (int index : none) {
            Check.refused(x, "byte " + index, INDEX, () -> x.outputByte(index));
        }
        Check.equal("a shorter output", x.writeBundle(0), 3);
        Check.equal("its last byte", x.outputByte(2), '1');
        Check.refused(x, "nothing of the longer one is left", INDEX, () -> x.outputByte(3));
        Check.equal("a longer output", x.writeSchedule(0, 0), 20);
        Check.equal("its last byte", x.outputByte(19), '.');
    }

    // ---- promises 55 to 61: changes

    private static void promise55Minutes() {
        RollerLease x = Check.load("boiler 10 0;roller 1 1 7 0;customer a;time 0 0 0 200;time 0 0 200 200");
        int[] outside = {0, -1, 301, MIN, MAX};
        for (int minutes : outside) {
            Check.refused(x, "advance(" + minutes + ")", ARGUMENT, () -> x.advance(minutes));
        }
        Check.equal("one minute", x.advance(1), 7);
        Check.equal("300 minutes", x.advance(300), 2100);
        Check.equal("minute", x.minute(), 301);
        Check.equal("299 minutes", x.advance(299), 99 * 7);
        Check.equal("nothing is charged", x.advance(1), 0);
    }

    private static void promise56Boundaries() {
        RollerLease x = Check.load(SIX + ";advance 5");
        Check.equal("the current minute", x.leaseByTime(0, 0, 5, 1), 0);
        Check.equal("the next one", x.leaseByTime(5, 0, 6, 200), 1);
        Check.equal("up to the last minute", x.leaseByTime(5, 5, 800, 200), 2);
        Check.refused(x, "before the current minute", ARGUMENT, () -> x.leaseByTime(0, 1, 4, 1));
        Check.refused(x, "far before it", ARGUMENT, () -> x.leaseByTime(0, 1, MIN, 1));
        Check.refused(x, "beyond the last minute", ARGUMENT, () -> x.leaseByTime(0, 1, 801, 200));
        Check.refused(x, "a sum that wraps around", ARGUMENT, () -> x.leaseByTime(0, 1, MAX, 1));
        Check.refused(x, "a sum that wraps around", ARGUMENT, () -> x.leaseByTime(0, 1, MAX, 200));
        Check.refused(x, "in its last minute", ARGUMENT, () -> x.leaseByTime(0, 0, 205, 1));
        Check.equal("at its end", x.leaseByTime(0, 0, 206, 1), 3);
        Check.refused(x, "no minutes", ARGUMENT, () -> x.leaseByTime(0, 1, 5, 0));
        Check.refused(x, "201 minutes", ARGUMENT, () -> x.leaseByTime(0, 1, 5, 201));
        Check.refused(x, "the most minutes", ARGUMENT, () -> x.leaseByTime(0, 1, 5, MAX));
        Check.refused(x, "no such customer comes first", INDEX, () -> x.leaseByTime(6, 0, 4, 0));
        Check.refused(x, "no such roller comes first", INDEX, () -> x.leaseByTime(0, 6, 4, 0));
        for (int lease = 4; lease < 16; lease++) {
            Check.equal("leaseByTime", x.leaseByTime(0, 1, 5 + lease, 1), lease);
        }
        Check.refused(x, "a 17th lease", ARGUMENT, () -> x.leaseByTime(0, 2, 5, 1));
    }

    private static void promise57Boundaries() {
        RollerLease x = Check.load(SIX + ";advance 5");
        Check.equal("the current minute", x.leaseByLength(0, 5, 5, 9), 0);
        Check.equal("its end", x.leaseEnd(0), 6);
        Check.equal("the next one", x.leaseByLength(5, 5, 6, 200), 1);
        Check.equal("its end", x.leaseEnd(1), 29);
        Check.equal("up to the last minute", x.leaseByLength(5, 5, 977, 200), 2);
        Check.refused(x, "before the current minute", ARGUMENT, () -> x.leaseByLength(0, 1, 4, 1));
        Check.refused(x, "far before it", ARGUMENT, () -> x.leaseByLength(0, 1, MIN, 1));
        Check.refused(x, "beyond the last minute", ARGUMENT, () -> x.leaseByLength(0, 1, 801, 200));
        Check.refused(x, "a sum that wraps around", ARGUMENT, () -> x.leaseByLength(0, 1, MAX, 1));
        Check.refused(x, "a sum that wraps around", ARGUMENT, () -> x.leaseByLength(0, 1, MAX, 200));
        Check.refused(x, "in its last minute", ARGUMENT, () -> x.leaseByLength(0, 5, 28, 1));
        Check.equal("at its end", x.leaseByLength(0, 5, 29, 1), 3);
        Check.refused(x, "no yards", ARGUMENT, () -> x.leaseByLength(0, 1, 5, 0));
        Check.refused(x, "201 yards", ARGUMENT, () -> x.leaseByLength(0, 1, 5, 201));
        Check.refused(x, "the most yards", ARGUMENT, () -> x.leaseByLength(0, 1, 5, MAX));
        Check.refused(x, "no such customer comes first", INDEX, () -> x.leaseByLength(6, 0, 4, 0));
        Check.refused(x, "no such roller comes first", INDEX, () -> x.leaseByLength(0, 6, 4, 0));
        for (int lease = 4; lease < 16; lease++) {
            Check.equal("leaseByLength", x.leaseByLength(0, 1, 5 + lease, 1), lease);
        }
        Check.refused(x, "a 17th lease", ARGUMENT, () -> x.leaseByLength(0, 2, 5, 1));
    }

    private static void promise58Boundaries() {
        RollerLease x = Check.load(LEAST + ";fee 9 200");
        for (int lease = 0; lease < 16; lease++) {
            x.leaseByTime(0, 0, lease + 3, 1);
        }
        x.advance(4);
        Check.refused(x, "a minute before now", ARGUMENT, () -> x.cancelLease(0));
        Check.refused(x, "lease 16", INDEX, () -> x.cancelLease(16));
        Check.equal("the last one", x.cancelLease(15), 15);
        Check.refused(x, "it is gone", INDEX, () -> x.cancelLease(15));
        Check.equal("the current minute", x.cancelLease(1), 14);
        Check.equal("the next one moves up", x.leaseStart(1), 5);
        for (int left = 13; left >= 1; left--) {
            Check.equal("cancelLease", x.cancelLease(1), left);
        }
        Check.refused(x, "only the first is left", INDEX, () -> x.cancelLease(1));
        Check.equal("the fees", x.revenue(), 15 * 9);
        Check.equal("its place is free", x.leaseByTime(0, 0, 4, 1), 1);
        RollerLease one = Check.load(LEAST + ";time 0 0 999 1");
        Check.equal("the only lease", one.cancelLease(0), 0);
        Check.refused(one, "no lease", INDEX, () -> one.cancelLease(0));
    }

    private static void promise59NothingChanged() {
        RollerLease x = Check.load(SIX);
        String before = Check.dump(x);
        Check.isTrue("open before", x.setValve(5, true));
        Check.same("nothing is changed", Check.dump(x), before);
        Check.equal("it can be undone", x.undoCount(), 1);
        Check.isTrue("open before", x.setValve(5, false));
        Check.isFalse("closed before", x.setValve(5, false));
        Check.equal("undo", x.undo(), 2);
        Check.isFalse("it is closed", x.isValveOpen(5));
        Check.equal("undo", x.undo(), 1);
        Check.isTrue("it is open", x.isValveOpen(5));
        Check.refused(x, "roller 6", INDEX, () -> x.setValve(6, true) ? 1 : 0);
    }

    private static void promise60Boundaries() {
        RollerLease x = Check.load(SIX);
        Check.equal("the least", x.addBundle(0, 0, 1, 1, 0), 0);
        Check.equal("the most", x.addBundle(5, 99, 200, 9, 999), 1);
        Check.refused(x, "tag -1", ARGUMENT, () -> x.addBundle(0, -1, 1, 1, 0));
        Check.refused(x, "tag 100", ARGUMENT, () -> x.addBundle(0, 100, 1, 1, 0));
        Check.refused(x, "yards 0", ARGUMENT, () -> x.addBundle(0, 1, 0, 1, 0));
        Check.refused(x, "yards 201", ARGUMENT, () -> x.addBundle(0, 1, 201, 1, 0));
        Check.refused(x, "limit 0", ARGUMENT, () -> x.addBundle(0, 1, 1, 0, 0));
        Check.refused(x, "limit 10", ARGUMENT, () -> x.addBundle(0, 1, 1, 10, 0));
        Check.refused(x, "deadline -1", ARGUMENT, () -> x.addBundle(0, 1, 1, 1, -1));
        Check.refused(x, "deadline 1000", ARGUMENT, () -> x.addBundle(0, 1, 1, 1, 1000));
        Check.refused(x, "a tag in use", ARGUMENT, () -> x.addBundle(5, 0, 1, 1, 0));
        Check.refused(x, "a tag in use", ARGUMENT, () -> x.addBundle(0, 99, 1, 1, 0));
        Check.refused(x, "no such customer comes first", INDEX, () -> x.addBundle(6, 0, 0, 0, -1));
        // A deadline that is over, and the tag of a finished bundle.
        x.leaseByTime(0, 0, 0, 1);
        x.advance(300);
        Check.equal("a deadline that is over", x.addBundle(0, 1, 1, 1, 0), 2);
        Check.equal("late at once", x.lateCount(), 2);
        Check.refused(x, "the tag of a finished bundle", ARGUMENT, () -> x.addBundle(0, 0, 1, 1, 0));
    }

    private static void promise60SixteenBundles() {
        RollerLease x = Check.load(SIX);
        for (int bundle = 0; bundle < 16; bundle++) {
            Check.equal("addBundle", x.addBundle(bundle % 6, 6 * bundle, 1, 1, 0), bundle);
        }
        Check.refused(x, "a 17th", ARGUMENT, () -> x.addBundle(0, 1, 1, 1, 0));
        Check.refused(x, "a 17th, of no customer", INDEX, () -> x.addBundle(-1, 1, 1, 1, 0));
        x.undo();
        Check.equal("there is room again", x.addBundle(0, 1, 1, 1, 0), 15);
    }

    private static void promise61Boundaries() {
        RollerLease x = Check.load(LEAST);
        Check.equal("the greatest", x.setRefill(50), 0);
        Check.equal("the least", x.setRefill(0), 50);
        Check.equal("the same once more", x.setRefill(0), 0);
        int[] outside = {-1, 51, MIN, MAX};
        for (int refill : outside) {
            Check.refused(x, "setRefill(" + refill + ")", ARGUMENT, () -> x.setRefill(refill));
        }
        Check.equal("the same can be undone", x.undoCount(), 3);
    }

    // ---- promises 62 to 65: undo and the saved states

    private static void promises62And63EightChanges() {
        RollerLease x = Check.load(LEAST);
        Check.equal("no change", x.undoCount(), 0);
        Check.refused(x, "nothing to undo", STATE, x::undo);
        String[] states = new String[10];
        for (int change = 0; change < 10; change++) {
            states[change] = Check.dump(x);
            x.advance(change + 1);
            Check.equal("undoCount", x.undoCount(), Math.min(change + 1, 8));
        }
        for (int change = 9; change >= 2; change--) {
            Check.equal("undo", x.undo(), change - 2);
            Check.equal("undoCount", x.undoCount(), change - 2);
            Check.same("before change " + change, Check.dump(x), states[change]);
        }
        Check.refused(x, "the 9th change cannot be undone", STATE, x::undo);
        // Undoing and changing by turns goes round the eight places more than once.
        for (int change = 0; change < 30; change++) {
            String before = Check.dump(x);
            x.advance(1);
            x.advance(2);
            Check.equal("undo", x.undo(), Math.min(change + 1, 7));
            Check.equal("undo", x.undo(), Math.min(change, 6));
            Check.same("before both", Check.dump(x), before);
            x.advance(3);
        }
        Check.equal("undoCount", x.undoCount(), 7);
    }

    private static void promises62And63Restart() {
        RollerLease x = Check.load(LEAST);
        x.advance(1);
        x.saveState(1);
        x.advance(1);
        Check.equal("two changes", x.undoCount(), 2);
        x.restoreState(1);
        Check.equal("none since restoreState", x.undoCount(), 0);
        Check.refused(x, "nothing to undo since restoreState", STATE, x::undo);
        x.advance(1);
        Check.equal("one since restoreState", x.undoCount(), 1);
        Check.accepts(x, LEAST);
        Check.equal("none since parseSetup", x.undoCount(), 0);
        Check.refused(x, "nothing to undo since parseSetup", STATE, x::undo);
        for (int change = 0; change < 9; change++) {
            x.advance(1);
        }
        Check.equal("eight since parseSetup", x.undoCount(), 8);
        for (int left = 7; left >= 0; left--) {
            Check.equal("undo", x.undo(), left);
        }
        Check.equal("the first of nine stays", x.minute(), 1);
        Check.refused(x, "only eight", STATE, x::undo);
    }

    private static void promises62And63BesideOtherCalls() {
        RollerLease x = Check.load(LEAST + ";bundle 0 0 1 1 1");
        x.advance(1);
        x.saveState(0);
        x.saveState(1);
        x.writeBills();
        x.writeBundle(0);
        x.writeSchedule(0, 0);
        x.steamAfter(300);
        x.revenueAfter(300);
        x.predictedFinish(0);
        x.finishIfAllOpen(0);
        x.idleReason(0);
        x.append(1, 2, 3, 4, 5);
        Check.throwsArgument("an invalid setup", () -> x.parseSetup(0));
        x.append(1, 2, 3, 4, 5);
        Check.equal("only the change counts", x.undoCount(), 1);
        String output = Check.output(x, 20);
        Check.equal("undo", x.undo(), 0);
        Check.equal("undo leaves the buffer", x.bufferLength(), 20);
        Check.same("undo leaves the output", Check.output(x, 20), output);
        Check.equal("undo leaves the latest error", x.parseErrorCode(), 1);
        Check.equal("undo leaves the saved states", x.restoreState(0), 1);
        Check.equal("restoreState leaves the buffer", x.bufferLength(), 20);
        Check.same("restoreState leaves the output", Check.output(x, 20), output);
        Check.equal("restoreState leaves the latest error", x.parseErrorCode(), 1);
        Check.equal("restoreState leaves the other slot", x.restoreState(1), 1);
    }

    private static void promises64And65Slots() {
        RollerLease x = Check.load(LEAST);
        Check.equal("slot 0", x.saveState(0), 0);
        x.advance(1);
        Check.equal("slot 1", x.saveState(1), 1);
        x.advance(300);
        int[] none = {-1, 2, MIN, MAX};
        for (int slot : none) {
            Check.refused(x, "saveState(" + slot + ")", INDEX, () -> x.saveState(slot));
            Check.refused(x, "restoreState(" + slot + ")", INDEX, () -> x.restoreState(slot));
        }
        Check.equal("slot 0", x.restoreState(0), 0);
        Check.equal("slot 1", x.restoreState(1), 1);
        Check.equal("slot 0 once more", x.restoreState(0), 0);
    }

    private static void promises64And65Overwritten() {
        RollerLease x = Check.load(SIX + ";bundle 0 0 9 1 9;time 0 5 0 9");
        x.saveState(0);
        x.saveState(1);
        x.advance(3);
        x.cancelLease(x.leaseByTime(1, 1, 50, 5));
        x.addBundle(1, 1, 1, 1, 1);
        String later = Check.dump(x);
        Check.equal("the state before is lost", x.saveState(0), 3);
        x.advance(9);
        Check.equal("restoreState", x.restoreState(0), 3);
        Check.same("the state that was saved last", Check.dump(x), later);
        // What happens to the restored state does not reach the saved one.
        x.advance(300);
        x.setValve(0, false);
        x.leaseByTime(0, 0, 500, 1);
        Check.equal("restoreState", x.restoreState(0), 3);
        Check.same("it stays saved", Check.dump(x), later);
        Check.equal("slot 1", x.restoreState(1), 0);
        Check.equal("no bundle more", x.bundleCount(), 1);
    }

    private static void promise65WithoutASavedState() {
        RollerLease x = new RollerLease();
        Check.refused(x, "slot 0 without a setup", STATE, () -> x.restoreState(0));
        Check.refused(x, "slot 1 without a setup", STATE, () -> x.restoreState(1));
        Check.refused(x, "slot 2 without a setup", INDEX, () -> x.restoreState(2));
        Check.refused(x, "saving in slot 2 without a setup", STATE, () -> x.saveState(2));
        Check.accepts(x, LEAST);
        Check.refused(x, "slot 0", STATE, () -> x.restoreState(0));
        x.saveState(0);
        Check.refused(x, "slot 1", STATE, () -> x.restoreState(1));
        Check.equal("slot 0", x.restoreState(0), 0);
        Check.accepts(x, LEAST);
        Check.refused(x, "slot 0 behind a new setup", STATE, () -> x.restoreState(0));
        x.saveState(1);
        Check.refused(x, "slot 0 is still empty", STATE, () -> x.restoreState(0));
        Check.equal("slot 1", x.restoreState(1), 0);
    }
}
