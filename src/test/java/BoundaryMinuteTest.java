/** The boundary cases of sections 1, 2, 4 and 5: charges, the ends of leases, bundles, and what a minute does. */
public final class BoundaryMinuteTest {
    public static void main(String[] args) {
        chargesThatRoundToNothing();
        chargesOfTheMost();
        firstAndLastMinuteOfARate();
        firstAndLastMinuteOfAHoliday();
        firstAndLastMinuteOfALeaseByTime();
        leasesThatMeet();
        endsOfLeasesByLength();
        lastMinuteOfALeaseByLength();
        noticeTimes();
        feesOfTheMost();
        justEnoughSteam();
        steamUpToTheCapacity();
        leastOfSpeedBundleAndLease();
        heatAtTheLimit();
        finishingMinutes();
        lateByAMinute();
        serviceAfterEachMinute();
        serviceOfTheMost();
        serviceLimitAtTheWear();
        leastAndGreatestTag();
        theOnlyBundleOfTwoRollers();
        workingOrderOfSix();
        minutesBehindTheLast();
        Check.finish("BoundaryMinuteTest");
    }

    private static void idle(RollerLease x, int... reasons) {
        for (int r = 0; r < reasons.length; r++) {
            Check.equal("idleReason(" + r + ") in minute " + x.minute(), x.idleReason(r), reasons[r]);
            Check.isTrue("nextBundle(" + r + ") in minute " + x.minute(), x.nextBundle(r) == -1 == (reasons[r] != 0));
        }
    }

    /** Advances minute by minute; each time the amount that is due is charged. */
    private static void charged(RollerLease x, int... amounts) {
        for (int amount : amounts) {
            Check.equal("charged in minute " + x.minute(), x.advance(1), amount);
        }
    }

    // ---- section 1: charges

    private static void chargesThatRoundToNothing() {
        String one = "boiler 10 0;roller 1 1 1 0;customer a;time 0 0 0 9;";
        charged(Check.load(one + "rate 0 0 50"), 0, 1);
        charged(Check.load(one + "rate 0 0 99"), 0, 1);
        charged(Check.load(one + "rate 0 0 100"), 1, 1);
        charged(Check.load(one + "rate 0 0 199"), 1, 1);
        charged(Check.load(one + "rate 0 0 200"), 2, 1);
        charged(Check.load(one + "discount 0 1"), 0, 0);
        charged(Check.load(one + "discount 0 50;rate 0 0 200"), 1, 0);
        RollerLease x = Check.load(one + "discount 0 0");
        Check.equal("a hundred minutes of nothing less", x.advance(9), 9);
        // 3 * 50 / 100 = 1, 1 * 50 / 100 = 0: both roundings lose something.
        charged(Check.load(one.replace("roller 1 1 1 0", "roller 1 1 3 0") + "rate 0 0 50;discount 0 50"), 0, 1);
        charged(Check.load(one.replace("roller 1 1 1 0", "roller 1 1 0 50") + "rate 0 0 200"), 0, 0);
    }

    private static void chargesOfTheMost() {
        RollerLease x = Check.load("boiler 10 0;roller 9 1 50 50;customer a;customer b;rate 0 1 200;discount 1 50;"
                + "bundle 0 0 200 9 9;bundle 1 1 200 9 9;length 0 0 0 9;length 1 0 1 9;time 0 0 2 1");
        charged(x, 900, 450, 50, 0);
        Check.equal("the bill without a discount", x.bill(0), 950);
        Check.equal("the bill with one", x.bill(1), 450);
        Check.equal("revenue", x.revenue(), 1400);
    }

    private static void firstAndLastMinuteOfARate() {
        String lease = "boiler 10 0;roller 1 1 10 0;customer a;time 0 0 0 9;";
        charged(Check.load(lease + "rate 2 4 200"), 10, 10, 20, 20, 20, 10);
        charged(Check.load(lease + "rate 0 0 200"), 20, 10);
        charged(Check.load(lease + "rate 2 2 50;rate 2 3 200;rate 0 999 70"), 7, 7, 5, 20, 7);
        RollerLease last = Check.load(lease + "time 0 0 998 2;rate 999 999 200;repeat 3(advance 300);advance 98");
        charged(last, 10, 20, 0);
        RollerLease all = Check.load(lease + "time 0 0 999 1;rate 0 999 200;repeat 3(advance 300);advance 99");
        charged(all, 20, 0);
    }

    private static void firstAndLastMinuteOfAHoliday() {
        String lease = "boiler 10 0;roller 1 1 10 0;customer a;time 0 0 0 9;";
        charged(Check.load(lease + "holiday 2 4"), 10, 10, 0, 0, 0, 10);
        charged(Check.load(lease + "holiday 0 0"), 0, 10);
        charged(Check.load(lease + "holiday 3 3;holiday 1 1"), 10, 0, 10, 0, 10);
        RollerLease last = Check.load(lease + "time 0 0 998 2;holiday 999 999;repeat 3(advance 300);advance 98");
        charged(last, 10);
        idle(last, 6);
        charged(last, 0);
        idle(last, 1);
    }

    // ---- section 2: leases

    private static void firstAndLastMinuteOfALeaseByTime() {
        RollerLease x = Check.load("boiler 10 0;roller 1 1 10 0;customer a;time 0 0 1 2");
        int[] active = {-1, 0, 0, -1};
        int[] amounts = {0, 10, 10, 0};
        for (int minute = 0; minute < 4; minute++) {
            Check.equal("activeLease in minute " + minute, x.activeLease(0), active[minute]);
            idle(x, active[minute] == -1 ? 1 : 3);
            charged(x, amounts[minute]);
        }
        RollerLease one = Check.load("boiler 10 0;roller 1 1 10 0;customer a;time 0 0 0 1");
        Check.equal("a lease of one minute", one.activeLease(0), 0);
        charged(one, 10, 0);
        Check.equal("behind it", one.activeLease(0), -1);
        RollerLease last = Check.load("boiler 10 0;roller 1 1 10 0;customer a;time 0 0 999 1;"
                + "repeat 3(advance 300);advance 98");
        Check.equal("before the last minute", last.activeLease(0), -1);
        charged(last, 0);
        Check.equal("in the last minute", last.activeLease(0), 0);
        charged(last, 10, 0);
        Check.equal("its end", last.leaseEnd(0), 1000);
    }

    private static void leasesThatMeet() {
        RollerLease x = Check.load("boiler 10 0;roller 1 1 10 0;roller 1 1 7 0;customer a;customer b;"
                + "time 1 0 1 1;time 0 0 0 1;time 0 1 0 2");
        int[] active = {1, 0, -1};
        for (int lease : active) {
            Check.equal("activeLease(0) in minute " + x.minute(), x.activeLease(0), lease);
            x.advance(1);
        }
        Check.equal("the bill of the first", x.bill(0), 10 + 14);
        Check.equal("the bill of the second", x.bill(1), 10);
    }

    private static void endsOfLeasesByLength() {
        int[][] minutes = {
            {1, 1, 1}, {1, 200, 200}, {2, 1, 1}, {2, 2, 1}, {2, 3, 2}, {2, 199, 100}, {2, 200, 100}, {3, 200, 67}, {7, 7, 1},
            {7, 8, 2}, {8, 200, 25}, {9, 1, 1}, {9, 8, 1}, {9, 9, 1}, {9, 10, 2}, {9, 198, 22}, {9, 199, 23}, {9, 200, 23},
        };
        for (int[] row : minutes) {
            String what = row[1] + " yards at a speed of " + row[0];
            RollerLease x = Check.load("boiler 10 0;roller " + row[0] + " 1 0 0;customer a;length 0 0 5 " + row[1]);
            Check.equal("the end of " + what, x.leaseEnd(0), 5 + row[2]);
            Check.equal("leaseByLength", x.leaseByLength(0, 0, 1000 - row[2], row[1]), 1);
            Check.equal("the last end of " + what, x.leaseEnd(1), 1000);
            Check.refused(x, "one later: " + what, IllegalArgumentException.class,
                    () -> x.leaseByLength(0, 0, 1001 - row[2], row[1]));
        }
    }

    private static void lastMinuteOfALeaseByLength() {
        // 10 yards at a speed of 9: in the second minute one yard is left, and the lease ends with it.
        RollerLease x = Check.load("boiler 99 0;roller 9 1 0 5;customer a;bundle 0 0 200 9 9;length 0 0 0 10");
        charged(x, 45);
        Check.equal("yards left", x.leaseYardsLeft(0), 1);
        idle(x, 0);
        charged(x, 5);
        Check.equal("no yards left", x.leaseYardsLeft(0), 0);
        Check.equal("the end", x.leaseEnd(0), 2);
        idle(x, 1);
        charged(x, 0);
        // All yards used in the first minute of one: NONE is only for leases by time.
        RollerLease one = Check.load("boiler 99 0;roller 9 1 0 5;customer a;bundle 0 0 200 9 9;length 0 0 0 9;time 0 0 1 1");
        charged(one, 45, 0);
        Check.equal("no yards left", one.leaseYardsLeft(0), 0);
        Check.equal("a lease by time", one.leaseYardsLeft(1), -1);
    }

    private static void noticeTimes() {
        String fee = "boiler 10 0;roller 1 1 0 0;customer a;fee 7 ";
        int[][] cases = {{0, 0, 0}, {1, 0, 7}, {1, 1, 0}, {5, 4, 7}, {5, 5, 0}, {5, 6, 0}, {200, 199, 7}, {200, 200, 0}};
        for (int[] row : cases) {
            RollerLease x = Check.load(fee + row[0] + ";time 0 0 " + row[1] + " 1");
            Check.equal("cancelLease", x.cancelLease(0), 0);
            Check.equal("the fee of minute " + row[1] + " with a notice of " + row[0], x.bill(0), row[2]);
            RollerLease later = Check.load(fee + row[0] + ";advance 300;time 0 0 " + (300 + row[1]) + " 1;cancel 0");
            Check.equal("the same from minute 300 on", later.bill(0), row[2]);
        }
    }

    private static void feesOfTheMost() {
        String setup = "boiler 10 0;roller 1 1 0 0;customer a;time 0 0 999 1;time 0 0 9 1;fee 99 200;";
        Check.equal("the fee of one", Check.load(setup + "cancel 1;cancel 0").revenue(), 99);
        Check.equal("with a rate", Check.load(setup + "rate 0 0 200;cancel 1").revenue(), 198);
        Check.equal("with a rate that is over", Check.load(setup + "rate 0 0 200;advance 1;cancel 1").revenue(), 99);
        Check.equal("with a discount", Check.load(setup + "discount 0 50;cancel 1").revenue(), 49);
        Check.equal("on a holiday", Check.load(setup + "holiday 0 9;cancel 1").revenue(), 99);
        Check.equal("no fee", Check.load(setup + "fee 0 200;cancel 1").revenue(), 0);
    }

    // ---- section 5: steam and yards

    private static void justEnoughSteam() {
        String two = ";roller 1 5 0 0;customer a;bundle 0 0 9 9 9;bundle 0 1 9 9 9;time 0 0 0 9;time 0 1 0 9";
        RollerLease enough = Check.load("boiler 10 0;roller 1 5 0 0" + two);
        idle(enough, 0, 0);
        enough.advance(1);
        Check.equal("no steam is left", enough.steam(), 0);
        idle(enough, 4, 4);
        enough.advance(1);
        Check.equal("stalls", enough.stallCount(0) + enough.stallCount(1), 2);
        Check.equal("steam of a stalled roller", enough.steam(), 0);
        RollerLease less = Check.load("boiler 10 0;roller 1 6 0 0" + two);
        idle(less, 0, 4);
        less.advance(1);
        Check.equal("one unit less than the heat is left", less.steam(), 4);
        RollerLease refilled = Check.load("boiler 10 1;roller 1 6 0 0" + two + ";advance 1");
        idle(refilled, 4, 0);
        refilled.advance(1);
        Check.equal("the first stalls, the second works", refilled.stallCount(0), 1);
        Check.equal("the second has stalled before", refilled.stallCount(1), 1);
    }

    private static void steamUpToTheCapacity() {
        String lease = ";roller 1 9 0 0;customer a;bundle 0 0 9 9 9;time 0 0 0 1";
        int[][] cases = {{0, 91, 91}, {8, 99, 100}, {9, 100, 100}, {10, 100, 100}, {50, 100, 100}};
        for (int[] row : cases) {
            RollerLease x = Check.load("boiler 100 " + row[0] + lease);
            Check.equal("steam at first", x.steam(), 100);
            x.advance(1);
            Check.equal("steam with a refill of " + row[0], x.steam(), row[1]);
            x.advance(1);
            Check.equal("a minute later", x.steam(), row[2]);
        }
        Check.equal("the least capacity", Check.load("boiler 10 50" + lease + ";advance 2").steam(), 10);
        Check.equal("the greatest capacity", Check.load("boiler 500 50" + lease + ";advance 1").steam(), 500);
        Check.equal("no refill of it", Check.load("boiler 500 0" + lease + ";advance 1").steam(), 491);
    }

    private static void leastOfSpeedBundleAndLease() {
        // {yards of the bundle, yards of the lease (0: by time), processed in the first minute at a speed of 5}
        int[][] cases = {
            {4, 0, 4}, {5, 0, 5}, {6, 0, 5}, {1, 0, 1},
            {9, 4, 4}, {9, 5, 5}, {9, 6, 5}, {3, 4, 3}, {4, 3, 3}, {5, 5, 5}, {1, 1, 1},
        };
        for (int[] row : cases) {
            String lease = row[1] == 0 ? ";time 0 0 0 9" : ";length 0 0 0 " + row[1];
            RollerLease x = Check.load("boiler 99 0;roller 5 1 0 2;customer a;bundle 0 0 " + row[0] + " 9 9" + lease);
            charged(x, row[1] == 0 ? 0 : 2 * row[2]);
            Check.equal("yards of the bundle", x.bundleYardsLeft(0), row[0] - row[2]);
            Check.equal("yards of the lease", x.leaseYardsLeft(0), row[1] == 0 ? -1 : row[1] - row[2]);
            Check.equal("the finish", x.bundleFinish(0), row[0] == row[2] ? 1 : -1);
            Check.equal("steam, however few the yards are", x.steam(), 98);
        }
    }

    private static void heatAtTheLimit() {
        for (int limit = 1; limit <= 9; limit++) {
            RollerLease x = Check.load("boiler 99 0;roller 1 5 0 0;customer a;bundle 0 0 3 " + limit + " 9;"
                    + "time 0 0 0 9;advance 4");
            Check.equal("heat 5 with a limit of " + limit, x.bundleScorch(0), limit < 5 ? 3 : 0);
        }
        // A minute in which it stalls is none in which it is scorched.
        RollerLease x = Check.load("boiler 10 0;roller 1 9 0 0;customer a;bundle 0 0 3 1 9;time 0 0 0 9;advance 9");
        Check.equal("scorched once", x.bundleScorch(0), 1);
        Check.equal("stalled ever since", x.stallCount(0), 8);
    }

    private static void finishingMinutes() {
        RollerLease x = Check.load("boiler 99 0;roller 2 1 0 0;customer a;bundle 0 0 2 9 9;bundle 0 1 3 9 9;"
                + "time 0 0 0 2;time 0 0 999 1");
        Check.equal("not finished", x.bundleFinish(0), -1);
        x.advance(1);
        Check.equal("finished in minute 0", x.bundleFinish(0), 1);
        idle(x, 0);
        x.advance(1);
        Check.equal("a yard is left", x.bundleYardsLeft(1), 1);
        Check.equal("not finished", x.bundleFinish(1), -1);
        for (int i = 0; i < 3; i++) {
            x.advance(300);
        }
        x.advance(98);
        Check.equal("finished in the last minute of all", x.bundleFinish(1), 1000);
        Check.equal("the first is finished as before", x.bundleFinish(0), 1);
    }

    private static void lateByAMinute() {
        // Both yards are processed in minutes 0 and 1: the finish is 2.
        String bundle = "boiler 99 0;roller 1 1 0 0;customer a;time 0 0 0 2;bundle 0 0 2 9 ";
        Check.equal("finished at its deadline", Check.load(bundle + "2;advance 9").lateCount(), 0);
        Check.equal("finished a minute later", Check.load(bundle + "1;advance 9").lateCount(), 1);
        Check.equal("at the deadline it is not late yet", Check.load(bundle + "1;advance 1").lateCount(), 0);
        Check.equal("finished behind a deadline of 0", Check.load(bundle + "0;advance 1").lateCount(), 1);
        RollerLease never = Check.load("boiler 99 0;roller 1 1 0 0;customer a;bundle 0 0 2 9 0;bundle 0 1 2 9 1;"
                + "bundle 0 2 2 9 999");
        int[] late = {0, 1, 2, 2};
        for (int due : late) {
            Check.equal("late in minute " + never.minute(), never.lateCount(), due);
            never.advance(1);
        }
        Check.accepts(never, "boiler 99 0;roller 1 1 0 0;customer a;bundle 0 2 2 9 999;repeat 3(advance 300);advance 99");
        Check.equal("not late in minute 999", never.lateCount(), 0);
        never.advance(1);
        Check.equal("late in minute 1000", never.lateCount(), 1);
    }

    // ---- section 5: service

    private static void serviceAfterEachMinute() {
        String setup = "boiler 500 0;roller 1 1 2 0;customer a;bundle 0 0 200 9 9;time 0 0 0 99;service 0 1;pause ";
        RollerLease one = Check.load(setup + "1");
        for (int minute = 0; minute < 10; minute++) {
            idle(one, minute % 2 == 0 ? 0 : 5);
            charged(one, 2);
        }
        Check.equal("every other minute", one.bundleYardsLeft(0), 195);
        RollerLease none = Check.load(setup + "0;advance 10");
        Check.equal("a service time of 0", none.bundleYardsLeft(0), 190);
        RollerLease two = Check.load(setup + "2");
        int[] reasons = {0, 5, 5, 0, 5, 5, 0};
        for (int reason : reasons) {
            idle(two, reason);
            two.advance(1);
        }
    }

    private static void serviceOfTheMost() {
        RollerLease x = Check.load("boiler 500 50;roller 1 1 2 0;customer a;bundle 0 0 200 9 9;time 0 0 0 200;"
                + "service 0 99;pause 20;advance 98");
        idle(x, 0);
        x.advance(1);
        for (int left = 20; left >= 1; left--) {
            idle(x, 5);
            x.advance(1);
        }
        idle(x, 0);
        x.advance(1);
        Check.equal("99 minutes, and one behind the service", x.bundleYardsLeft(0), 100);
    }

    private static void serviceLimitAtTheWear() {
        String worn = "boiler 500 0;roller 1 1 2 0;customer a;bundle 0 0 200 9 9;time 0 0 0 99;pause 5;advance 3;service 0 ";
        RollerLease above = Check.load(worn + "4;advance 1");
        idle(above, 5);
        RollerLease at = Check.load(worn + "3;advance 50");
        Check.equal("the wear is above the limit ever since", at.bundleYardsLeft(0), 147);
        RollerLease none = Check.load(worn + "0;advance 50");
        Check.equal("no limit", none.bundleYardsLeft(0), 147);
        RollerLease raised = Check.load(worn + "3;advance 50;service 0 54;advance 1");
        idle(raised, 5);
        // After a service the wear begins at 0 again.
        RollerLease again = Check.load(worn + "4;advance 6");
        for (int minute = 0; minute < 4; minute++) {
            idle(again, 0);
            again.advance(1);
        }
        idle(again, 5);
    }

    // ---- section 5: bundles and the working order

    private static void leastAndGreatestTag() {
        RollerLease x = Check.load("boiler 99 0;roller 9 1 0 0;customer a;customer b;bundle 0 99 9 9 9;"
                + "bundle 1 0 9 9 9;bundle 0 1 9 9 9;bundle 0 98 9 9 9;time 0 0 0 9");
        int[] order = {2, 3, 0};
        for (int bundle : order) {
            Check.equal("the least tag", x.nextBundle(0), bundle);
            x.advance(1);
        }
        idle(x, 3);
        Check.equal("addBundle", x.addBundle(0, 2, 1, 9, 9), 4);
        Check.equal("the new one", x.nextBundle(0), 4);
    }

    private static void theOnlyBundleOfTwoRollers() {
        String two = "boiler 99 0;roller 2 1 0 0;roller 3 1 0 0;customer a;bundle 0 5 9 9 9;time 0 0 0 9;time 0 1 0 9";
        idle(Check.load(two), 0, 3);
        idle(Check.load(two + ";order 1"), 3, 0);
        idle(Check.load(two + ";assign 0 1"), 3, 0);
        idle(Check.load(two + ";close 0"), 2, 0);
        RollerLease x = Check.load(two);
        x.advance(1);
        Check.equal("one of them", x.bundleYardsLeft(0), 7);
        idle(x, 0, 3);
        // The first finishes it, and the second finds nothing left in the same minute.
        RollerLease last = Check.load(two.replace("bundle 0 5 9", "bundle 0 5 2"));
        idle(last, 0, 3);
        last.advance(1);
        idle(last, 3, 3);
    }

    private static void workingOrderOfSix() {
        // With the steam for one: only the first that has a bundle and an open valve does not stall.
        StringBuilder setup = new StringBuilder("boiler 10 0;repeat 3(repeat 2(roller 1 9 0 0));customer a");
        for (int r = 0; r < 6; r++) {
            setup.append(";bundle 0 ").append(r).append(" 9 9 9;assign ").append(r).append(' ').append(r);
            setup.append(";time 0 ").append(r).append(" 0 9");
        }
        idle(Check.load(setup.toString()), 0, 4, 4, 4, 4, 4);
        idle(Check.load(setup + ";order 5 4 3 2 1 0"), 4, 4, 4, 4, 4, 0);
        idle(Check.load(setup + ";order 3"), 4, 4, 4, 0, 4, 4);
        idle(Check.load(setup + ";order 5 4 3 2 1 0;order 2 0"), 4, 4, 0, 4, 4, 4);
        idle(Check.load(setup + ";close 2;close 1;order 2 1"), 0, 2, 2, 4, 4, 4);
    }

    private static void minutesBehindTheLast() {
        RollerLease x = Check.load("boiler 20 1;roller 1 9 5 5;customer a;bundle 0 0 200 9 9;time 0 0 800 200;"
                + "holiday 999 999;rate 0 999 200;repeat 3(advance 300);advance 98");
        charged(x, 10, 0, 0);
        idle(x, 1);
        Check.equal("minute", x.minute(), 1001);
        Check.equal("activeLease", x.activeLease(0), -1);
        Check.equal("no lease can be had", x.leaseObstacle(0, 1001, 1), 2);
        Check.equal("no lease can be had", x.leaseObstacle(0, 1000, 1), 1);
        Check.equal("no minute is free", x.firstFreeStart(0, 0, 1), -1);
        Check.refused(x, "leaseByTime", IllegalArgumentException.class, () -> x.leaseByTime(0, 0, 1001, 1));
        for (int i = 0; i < 300; i++) {
            Check.equal("advance", x.advance(300), 0);
        }
        Check.equal("minute", x.minute(), 91001);
        Check.equal("the steam", x.steam(), 20);
    }
}
