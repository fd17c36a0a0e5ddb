/** Section 5 by promises 22, 23 and 55, and the items of a setup that change what a minute does. */
public final class MinuteTest {
    public static void main(String[] args) {
        idleReasonsOfALeaseByTime();
        idleReasonsInTheirOrder();
        idleReasonOfTheWholeMinute();
        nextBundle();
        selection();
        aBundleIsProcessedOnceAMinute();
        workingOrder();
        byLength();
        holidays();
        service();
        serviceWithoutWork();
        wearBeforeALimit();
        scorching();
        refill();
        rates();
        roundingOfCharges();
        discountsAndRatesFromTheirItemOn();
        fees();
        splitting();
        merging();
        assigning();
        copying();
        promise55Advance();
        Check.finish("MinuteTest");
    }

    private static void idle(RollerLease x, int roller, int reason, int bundle) {
        Check.equal("idleReason(" + roller + ") in minute " + x.minute(), x.idleReason(roller), reason);
        Check.equal("nextBundle(" + roller + ") in minute " + x.minute(), x.nextBundle(roller), bundle);
    }

    private static void idleReasonsOfALeaseByTime() {
        RollerLease x = Check.load("boiler 10 0;roller 2 5 7 3;customer a;time 0 0 1 9");
        idle(x, 0, 1, -1);
        Check.equal("without a lease", x.advance(1), 0);
        idle(x, 0, 3, -1);
        Check.equal("without a bundle", x.advance(1), 7);
        x.addBundle(0, 5, 20, 9, 99);
        idle(x, 0, 0, 0);
        Check.equal("with a bundle", x.advance(1), 7);
        Check.equal("steam", x.steam(), 5);
        Check.equal("yards", x.bundleYardsLeft(0), 18);
        idle(x, 0, 0, 0);
        Check.equal("with just enough steam", x.advance(1), 7);
        Check.equal("steam", x.steam(), 0);
        idle(x, 0, 4, -1);
        Check.equal("without steam", x.advance(1), 7);
        Check.equal("stalls", x.stallCount(0), 1);
        Check.equal("yards", x.bundleYardsLeft(0), 16);
        x.setValve(0, false);
        idle(x, 0, 2, -1);
        Check.equal("with a closed valve", x.advance(1), 7);
        Check.equal("stalls", x.stallCount(0), 1);
    }

    private static void idleReasonsInTheirOrder() {
        String setup = "boiler 10 0;roller 2 9 7 3;customer a;customer b;service 0 1;pause 20;holiday 20 20;bundle 0 0 2 9 9;"
                + "bundle 0 1 2 9 9;time 0 0 0 1;advance 2;";
        // In service, closed, without steam and without a bundle of customer b at once.
        idle(Check.load(setup + "close 0;time 1 0 2 3"), 0, 5, -1);
        idle(Check.load(setup + "close 0"), 0, 1, -1);
        idle(Check.load(setup + "close 0;advance 18"), 0, 1, -1);
        idle(Check.load(setup + "close 0;time 1 0 18 9;advance 18"), 0, 6, -1);
        idle(Check.load(setup + "close 0;time 1 0 18 9;advance 19"), 0, 2, -1);
        idle(Check.load(setup + "time 1 0 18 9;advance 19"), 0, 3, -1);
        idle(Check.load(setup + "time 0 0 18 9;advance 19"), 0, 4, -1);
        idle(Check.load(setup + "time 0 0 18 9;close 0;advance 19"), 0, 2, -1);
    }

    private static void idleReasonOfTheWholeMinute() {
        RollerLease x = Check.load("boiler 10 10;roller 1 6 1 0;roller 1 6 1 0;customer a;customer b;bundle 0 0 9 9 99;"
                + "bundle 1 1 9 9 99;time 0 0 0 9;time 1 1 0 9");
        idle(x, 0, 0, 0);
        idle(x, 1, 4, -1);
        x.setValve(0, false);
        idle(x, 0, 2, -1);
        idle(x, 1, 0, 1);
        Check.equal("asking simulates nothing", x.minute(), 0);
        Check.equal("asking uses no steam", x.steam(), 10);
        Check.equal("asking charges nothing", x.revenue(), 0);
    }

    private static void nextBundle() {
        RollerLease x = Check.load("boiler 90 0;roller 9 1 1 0;roller 9 1 1 0;roller 9 1 1 0;customer a;bundle 0 7 1 9 99;"
                + "bundle 0 2 20 9 99;time 0 0 0 9;time 0 1 0 9;time 0 2 0 9");
        idle(x, 0, 0, 1);
        idle(x, 1, 0, 0);
        idle(x, 2, 3, -1);
        x.advance(1);
        idle(x, 0, 0, 1);
        idle(x, 1, 3, -1);
        Check.equal("yards of tag 7", x.bundleYardsLeft(0), 0);
        Check.equal("yards of tag 2", x.bundleYardsLeft(1), 11);
    }

    private static void selection() {
        RollerLease x = Check.load("boiler 90 0;roller 5 1 1 0;customer a;customer b;bundle 1 1 9 9 99;bundle 0 9 5 9 99;"
                + "bundle 0 4 5 9 99;bundle 0 6 5 9 99;time 0 0 0 9");
        int[] order = {2, 3, 1};
        for (int bundle : order) {
            idle(x, 0, 0, bundle);
            x.advance(1);
            Check.equal("finish", x.bundleFinish(bundle), x.minute());
        }
        idle(x, 0, 3, -1);
        Check.equal("another customer's bundle", x.bundleYardsLeft(0), 9);
    }

    private static void aBundleIsProcessedOnceAMinute() {
        RollerLease x = Check.load("boiler 90 0;roller 2 1 5 0;roller 3 1 6 0;customer a;bundle 0 0 9 9 99;time 0 0 0 9;"
                + "time 0 1 0 9");
        Check.equal("both are charged", x.advance(1), 11);
        Check.equal("one has processed", x.bundleYardsLeft(0), 7);
        idle(x, 0, 0, 0);
        idle(x, 1, 3, -1);
        x.setValve(0, false);
        idle(x, 1, 0, 0);
        x.advance(1);
        Check.equal("the other has processed", x.bundleYardsLeft(0), 4);
    }

    private static void workingOrder() {
        String rollers = "boiler 10 0;roller 1 6 1 0;roller 1 6 1 0;roller 1 6 1 0;customer a;customer b;customer c;"
                + "bundle 0 0 9 9 99;bundle 1 1 9 9 99;bundle 2 2 9 9 99;time 0 0 0 9;time 1 1 0 9;time 2 2 0 9";
        first(rollers, 0);
        first(rollers + ";order 1", 1);
        first(rollers + ";order 2", 2);
        first(rollers + ";order 1 0 2", 1);
        first(rollers + ";order 2 1 0", 2);
        first(rollers + ";order 2 1;order 0", 0);
        // The others follow in the order of their indices: with 12 units of steam the second one works too.
        String more = rollers.replace("boiler 10", "boiler 12");
        second(more + ";order 2", 0);
        second(more + ";order 1", 0);
        second(more + ";order 0", 1);
        second(more + ";order 2 1", 1);
        second(more + ";order 0 2", 2);
    }

    private static void first(String setup, int roller) {
        RollerLease x = Check.load(setup);
        for (int r = 0; r < 3; r++) {
            Check.equal("idleReason(" + r + ") of " + setup, x.idleReason(r), r == roller ? 0 : 4);
        }
    }

    private static void second(String setup, int roller) {
        RollerLease x = Check.load(setup);
        Check.equal("the second of " + setup, x.idleReason(roller), 0);
        x.advance(1);
        int stalls = x.stallCount(0) + x.stallCount(1) + x.stallCount(2);
        Check.equal("the third stalls", stalls, 1);
    }

    private static void byLength() {
        RollerLease x = Check.load("boiler 90 0;roller 5 1 9 3;customer a;bundle 0 0 4 9 99;bundle 0 1 20 9 99;length 0 0 1 12");
        Check.equal("the end", x.leaseEnd(0), 4);
        Check.equal("before it begins", x.advance(1), 0);
        Check.equal("the yards of the bundle", x.advance(1), 12);
        Check.equal("yards that the lease allows", x.leaseYardsLeft(0), 8);
        Check.equal("finished", x.bundleFinish(0), 2);
        Check.equal("the speed", x.advance(1), 15);
        Check.equal("yards that the lease allows", x.leaseYardsLeft(0), 3);
        Check.equal("the yards of the lease", x.advance(1), 9);
        Check.equal("yards that the lease allows", x.leaseYardsLeft(0), 0);
        Check.equal("the end", x.leaseEnd(0), 4);
        Check.equal("yards of the bundle", x.bundleYardsLeft(1), 12);
        idle(x, 0, 1, -1);
        Check.equal("nothing is charged afterwards", x.advance(9), 0);
        RollerLease y = Check.load("boiler 10 0;roller 5 9 9 3;customer a;length 0 0 0 12");
        Check.equal("without a bundle nothing is charged", y.advance(1), 0);
        y.addBundle(0, 0, 20, 9, 99);
        y.setValve(0, false);
        Check.equal("with a closed valve nothing is charged", y.advance(1), 0);
        y.setValve(0, true);
        Check.equal("the last minute", y.advance(1), 15);
        Check.equal("the end has come first", y.advance(3), 0);
        Check.equal("yards that were not used", y.leaseYardsLeft(0), 7);
        RollerLease z = Check.load("boiler 10 0;roller 5 9 9 3;customer a;bundle 0 0 20 9 99;length 0 0 0 12;advance 1");
        Check.equal("while it stalls nothing is charged", z.advance(1), 0);
        Check.equal("it stalls", z.stallCount(0), 1);
    }

    private static void holidays() {
        RollerLease x = Check.load("boiler 90 0;roller 5 1 9 3;roller 5 1 2 2;customer a;bundle 0 0 99 9 99;bundle 0 1 99 9 99;"
                + "holiday 2 3;holiday 3 4;holiday 7 7;time 0 0 0 9;length 0 1 0 40");
        int[] charged = {19, 19, 0, 0, 0, 19, 19, 0, 9};
        for (int minute = 0; minute < charged.length; minute++) {
            int reason = charged[minute] == 0 ? 6 : 0;
            Check.equal("idleReason in minute " + minute, x.idleReason(0), reason);
            Check.equal("charged in minute " + minute, x.advance(1), charged[minute]);
        }
        Check.equal("no steam is used on a holiday", x.steam(), 90 - 9);
    }

    private static void service() {
        RollerLease x = Check.load("boiler 500 0;roller 1 1 5 0;customer a;bundle 0 0 100 9 99;time 0 0 0 50;service 0 2;pause 3");
        int[] reasons = {0, 0, 5, 5, 5, 0, 0, 5, 5, 5, 0};
        int yards = 100;
        for (int minute = 0; minute < reasons.length; minute++) {
            idle(x, 0, reasons[minute], reasons[minute] == 0 ? 0 : -1);
            Check.equal("charged in any case", x.advance(1), 5);
            yards -= reasons[minute] == 0 ? 1 : 0;
            Check.equal("yards after minute " + minute, x.bundleYardsLeft(0), yards);
        }
        Check.exact("utilization", x.utilization(0), 5.0 / 11.0);
        RollerLease without = Check.load("boiler 500 0;roller 1 1 5 0;customer a;bundle 0 0 99 9 99;time 0 0 0 50;service 0 2");
        without.advance(9);
        Check.equal("no service time, no service", without.bundleYardsLeft(0), 90);
        RollerLease unlimited = Check.load("boiler 500 0;roller 1 1 5 0;customer a;bundle 0 0 99 9 99;time 0 0 0 50;pause 9");
        unlimited.advance(9);
        Check.equal("no service limit, no service", unlimited.bundleYardsLeft(0), 90);
    }

    private static void serviceWithoutWork() {
        String setup = "boiler 500 0;roller 1 1 5 0;customer a;bundle 0 0 100 9 99;service 0 2;pause 4;time 0 0 0 2;advance 2;";
        // The remaining service time of 4 becomes less without a lease, and on holidays: in minutes 2 to 5.
        RollerLease x = Check.load(setup + "time 0 0 5 9;advance 3");
        idle(x, 0, 5, -1);
        x.advance(1);
        idle(x, 0, 0, 0);
        RollerLease y = Check.load(setup + "time 0 0 2 9;holiday 2 4;advance 1");
        idle(y, 0, 6, -1);
        y.advance(2);
        idle(y, 0, 5, -1);
        y.advance(1);
        idle(y, 0, 0, 0);
        // The service time of the laundry counts when the service begins.
        RollerLease z = Check.load(setup + "pause 1;time 0 0 2 9;advance 3");
        idle(z, 0, 5, -1);
        z.advance(1);
        idle(z, 0, 0, 0);
        z.advance(2);
        idle(z, 0, 5, -1);
        z.advance(1);
        idle(z, 0, 0, 0);
    }

    private static void wearBeforeALimit() {
        String setup = "boiler 500 0;roller 1 1 5 0;customer a;bundle 0 0 100 9 99;time 0 0 0 50;pause 9;advance 3;";
        RollerLease x = Check.load(setup + "service 0 4");
        x.advance(1);
        idle(x, 0, 5, -1);
        RollerLease y = Check.load(setup + "service 0 3");
        y.advance(40);
        Check.equal("wear above the limit never is equal to it", y.bundleYardsLeft(0), 57);
        // Minutes without work are no wear.
        RollerLease z = Check.load(setup + "service 0 5;close 0;advance 5;open 0");
        z.advance(1);
        idle(z, 0, 0, 0);
        z.advance(1);
        idle(z, 0, 5, -1);
    }

    private static void scorching() {
        RollerLease x = Check.load("boiler 500 0;roller 1 5 0 0;customer a;bundle 0 0 2 6 99;bundle 0 1 2 5 99;bundle 0 2 3 4 99;"
                + "time 0 0 0 50");
        x.advance(9);
        Check.equal("a limit above the heat", x.bundleScorch(0), 0);
        Check.equal("a limit equal to the heat", x.bundleScorch(1), 0);
        Check.equal("a limit below the heat", x.bundleScorch(2), 3);
    }

    private static void refill() {
        RollerLease x = Check.load("boiler 20 6;roller 1 9 0 0;customer a;bundle 0 0 9 9 99;time 0 0 0 3");
        int[] steam = {20, 17, 14, 11, 17, 20, 20};
        for (int minute = 0; minute < steam.length; minute++) {
            Check.equal("steam in minute " + minute, x.steam(), steam[minute]);
            x.advance(1);
        }
        // The refill comes after the rollers: it helps no roller in its own minute.
        RollerLease y = Check.load("boiler 10 50;roller 1 6 0 0;roller 1 6 0 0;customer a;bundle 0 0 9 9 99;bundle 0 1 9 9 99;"
                + "time 0 0 0 3;time 0 1 0 3;advance 2");
        Check.equal("stalls", y.stallCount(1), 2);
        Check.equal("steam", y.steam(), 10);
    }

    private static void rates() {
        RollerLease x = Check.load("boiler 20 6;roller 1 9 10 0;customer a;rate 1 3 200;rate 2 5 50;rate 7 7 150;time 0 0 0 9");
        int[] charged = {10, 20, 20, 20, 5, 5, 10, 15, 10};
        for (int minute = 0; minute < charged.length; minute++) {
            Check.equal("charged in minute " + minute, x.advance(1), charged[minute]);
        }
        Check.equal("revenue", x.revenue(), 115);
        RollerLease y = Check.load("boiler 20 6;roller 1 9 10 0;customer a;rate 2 5 50;rate 1 3 200;time 0 0 0 9;advance 3");
        Check.equal("the first rate counts", y.revenue(), 10 + 20 + 5);
    }

    private static void roundingOfCharges() {
        // 9 * 133 / 100 = 11, 11 * 90 / 100 = 9; in one go it would be 10, and 10 * 3 minutes more than 9 * 3.
        RollerLease x = Check.load("boiler 99 9;roller 4 1 9 7;customer a;customer b;rate 0 999 133;discount 0 10;time 0 0 0 3");
        Check.equal("one charge", x.advance(1), 9);
        Check.equal("each is rounded by itself", x.advance(2), 18);
        Check.equal("the bill", x.bill(0), 27);
        // 7 * 4 yards = 28, * 133 / 100 = 37, * 90 / 100 = 33; one by one it would be 4 * 8.
        x.addBundle(0, 0, 99, 9, 99);
        x.leaseByLength(0, 0, 3, 8);
        Check.equal("one charge for all yards of a minute", x.advance(1), 33);
        Check.equal("the next minute", x.advance(1), 33);
        x.leaseByTime(1, 0, 5, 1);
        Check.equal("without a discount", x.advance(1), 11);
        Check.equal("the bill of the other", x.bill(1), 11);
        Check.equal("revenue", x.revenue(), 27 + 66 + 11);
        RollerLease many = Check.load("boiler 99 9;roller 9 1 1 50;customer a;bundle 0 0 99 9 99;length 0 0 0 18;advance 1");
        Check.equal("without a rate all of it", many.revenue(), 450);
        RollerLease half = Check.load("boiler 99 9;roller 4 1 1 0;customer a;discount 0 50;time 0 0 0 9;advance 9");
        Check.equal("a half is rounded down", half.revenue(), 0);
    }

    private static void discountsAndRatesFromTheirItemOn() {
        RollerLease x = Check.load("boiler 99 9;roller 4 1 10 0;customer a;time 0 0 0 9;advance 1;discount 0 50;advance 1;"
                + "rate 0 999 200;advance 1;discount 0 0;advance 1");
        Check.equal("revenue", x.revenue(), 10 + 5 + 10 + 20);
    }

    private static void fees() {
        String setup = "boiler 99 9;roller 4 1 10 0;customer a;customer b;discount 1 20;rate 2 2 150;fee 33 5;";
        Check.equal("within the notice time", Check.load(setup + "time 0 0 4 3;cancel 0").bill(0), 33);
        Check.equal("at the notice time", Check.load(setup + "time 0 0 5 3;cancel 0").bill(0), 0);
        Check.equal("in its first minute", Check.load(setup + "time 0 0 0 3;cancel 0").bill(0), 33);
        Check.equal("later on", Check.load(setup + "time 0 0 5 3;advance 1;cancel 0").bill(0), 33);
        // 33 * 150 / 100 = 49, 49 * 80 / 100 = 39
        RollerLease x = Check.load(setup + "length 1 0 5 3;advance 2;cancel 0");
        Check.equal("with rate and discount", x.bill(1), 39);
        Check.equal("revenue", x.revenue(), 39);
        Check.equal("the lease is removed", x.leaseCount(), 0);
        Check.equal("no notice time", Check.load(setup + "fee 33 0;time 0 0 0 3;cancel 0").bill(0), 0);
        Check.equal("no fee", Check.load(setup + "fee 0 9;time 0 0 0 3;cancel 0").bill(0), 0);
        RollerLease two = Check.load(setup + "time 0 0 0 3;time 1 0 3 3;time 0 0 6 3;cancel 0;cancel 0");
        Check.equal("later leases move up", two.leaseCount(), 1);
        Check.equal("the lease that is left", two.leaseStart(0), 6);
        Check.equal("the fee of the first", two.bill(0), 33);
        Check.equal("the fee of the second", two.bill(1), 26);
    }

    private static void splitting() {
        RollerLease x = Check.load("boiler 99 9;roller 4 9 10 0;customer a;customer b;bundle 0 1 5 9 99;bundle 1 0 30 3 77;"
                + "assign 1 0;split 1 12;split 1 17;split 2 1");
        int[][] bundles = {{0, 1, 5, 99}, {1, 0, 1, 77}, {1, 2, 11, 77}, {1, 3, 17, 77}, {1, 4, 1, 77}};
        Check.equal("bundleCount", x.bundleCount(), bundles.length);
        for (int b = 0; b < bundles.length; b++) {
            Check.equal("owner", x.bundleOwner(b), bundles[b][0]);
            Check.equal("tag", x.bundleTag(b), bundles[b][1]);
            Check.equal("yards", x.bundleYardsLeft(b), bundles[b][2]);
            Check.equal("deadline", x.bundleDeadline(b), bundles[b][3]);
            Check.equal("finish", x.bundleFinish(b), -1);
        }
        RollerLease least = Check.load("boiler 99 9;roller 4 9 10 0;customer a;bundle 0 1 5 9 99;split 0 1;split 0 1");
        Check.equal("the least tag of all", least.bundleTag(1), 0);
        Check.equal("the next one", least.bundleTag(2), 2);
        // The heat limit of 3 goes along, the assignment and the scorched minutes do not.
        RollerLease y = Check.load("boiler 99 9;roller 4 9 0 0;roller 4 9 0 0;customer b;bundle 0 0 30 3 77;assign 0 0;time 0 0 0 9;"
                + "advance 1;split 0 12;time 0 1 1 9");
        Check.equal("scorched", y.bundleScorch(0), 1);
        Check.equal("scorched", y.bundleScorch(1), 0);
        idle(y, 0, 0, 0);
        idle(y, 1, 0, 1);
        y.advance(1);
        Check.equal("scorched", y.bundleScorch(0), 2);
        Check.equal("scorched", y.bundleScorch(1), 1);
    }

    private static void merging() {
        RollerLease x = Check.load("boiler 99 0;roller 4 9 0 0;roller 3 9 0 0;customer a;bundle 0 9 30 3 77;bundle 0 4 40 9 88;"
                + "bundle 0 6 50 4 99;bundle 0 2 60 9 66;time 0 0 0 2;time 0 1 1 1;advance 2");
        // Tag 2 is processed in minutes 0 and 1 by roller 0, tag 4 in minute 1 by roller 1.
        Check.equal("tag 2", x.bundleYardsLeft(3), 52);
        Check.equal("tag 4", x.bundleYardsLeft(1), 37);
        RollerLease y = Check.load("boiler 99 0;roller 4 9 0 0;roller 3 9 0 0;customer a;bundle 0 2 30 3 77;bundle 0 4 40 1 88;"
                + "bundle 0 6 50 4 99;bundle 0 8 60 9 66;time 0 0 0 2;time 0 1 1 1;advance 2;merge 1 0");
        Check.equal("bundleCount", y.bundleCount(), 3);
        int[][] bundles = {{4, 59, 88, 3}, {6, 50, 99, 0}, {8, 60, 66, 0}};
        for (int b = 0; b < bundles.length; b++) {
            Check.equal("tag", y.bundleTag(b), bundles[b][0]);
            Check.equal("yards", y.bundleYardsLeft(b), bundles[b][1]);
            Check.equal("deadline", y.bundleDeadline(b), bundles[b][2]);
            Check.equal("scorched", y.bundleScorch(b), bundles[b][3]);
        }
        Check.equal("the tag is free again", y.findBundle(2), -1);
        Check.equal("the next bundle", y.addBundle(0, 2, 1, 1, 1), 3);
        Check.equal("the next bundle is a new one", y.bundleScorch(3), 0);
        // Yards above 200, and the first bundle's assignment stays.
        RollerLease z = Check.load("boiler 99 0;roller 4 9 0 0;roller 3 9 0 0;customer a;bundle 0 2 200 9 77;bundle 0 4 150 1 88;"
                + "assign 0 1;time 0 0 0 9;time 0 1 0 9;merge 0 1");
        Check.equal("yards", z.bundleYardsLeft(0), 350);
        idle(z, 0, 3, -1);
        idle(z, 1, 0, 0);
        z.advance(1);
        Check.equal("the heat limit of the first", z.bundleScorch(0), 0);
        RollerLease last = Check.load("boiler 99 0;roller 4 9 0 0;customer a;bundle 0 2 20 9 77;bundle 0 4 10 9 88;merge 0 1;"
                + "bundle 0 4 5 9 9;merge 1 0");
        Check.equal("one is left", last.bundleCount(), 1);
        Check.equal("its yards", last.bundleYardsLeft(0), 35);
        Check.equal("its tag", last.bundleTag(0), 4);
    }

    private static void assigning() {
        String setup = "boiler 99 0;roller 4 9 0 0;roller 3 9 0 0;customer a;bundle 0 2 200 9 77;bundle 0 4 150 9 88;"
                + "time 0 0 0 9;time 0 1 0 9";
        RollerLease none = Check.load(setup);
        idle(none, 0, 0, 0);
        idle(none, 1, 0, 1);
        RollerLease x = Check.load(setup + ";assign 0 1");
        idle(x, 0, 0, 1);
        idle(x, 1, 0, 0);
        RollerLease y = Check.load(setup + ";assign 0 1;assign 1 1");
        idle(y, 0, 3, -1);
        idle(y, 1, 0, 0);
        RollerLease z = Check.load(setup + ";assign 0 1;assign 0 0");
        idle(z, 0, 0, 0);
        idle(z, 1, 0, 1);
        z.advance(3);
        Check.equal("yards of roller 0", z.bundleYardsLeft(0), 188);
        Check.equal("yards of roller 1", z.bundleYardsLeft(1), 141);
    }

    private static void copying() {
        RollerLease x = Check.load("boiler 99 0;roller 4 9 0 0;roller 3 9 5 0;customer a;customer b;time 0 0 0 2;time 1 1 3 7;"
                + "copy 1 20;copy 2 10;advance 5");
        Check.equal("leaseCount", x.leaseCount(), 4);
        int[] starts = {0, 3, 20, 10};
        int[] ends = {2, 10, 27, 17};
        for (int l = 1; l < 4; l++) {
            Check.equal("customer", x.leaseCustomer(l), 1);
            Check.equal("roller", x.leaseRoller(l), 1);
            Check.equal("start", x.leaseStart(l), starts[l]);
            Check.equal("end", x.leaseEnd(l), ends[l]);
            Check.equal("yards", x.leaseYardsLeft(l), -1);
        }
        Check.equal("charged", x.advance(30), 19 * 5);
    }

    private static void promise55Advance() {
        RollerLease x = Check.load("boiler 99 9;roller 4 1 10 0;roller 2 2 3 7;customer a;customer b;bundle 0 0 9 9 99;"
                + "bundle 1 1 5 9 99;time 0 0 0 200;time 0 0 200 100;length 1 1 0 99");
        Check.equal("the amount that was charged in one minute", x.advance(1), 10 + 14);
        Check.equal("in two minutes", x.advance(2), 10 + 14 + 10 + 7);
        Check.equal("in the most minutes", x.advance(300), 10 * 297);
        Check.equal("the minute", x.minute(), 303);
        Check.equal("revenue", x.revenue(), 3000 + 35);
        Check.equal("without a lease", x.advance(1), 0);
    }
}
