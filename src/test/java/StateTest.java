/** Promises 8 to 21, 24 to 46: what the class tells of boiler, rollers, customers, leases and bundles. */
public final class StateTest {
    public static void main(String[] args) {
        promises8To12BoilerAndAccounts();
        promise13Imbalance();
        promises14To19Rollers();
        promise20StallCount();
        promise21ActiveLease();
        promise24Utilization();
        promises25To27Customers();
        promises28To33Leases();
        promise34LeaseObstacle();
        promise35FirstFreeStart();
        promise36CheapestRoller();
        promises37To43Bundles();
        promise44FindBundle();
        promise45LateCount();
        promise46AverageScorch();
        Check.finish("StateTest");
    }

    private static void promises8To12BoilerAndAccounts() {
        RollerLease x = Check.load("boiler 40 7;roller 2 9 11 0;customer a;bundle 0 0 99 9 99;time 0 0 1 3");
        Check.equal("minute", x.minute(), 0);
        Check.equal("steam", x.steam(), 40);
        Check.equal("steamCapacity", x.steamCapacity(), 40);
        Check.equal("steamRefill", x.steamRefill(), 7);
        Check.equal("revenue", x.revenue(), 0);
        x.advance(3);
        Check.equal("minute after 3", x.minute(), 3);
        Check.equal("steam after 3", x.steam(), 36);
        Check.equal("steamCapacity after 3", x.steamCapacity(), 40);
        Check.equal("revenue after 3", x.revenue(), 22);
        x.advance(300);
        Check.equal("minute after 303", x.minute(), 303);
        Check.equal("steam is at most the capacity", x.steam(), 40);
        Check.equal("revenue after 303", x.revenue(), 33);
        Check.accepts(x, "boiler 40 7;roller 2 9 11 0;customer a;time 0 0 0 3;advance 2");
        Check.equal("revenue of minutes within the setup", x.revenue(), 22);
        for (int i = 0; i < 4; i++) {
            x.advance(300);
        }
        Check.equal("a minute above 1000", x.minute(), 1202);
        Check.equal("no revenue without a lease", x.revenue(), 33);
    }

    private static void promise13Imbalance() {
        RollerLease x = Check.load("boiler 40 7;roller 2 9 11 7;roller 3 1 13 5;customer a;customer b;bundle 0 0 99 9 99;"
                + "bundle 1 1 99 9 99;rate 2 4 133;discount 1 33;fee 77 100;time 0 0 1 3;length 1 1 0 8;time 0 1 3 4;advance 4");
        Check.equal("imbalance", x.imbalance(), 0);
        x.leaseByTime(1, 0, 4, 1);
        x.leaseByLength(0, 0, 5, 3);
        x.cancelLease(4);
        Check.equal("imbalance", x.imbalance(), 0);
        x.advance(20);
        Check.equal("imbalance", x.imbalance(), 0);
    }

    private static void promises14To19Rollers() {
        RollerLease x = Check.load("boiler 40 7;roller 2 9 11 7;roller 3 1 13 50;roller 9 5 0 2;close 1;customer a");
        Check.equal("rollerCount", x.rollerCount(), 3);
        int[][] rollers = {{2, 9, 11, 7, 1}, {3, 1, 13, 50, 0}, {9, 5, 0, 2, 1}};
        for (int r = 0; r < 3; r++) {
            Check.equal("rollerSpeed", x.rollerSpeed(r), rollers[r][0]);
            Check.equal("rollerHeat", x.rollerHeat(r), rollers[r][1]);
            Check.equal("minutePrice", x.minutePrice(r), rollers[r][2]);
            Check.equal("yardPrice", x.yardPrice(r), rollers[r][3]);
            Check.equal("isValveOpen", x.isValveOpen(r) ? 1 : 0, rollers[r][4]);
        }
        Check.equal("one roller", Check.load("boiler 10 0;roller 1 1 0 0;customer a").rollerCount(), 1);
    }

    private static void promise20StallCount() {
        RollerLease x = Check.load("boiler 10 3;roller 1 8 0 0;roller 1 8 0 0;customer a;bundle 0 0 9 9 99;bundle 0 1 9 9 99;"
                + "time 0 0 0 9;time 0 1 2 2");
        // 10 -> 2+3 -> 5+3 -> 8-8+3 -> 3+3 -> 6+3 -> 9-8+3
        int[] steams = {10, 5, 8, 3, 6, 9, 4};
        int[] first = {0, 0, 1, 1, 2, 3, 3};
        int[] second = {0, 0, 0, 1, 2, 2, 2};
        for (int minute = 0; minute < 7; minute++) {
            Check.equal("steam in minute " + minute, x.steam(), steams[minute]);
            Check.equal("stalls of roller 0 in minute " + minute, x.stallCount(0), first[minute]);
            Check.equal("stalls of roller 1 in minute " + minute, x.stallCount(1), second[minute]);
            x.advance(1);
        }
    }

    private static void promise21ActiveLease() {
        RollerLease x = Check.load("boiler 10 0;roller 1 1 0 0;roller 1 1 0 0;customer a;time 0 1 0 2;time 0 0 3 2;time 0 0 1 2");
        int[] first = {-1, 2, 2, 1, 1, -1};
        int[] second = {0, 0, -1, -1, -1, -1};
        for (int minute = 0; minute < 6; minute++) {
            Check.equal("activeLease(0) in minute " + minute, x.activeLease(0), first[minute]);
            Check.equal("activeLease(1) in minute " + minute, x.activeLease(1), second[minute]);
            x.advance(1);
        }
    }

    private static void promise24Utilization() {
        RollerLease x = Check.load("boiler 10 0;roller 1 1 0 0;roller 1 9 0 0;customer a;bundle 0 0 4 9 99;time 0 0 1 9");
        Check.exact("utilization in minute 0", x.utilization(0), 0.0);
        x.advance(1);
        Check.exact("utilization in minute 1", x.utilization(0), 0.0);
        x.advance(2);
        Check.exact("utilization in minute 3", x.utilization(0), 2.0 / 3.0);
        x.advance(4);
        Check.exact("utilization in minute 7", x.utilization(0), 4.0 / 7.0);
        Check.exact("utilization of the other", x.utilization(1), 0.0);
        x.setValve(0, false);
        x.advance(6);
        Check.exact("utilization in minute 13", x.utilization(0), 4.0 / 13.0);
    }

    private static void promises25To27Customers() {
        RollerLease x = Check.load("boiler 10 0;roller 1 1 7 0;customer abcxyz;customer q;time 1 0 0 3;advance 2");
        Check.equal("customerCount", x.customerCount(), 2);
        int[] letters = {'a', 'b', 'c', 'x', 'y', 'z', -1};
        for (int i = 0; i < letters.length; i++) {
            Check.equal("letter " + i, x.customerLetter(0, i), letters[i]);
        }
        Check.equal("the only letter", x.customerLetter(1, 0), 'q');
        Check.equal("behind the only letter", x.customerLetter(1, 1), -1);
        Check.equal("before the first letter", x.customerLetter(0, -1), -1);
        Check.equal("far before the first letter", x.customerLetter(0, Integer.MIN_VALUE), -1);
        Check.equal("far behind the last letter", x.customerLetter(0, Integer.MAX_VALUE), -1);
        Check.equal("bill(0)", x.bill(0), 0);
        Check.equal("bill(1)", x.bill(1), 14);
    }

    private static void promises28To33Leases() {
        RollerLease x = Check.load("boiler 10 0;roller 3 1 7 0;roller 9 1 7 2;customer a;customer b;time 1 0 4 3;length 0 1 2 10;"
                + "length 1 0 7 9;bundle 0 5 4 1 9");
        Check.equal("leaseCount", x.leaseCount(), 3);
        int[][] leases = {{1, 0, 4, 7, -1}, {0, 1, 2, 4, 10}, {1, 0, 7, 10, 9}};
        for (int l = 0; l < 3; l++) {
            Check.equal("leaseCustomer", x.leaseCustomer(l), leases[l][0]);
            Check.equal("leaseRoller", x.leaseRoller(l), leases[l][1]);
            Check.equal("leaseStart", x.leaseStart(l), leases[l][2]);
            Check.equal("leaseEnd", x.leaseEnd(l), leases[l][3]);
            Check.equal("leaseYardsLeft", x.leaseYardsLeft(l), leases[l][4]);
        }
        x.advance(20);
        Check.equal("leases that have ended remain", x.leaseCount(), 3);
        Check.equal("yards that were not used", x.leaseYardsLeft(1), 6);
        Check.equal("the end stays if not all yards are used", x.leaseEnd(1), 4);
        Check.equal("yards without a bundle", x.leaseYardsLeft(2), 9);
        Check.equal("no lease", Check.load("boiler 10 0;roller 1 1 0 0;customer a").leaseCount(), 0);
    }

    private static void promise34LeaseObstacle() {
        RollerLease x = Check.load("boiler 10 0;roller 1 1 0 0;roller 1 1 0 0;customer a;time 0 0 10 5;advance 4");
        Check.equal("before now", x.leaseObstacle(0, 3, 1), 1);
        Check.equal("far before now", x.leaseObstacle(0, Integer.MIN_VALUE, 200), 1);
        Check.equal("before now and taken", x.leaseObstacle(0, 3, 20), 1);
        Check.equal("now", x.leaseObstacle(0, 4, 6), 0);
        Check.equal("up to the first minute of a lease", x.leaseObstacle(0, 4, 7), 3);
        Check.equal("within a lease", x.leaseObstacle(0, 12, 1), 3);
        Check.equal("around a lease", x.leaseObstacle(0, 8, 50), 3);
        Check.equal("from its last minute", x.leaseObstacle(0, 14, 1), 3);
        Check.equal("from its end", x.leaseObstacle(0, 15, 200), 0);
        Check.equal("the other roller", x.leaseObstacle(1, 12, 1), 0);
        Check.equal("an end of 1000", x.leaseObstacle(0, 999, 1), 0);
        Check.equal("an end of 1000", x.leaseObstacle(0, 800, 200), 0);
        Check.equal("an end of 1001", x.leaseObstacle(0, 801, 200), 2);
        Check.equal("an end of 1001", x.leaseObstacle(0, 1000, 1), 2);
        Check.equal("the greatest start", x.leaseObstacle(0, Integer.MAX_VALUE, 200), 2);
        for (int lease = 1; lease < 16; lease++) {
            Check.equal("no obstacle yet", x.leaseObstacle(0, 990, 1), 0);
            x.leaseByTime(0, 1, 100 + lease, 1);
        }
        Check.equal("16 leases", x.leaseObstacle(0, 990, 1), 4);
        Check.equal("16 leases, and taken", x.leaseObstacle(0, 10, 1), 3);
        Check.equal("16 leases, and too late", x.leaseObstacle(0, 1000, 1), 2);
        Check.equal("16 leases, and before now", x.leaseObstacle(0, 0, 1), 1);
    }

    private static void promise35FirstFreeStart() {
        RollerLease x = Check.load("boiler 10 0;roller 1 1 0 0;roller 1 1 0 0;customer a;time 0 0 7 3;time 0 0 0 5;time 0 1 0 200");
        Check.equal("between two leases", x.firstFreeStart(0, 0, 2), 5);
        Check.equal("behind two leases", x.firstFreeStart(0, 0, 3), 10);
        Check.equal("from there", x.firstFreeStart(0, 5, 2), 5);
        Check.equal("from the next minute", x.firstFreeStart(0, 6, 2), 10);
        Check.equal("one minute", x.firstFreeStart(0, 6, 1), 6);
        Check.equal("from far before now", x.firstFreeStart(0, Integer.MIN_VALUE, 1), 5);
        Check.equal("from far behind", x.firstFreeStart(0, Integer.MAX_VALUE, 200), -1);
        Check.equal("the last that fits", x.firstFreeStart(0, 800, 200), 800);
        Check.equal("one too late", x.firstFreeStart(0, 801, 200), -1);
        Check.equal("the last minute", x.firstFreeStart(0, 999, 1), 999);
        Check.equal("behind the last minute", x.firstFreeStart(0, 1000, 1), -1);
        Check.equal("the other roller", x.firstFreeStart(1, 0, 200), 200);
        x.advance(6);
        Check.equal("not before now", x.firstFreeStart(0, 0, 1), 6);
        Check.equal("not before now", x.firstFreeStart(0, -9, 2), 10);
        for (int lease = 3; lease < 16; lease++) {
            x.leaseByTime(0, 0, 10 + lease, 1);
        }
        Check.equal("the number of leases does not matter", x.firstFreeStart(0, 0, 4), 26);
        for (int i = 0; i < 4; i++) {
            x.advance(300);
        }
        Check.equal("a current minute above 1000", x.firstFreeStart(0, 0, 1), -1);
    }

    private static void promise36CheapestRoller() {
        RollerLease x = Check.load("boiler 10 0;roller 3 1 10 4;roller 2 1 9 4;roller 9 1 50 3;customer a;discount 0 50;"
                + "rate 0 999 200");
        // roller 0: 4y or 10*ceil(y/3); roller 1: 4y or 9*ceil(y/2); roller 2: 3y or 50*ceil(y/9)
        Check.equal("1 yard: 4, 4, 3", x.cheapestRoller(1), 2);
        Check.equal("3 yards: 10, 12, 9", x.cheapestRoller(3), 2);
        Check.equal("4 yards: 16, 16, 12", x.cheapestRoller(4), 2);
        Check.equal("6 yards: 20, 24, 18", x.cheapestRoller(6), 2);
        Check.equal("12 yards: 40, 48, 36", x.cheapestRoller(12), 2);
        Check.equal("200 yards: 670, 800, 600", x.cheapestRoller(200), 2);
        RollerLease y = Check.load("boiler 10 0;roller 3 1 10 50;roller 2 1 7 50;roller 1 1 9 50;roller 2 1 7 50;customer a");
        // 10*ceil(y/3), 7*ceil(y/2), 9y, as roller 1
        Check.equal("1 yard: 10, 7, 9, 7", y.cheapestRoller(1), 1);
        Check.equal("3 yards: 10, 14, 27, 14", y.cheapestRoller(3), 0);
        Check.equal("4 yards: 20, 14, 36, 14", y.cheapestRoller(4), 1);
        Check.equal("6 yards: 20, 21, 54, 21", y.cheapestRoller(6), 0);
        Check.equal("9 yards: 30, 35, 81, 35", y.cheapestRoller(9), 0);
        RollerLease z = Check.load("boiler 10 0;roller 1 1 50 2;roller 9 1 2 50;roller 1 1 50 2;customer a");
        Check.equal("1 yard: 2, 2, 2, of several the smallest", z.cheapestRoller(1), 0);
        Check.equal("2 yards: 4, 2, 4", z.cheapestRoller(2), 1);
    }

    private static void promises37To43Bundles() {
        RollerLease x = Check.load("boiler 90 0;roller 3 5 0 0;roller 9 9 0 0;customer a;customer b;bundle 1 40 7 4 2;bundle 0 3 9 5 999;"
                + "time 1 0 1 5;time 0 1 0 1");
        Check.equal("bundleCount", x.bundleCount(), 2);
        int[][] bundles = {{1, 40, 7, 2, -1, 0}, {0, 3, 9, 999, -1, 0}};
        bundlesAre(x, bundles);
        x.advance(3);
        int[][] later = {{1, 40, 1, 2, -1, 2}, {0, 3, 0, 999, 1, 1}};
        bundlesAre(x, later);
        x.advance(1);
        int[][] finished = {{1, 40, 0, 2, 4, 3}, {0, 3, 0, 999, 1, 1}};
        bundlesAre(x, finished);
        Check.equal("no bundle", Check.load("boiler 10 0;roller 1 1 0 0;customer a").bundleCount(), 0);
    }

    private static void bundlesAre(RollerLease x, int[][] bundles) {
        for (int b = 0; b < bundles.length; b++) {
            Check.equal("bundleOwner", x.bundleOwner(b), bundles[b][0]);
            Check.equal("bundleTag", x.bundleTag(b), bundles[b][1]);
            Check.equal("bundleYardsLeft", x.bundleYardsLeft(b), bundles[b][2]);
            Check.equal("bundleDeadline", x.bundleDeadline(b), bundles[b][3]);
            Check.equal("bundleFinish", x.bundleFinish(b), bundles[b][4]);
            Check.equal("bundleScorch", x.bundleScorch(b), bundles[b][5]);
        }
    }

    private static void promise44FindBundle() {
        RollerLease x = Check.load("boiler 10 0;roller 1 1 0 0;customer a;bundle 0 5 1 9 9;bundle 0 0 1 9 9;bundle 0 99 1 9 9");
        Check.equal("tag 5", x.findBundle(5), 0);
        Check.equal("tag 0", x.findBundle(0), 1);
        Check.equal("tag 99", x.findBundle(99), 2);
        int[] none = {1, 98, 100, -1, Integer.MIN_VALUE, Integer.MAX_VALUE};
        for (int tag : none) {
            Check.equal("tag " + tag, x.findBundle(tag), -1);
        }
        Check.equal("no bundle at all", Check.load("boiler 10 0;roller 1 1 0 0;customer a").findBundle(0), -1);
    }

    private static void promise45LateCount() {
        // Tag 0 is finished in 2 (deadline 1: late), tag 1 in 4 (deadline 4: not), tag 2 never (deadline 5).
        RollerLease x = Check.load("boiler 90 0;roller 1 1 0 0;customer a;bundle 0 0 2 9 1;bundle 0 1 2 9 4;bundle 0 2 2 9 5;"
                + "time 0 0 0 4");
        int[] late = {0, 0, 1, 1, 1, 1, 2, 2};
        for (int minute = 0; minute < late.length; minute++) {
            Check.equal("lateCount in minute " + minute, x.lateCount(), late[minute]);
            x.advance(1);
        }
    }

    private static void promise46AverageScorch() {
        RollerLease none = Check.load("boiler 90 0;roller 1 1 0 0;customer a");
        Check.exact("without bundles", none.averageScorch(), 0.0f);
        RollerLease x = Check.load("boiler 90 0;roller 1 5 0 0;customer a;bundle 0 0 2 4 9;bundle 0 1 2 5 9;bundle 0 2 9 1 9;"
                + "time 0 0 0 99");
        Check.exact("before", x.averageScorch(), 0.0f);
        x.advance(1);
        Check.exact("1 of 3", x.averageScorch(), 1.0f / 3.0f);
        x.advance(3);
        Check.exact("2 of 3", x.averageScorch(), 2.0f / 3.0f);
        x.advance(3);
        Check.exact("5 of 3", x.averageScorch(), 5.0f / 3.0f);
    }
}
