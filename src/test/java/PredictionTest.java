/** Promises 47 to 50: the predictions, which change nothing. */
public final class PredictionTest {
    private static final String SETUP = "boiler 200 3;roller 3 5 2 4;roller 2 4 1 3;customer ann;customer bo;bundle 0 7 30 4 9;"
            + "bundle 1 3 9 9 5;bundle 0 2 8 6 99;time 0 0 0 9;length 1 1 2 40;time 0 0 12 30";

    public static void main(String[] args) {
        promise47SteamAfter();
        promise48RevenueAfter();
        promise49PredictedFinish();
        promise49Within500Minutes();
        promise50FinishIfAllOpen();
        predictionsAgreeWithWhatHappens();
        Check.finish("PredictionTest");
    }

    private static void promise47SteamAfter() {
        RollerLease x = Check.load("boiler 40 3;roller 3 5 2 4;customer a;bundle 0 0 9 9 9;time 0 0 1 9");
        int[] steam = {40, 40, 38, 36, 34, 37, 40, 40};
        for (int minutes = 0; minutes < steam.length; minutes++) {
            Check.equal("steamAfter(" + minutes + ")", x.steamAfter(minutes), steam[minutes]);
        }
        Check.equal("steamAfter(300)", x.steamAfter(300), 40);
        Check.equal("the steam stays", x.steam(), 40);
        Check.equal("the minute stays", x.minute(), 0);
    }

    private static void promise48RevenueAfter() {
        RollerLease x = Check.load("boiler 40 3;roller 3 5 2 4;customer a;bundle 0 0 8 9 9;time 0 0 1 2;length 0 0 3 40;advance 1");
        int[] revenue = {0, 2, 4, 12, 12, 12};
        for (int minutes = 0; minutes < revenue.length; minutes++) {
            Check.equal("revenueAfter(" + minutes + ")", x.revenueAfter(minutes), revenue[minutes]);
        }
        Check.equal("revenueAfter(300)", x.revenueAfter(300), 12);
        Check.equal("the revenue stays", x.revenue(), 0);
        x.advance(2);
        Check.equal("revenueAfter(0) later", x.revenueAfter(0), 4);
        Check.equal("revenueAfter(1) later", x.revenueAfter(1), 12);
    }

    private static void promise49PredictedFinish() {
        RollerLease x = Check.load(SETUP);
        Check.equal("tag 2: 3 + 3 + 2 yards", x.predictedFinish(2), 3);
        // Tag 7: 6 minutes of 3 to 8 with 18 yards, then 4 more from 12 on.
        Check.equal("tag 7", x.predictedFinish(0), 16);
        Check.equal("tag 3: 2 yards from minute 2 on", x.predictedFinish(1), 7);
        Check.equal("nothing has happened", x.bundleFinish(2), -1);
        x.advance(20);
        for (int bundle = 0; bundle < 3; bundle++) {
            Check.equal("a finished bundle", x.predictedFinish(bundle), x.bundleFinish(bundle));
        }
        Check.equal("tag 7 in the end", x.bundleFinish(0), 16);
        x.addBundle(1, 50, 200, 1, 1);
        Check.equal("not enough leases", x.predictedFinish(3), -1);
        x.setValve(0, false);
        x.leaseByTime(1, 0, 50, 200);
        Check.equal("a closed valve", x.predictedFinish(3), -1);
        x.setValve(0, true);
        Check.equal("an open valve: 4 yards of roller 1, then 66 minutes", x.predictedFinish(3), 116);
    }

    private static void promise49Within500Minutes() {
        RollerLease x = Check.load("boiler 40 3;roller 1 1 0 0;customer a;bundle 0 0 2 9 9;time 0 0 498 3");
        Check.equal("finished in minute 500", x.predictedFinish(0), 500);
        RollerLease y = Check.load("boiler 40 3;roller 1 1 0 0;customer a;bundle 0 0 2 9 9;time 0 0 499 3");
        Check.equal("finished in minute 501", y.predictedFinish(0), -1);
        Check.equal("finished in minute 501, all open", y.finishIfAllOpen(0), -1);
        y.advance(1);
        Check.equal("500 minutes from now", y.predictedFinish(0), 501);
        Check.equal("500 minutes from now, all open", y.finishIfAllOpen(0), 501);
        for (int i = 0; i < 3; i++) {
            y.advance(300);
        }
        Check.equal("finished long ago", y.predictedFinish(0), 501);
    }

    private static void promise50FinishIfAllOpen() {
        RollerLease x = Check.load(SETUP);
        x.setValve(0, false);
        x.setValve(1, false);
        int[] due = {16, 7, 3};
        for (int bundle = 0; bundle < 3; bundle++) {
            Check.equal("predictedFinish", x.predictedFinish(bundle), -1);
            Check.equal("finishIfAllOpen", x.finishIfAllOpen(bundle), due[bundle]);
        }
        Check.isFalse("the valve stays closed", x.isValveOpen(0));
        Check.isFalse("the valve stays closed", x.isValveOpen(1));
        x.setValve(0, true);
        x.advance(5);
        Check.equal("a finished bundle", x.finishIfAllOpen(2), 3);
        Check.equal("2 yards from minute 5 on", x.finishIfAllOpen(1), 10);
        // An open valve may be a hindrance too: the other roller takes the steam.
        RollerLease y = Check.load("boiler 10 0;roller 1 9 0 0;roller 1 9 0 0;customer a;customer b;bundle 0 0 9 9 9;bundle 1 1 1 9 9;"
                + "time 0 0 0 9;time 1 1 0 9;close 0");
        Check.equal("with a closed valve", y.predictedFinish(1), 1);
        Check.equal("with all valves open", y.finishIfAllOpen(1), -1);
    }

    private static void predictionsAgreeWithWhatHappens() {
        for (int minutes = 1; minutes <= 45; minutes++) {
            RollerLease x = Check.load(SETUP.replace("boiler 200", "boiler 40") + ";service 0 3;pause 2;holiday 5 6;rate 3 9 150;discount 1 7;order 1");
            String before = Check.dump(x);
            int steam = x.steamAfter(minutes);
            int revenue = x.revenueAfter(minutes);
            int finish = x.predictedFinish(0);
            Check.same("predictions change nothing", Check.dump(x), before);
            Check.equal("predictions are no changes", x.undoCount(), 0);
            x.advance(minutes);
            Check.equal("steamAfter(" + minutes + ")", steam, x.steam());
            Check.equal("revenueAfter(" + minutes + ")", revenue, x.revenue());
            Check.equal("predictedFinish(0)", finish > x.minute() ? -1 : finish, x.bundleFinish(0));
        }
    }
}
