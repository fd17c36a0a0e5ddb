/**
 * Random setups and calls: only the exceptions of the document come, a call that throws changes nothing,
 * undo and restoreState bring back what was, and predictions agree with what happens.
 */
public final class RandomRunsTest {
    private static final int RUNS = 1500;
    private static final int CALLS = 40;

    private static long seed = 20261119;

    public static void main(String[] args) {
        int valid = 0;
        for (int run = 0; run < RUNS; run++) {
            RollerLease x = new RollerLease();
            if (loads(x, randomSetup())) {
                valid++;
                randomChanges(x);
                randomPredictions(x);
            }
            refusesGarbage(x);
        }
        Check.isTrue("enough of the setups are valid: " + valid, valid > RUNS / 5);
        Check.finish("RandomRunsTest");
    }

    private static int random(int least, int most) {
        seed = seed * 6364136223846793005L + 1442695040888963407L;
        return least + (int) ((seed >>> 33) % (most - least + 1));
    }

    private static String randomSetup() {
        StringBuilder s = new StringBuilder("boiler ").append(random(10, 60)).append(' ').append(random(0, 12));
        int rollers = random(1, 4);
        for (int r = 0; r < rollers; r++) {
            s.append(";roller ").append(random(1, 9)).append(' ').append(random(1, 9)).append(' ');
            s.append(random(0, 50)).append(' ').append(random(0, 50));
        }
        s.append(";customer a;customer bob;customer zz;bundle 0 50 40 5 50;bundle 0 20 30 4 20;time 0 0 0 9");
        int items = random(1, 12);
        for (int i = 0; i < items; i++) {
            String item = randomItem(rollers);
            if (s.length() + item.length() < 499) {
                s.append(';').append(item);
            }
        }
        return s.toString();
    }

    private static String randomItem(int rollers) {
        int roller = random(0, rollers - 1);
        int customer = random(0, 2);
        int minute = random(0, 60);
        switch (random(0, 16)) {
            case 0: return "time " + customer + " " + roller + " " + minute + " " + random(1, 20);
            case 1: return "length " + customer + " " + roller + " " + minute + " " + random(1, 40);
            case 2: return "close " + roller;
            case 3: return "discount " + customer + " " + random(0, 50);
            case 4: return "service " + roller + " " + random(0, 5);
            case 5: return "pause " + random(0, 5);
            case 6: return "holiday " + minute + " " + (minute + random(0, 5));
            case 7: return "order " + roller;
            case 8: return "fee " + random(0, 99) + " " + random(0, 60);
            case 9: return "split 0 " + random(1, 5);
            case 10: return "merge 0 1";
            case 11: return "assign 0 " + roller;
            case 12: return "rate " + minute + " " + (minute + random(0, 20)) + " " + random(50, 200);
            case 13: return "copy 0 " + random(0, 99);
            case 14: return "advance " + random(1, 5);
            case 15: return "repeat 2 (advance 1;pause " + random(0, 3) + ")";
            default: return "bundle " + customer + " " + random(0, 99) + " " + random(1, 60) + " " + random(1, 9) + " "
                    + random(0, 80);
        }
    }

    private static boolean loads(RollerLease x, String setup) {
        try {
            Check.equal("the leases of " + setup, Check.parse(x, setup), x.leaseCount());
            return true;
        } catch (IllegalArgumentException e) {
            Check.isTrue("a code of " + setup, x.parseErrorCode() >= 1 && x.parseErrorCode() <= 4);
            int position = x.parseErrorPosition();
            Check.isTrue("a position of " + setup, position >= 0 && position <= setup.length());
            return false;
        }
    }

    private static void refusesGarbage(RollerLease x) {
        String[] parts = {"boiler 10 0", ";", "(", ")", " ", "repeat", "5", "0", "roller 1 1 0 0", "customer a", "order", "x", "\n"};
        StringBuilder s = new StringBuilder();
        for (int i = random(0, 30); i > 0; i--) {
            s.append(parts[random(0, parts.length - 1)]);
        }
        loads(x, s.toString());
    }

    private static void randomChanges(RollerLease x) {
        String[] states = new String[CALLS + 1];
        int count = 0;
        states[0] = Check.dump(x);
        for (int call = 0; call < CALLS; call++) {
            int undoable = x.undoCount();
            if (change(x)) {
                count = count == 8 ? forgetFirst(states) : count + 1;
                states[count] = Check.dump(x);
                Check.equal("undoCount", x.undoCount(), Math.min(8, undoable + 1));
            } else {
                Check.same("a call that throws changes nothing", Check.dump(x), states[count]);
                Check.equal("undoCount", x.undoCount(), undoable);
            }
            Check.equal("imbalance", x.imbalance(), 0);
            if (random(0, 4) == 0 && count > 0) {
                count--;
                Check.equal("undo", x.undo(), count);
                Check.same("the state before", Check.dump(x), states[count]);
            }
        }
    }

    private static int forgetFirst(String[] states) {
        System.arraycopy(states, 1, states, 0, 8);
        return 8;
    }

    /** Tells whether a random change was made; false if it threw what the document names. */
    private static boolean change(RollerLease x) {
        int customer = random(-1, 3);
        int roller = random(0, x.rollerCount());
        int start = x.minute() + random(-1, 20);
        try {
            switch (random(0, 7)) {
                case 0: x.leaseByTime(customer, roller, start, random(0, 20)); break;
                case 1: x.leaseByLength(customer, roller, start, random(0, 40)); break;
                case 2: x.cancelLease(random(-1, x.leaseCount())); break;
                case 3: x.setValve(roller, random(0, 3) != 0); break;
                case 4: x.addBundle(customer, random(-1, 100), random(0, 50), random(0, 10), random(-1, 200)); break;
                case 5: x.setRefill(random(-1, 20)); break;
                case 6: x.advance(random(0, 6)); break;
                default: x.advance(1); break;
            }
            return true;
        } catch (RuntimeException e) {
            Check.isTrue(e + " is one of the document's", e.getClass() == IndexOutOfBoundsException.class
                    || e.getClass() == IllegalArgumentException.class);
            return false;
        }
    }

    private static void randomPredictions(RollerLease x) {
        for (int i = 0; i < 10; i++) {
            change(x);
            String before = Check.dump(x);
            x.saveState(1);
            predictNextMinute(x);
            x.restoreState(1);
            predictMinutes(x, random(1, 300));
            x.restoreState(1);
            Check.same("the saved state", Check.dump(x), before);
        }
    }

    private static void predictNextMinute(RollerLease x) {
        int[] reasons = new int[x.rollerCount()];
        long[] stalls = new long[reasons.length];
        double[] used = new double[reasons.length];
        for (int r = 0; r < reasons.length; r++) {
            reasons[r] = x.idleReason(r);
            int bundle = x.nextBundle(r);
            Check.isTrue("a bundle if and only if not idle", reasons[r] == 0 == (bundle != -1));
            Check.isTrue("no lease is reason 1", reasons[r] == 1 == (x.activeLease(r) == -1));
            if (reasons[r] == 0) {
                Check.equal("the owner has the lease", x.bundleOwner(bundle), x.leaseCustomer(x.activeLease(r)));
            }
            stalls[r] = x.stallCount(r);
            used[r] = x.utilization(r) * x.minute();
        }
        x.advance(1);
        for (int r = 0; r < reasons.length; r++) {
            Check.equal("a stall is reason 4", x.stallCount(r) - stalls[r], reasons[r] == 4 ? 1 : 0);
            Check.equal("work is reason 0", Math.round(x.utilization(r) * x.minute() - used[r]), reasons[r] == 0 ? 1 : 0);
        }
    }

    private static void predictMinutes(RollerLease x, int minutes) {
        int steam = x.steamAfter(minutes);
        int revenue = x.revenueAfter(minutes);
        int[] finishes = new int[x.bundleCount()];
        for (int b = 0; b < finishes.length; b++) {
            finishes[b] = x.predictedFinish(b);
        }
        int before = x.revenue();
        Check.equal("advance", x.advance(minutes), revenue - before);
        Check.equal("steamAfter", x.steam(), steam);
        Check.equal("revenueAfter", x.revenue(), revenue);
        for (int b = 0; b < finishes.length; b++) {
            Check.equal("predictedFinish", x.bundleFinish(b), finishes[b] > x.minute() ? -1 : finishes[b]);
        }
    }
}
