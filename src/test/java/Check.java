/** What the tests share: loading a setup from text, and counting the answers that are not as due. */
final class Check {
    /** A call of the class; a boolean answer is given as 1 or 0. */
    interface Call {
        long run();
    }

    private static int checks = 0;
    private static int wrong = 0;

    private Check() {
    }

    static void equal(String what, long got, long due) {
        checks++;
        if (got != due) {
            report(what + " answered " + got + ", due is " + due);
        }
    }

    static void same(String what, String got, String due) {
        checks++;
        if (!got.equals(due)) {
            report(what + " gave\n  " + got + ", due is\n  " + due);
        }
    }

    static void exact(String what, double got, double due) {
        checks++;
        if (got != due) {
            report(what + " answered " + got + ", due is " + due);
        }
    }

    static void isTrue(String what, boolean got) {
        equal(what, got ? 1 : 0, 1);
    }

    static void isFalse(String what, boolean got) {
        equal(what, got ? 1 : 0, 0);
    }

    static void throwsState(String what, Call call) {
        throwsExactly(what, IllegalStateException.class, call);
    }

    static void throwsIndex(String what, Call call) {
        throwsExactly(what, IndexOutOfBoundsException.class, call);
    }

    static void throwsArgument(String what, Call call) {
        throwsExactly(what, IllegalArgumentException.class, call);
    }

    static void throwsExactly(String what, Class<?> due, Call call) {
        checks++;
        try {
            report(what + " answered " + call.run() + ", due is " + due.getSimpleName());
        } catch (RuntimeException e) {
            // The class itself: what the machine throws is often a subclass of what is due.
            if (e.getClass() != due) {
                report(what + " threw " + e + ", due is " + due.getSimpleName());
            }
        }
    }

    /** The call throws, and afterwards everything that the class tells is as before: section 7. */
    static void refused(RollerLease x, String what, Class<?> due, Call call) {
        String before = everything(x);
        throwsExactly(what, due, call);
        same("all there is behind " + what, everything(x), before);
    }

    static void report(String problem) {
        wrong++;
        System.out.println("  " + problem);
    }

    /** Appends a text, filled up with spaces to a multiple of twenty bytes. */
    static void append(RollerLease x, String text) {
        for (int at = 0; at < text.length(); at += 20) {
            x.append(four(text, at), four(text, at + 4), four(text, at + 8), four(text, at + 12), four(text, at + 16));
        }
    }

    private static int four(String text, int at) {
        int bytes = 0;
        for (int i = at; i < at + 4; i++) {
            bytes = bytes << 8 | (i < text.length() ? text.charAt(i) & 0xff : ' ');
        }
        return bytes;
    }

    static int parse(RollerLease x, String text) {
        append(x, text);
        return x.parseSetup(text.length());
    }

    /** A new object with a setup, which must be valid. */
    static RollerLease load(String text) {
        RollerLease x = new RollerLease();
        accepts(x, text);
        return x;
    }

    static void accepts(RollerLease x, String text) {
        checks++;
        try {
            parse(x, text);
            if (x.parseErrorCode() != 0 || x.parseErrorPosition() != -1 || x.conflictReason() != 0) {
                report("an accepted setup tells an error: " + text);
            }
        } catch (IllegalArgumentException e) {
            report("refused with " + x.parseErrorCode() + " at " + x.parseErrorPosition() + ": " + text);
        }
    }

    /** The sign ^ stands before the token with the error. */
    static void refuses(int code, String marked) {
        refuses(new RollerLease(), code, 0, marked);
    }

    static void refuses(RollerLease x, int code, int reason, String marked) {
        int position = marked.indexOf('^');
        String text = marked.substring(0, position) + marked.substring(position + 1);
        throwsArgument(marked, () -> parse(x, text));
        equal("the code of " + marked, x.parseErrorCode(), code);
        equal("the position of " + marked, x.parseErrorPosition(), position);
        equal("the reason of " + marked, x.conflictReason(), reason);
        equal("the buffer after " + marked, x.bufferLength(), 0);
    }

    /** The length is what a writing method has answered. */
    static void written(RollerLease x, int length, String due) {
        equal("the length of " + due, length, due.length());
        same("the output", output(x, length), due);
    }

    static String output(RollerLease x, int length) {
        StringBuilder text = new StringBuilder();
        for (int i = 0; i < length; i++) {
            text.append((char) x.outputByte(i));
        }
        throwsIndex("the byte behind the output", () -> x.outputByte(length));
        return text.toString();
    }

    /** The simulation, if there is one, and all that does not belong to it. */
    static String everything(RollerLease x) {
        StringBuilder s = new StringBuilder();
        s.append("buffer ").append(x.bufferLength()).append(" error ").append(x.parseErrorCode()).append(',');
        s.append(x.parseErrorPosition()).append(',').append(x.conflictReason()).append(" changes ").append(x.undoCount());
        s.append(" output ").append(wholeOutput(x)).append(" state ");
        try {
            x.minute();
        } catch (IllegalStateException e) {
            return s.append("none").toString();
        }
        return s.append(dump(x)).toString();
    }

    private static String wholeOutput(RollerLease x) {
        StringBuilder text = new StringBuilder();
        try {
            for (int i = 0; i < 1000; i++) {
                text.append((char) x.outputByte(i));
            }
        } catch (IndexOutOfBoundsException e) {
            return text.toString();
        }
        return text.append(" and no end").toString();
    }

    /** All that the class tells of its simulation, to compare two states. */
    static String dump(RollerLease x) {
        StringBuilder s = new StringBuilder();
        s.append(x.minute()).append(' ').append(x.steam()).append('/').append(x.steamCapacity());
        s.append('+').append(x.steamRefill()).append(" revenue ").append(x.revenue());
        for (int r = 0; r < x.rollerCount(); r++) {
            s.append(" R").append(x.rollerSpeed(r)).append(',').append(x.rollerHeat(r)).append(',');
            s.append(x.minutePrice(r)).append(',').append(x.yardPrice(r)).append(',').append(x.isValveOpen(r));
            s.append(',').append(x.stallCount(r)).append(',').append(x.utilization(r)).append(',');
            s.append(x.idleReason(r)).append(',').append(x.nextBundle(r)).append(',').append(x.activeLease(r));
        }
        for (int c = 0; c < x.customerCount(); c++) {
            s.append(" C");
            for (int i = 0; x.customerLetter(c, i) != -1; i++) {
                s.append((char) x.customerLetter(c, i));
            }
            s.append(x.bill(c));
        }
        for (int l = 0; l < x.leaseCount(); l++) {
            s.append(" L").append(x.leaseCustomer(l)).append(',').append(x.leaseRoller(l)).append(',');
            s.append(x.leaseStart(l)).append(',').append(x.leaseEnd(l)).append(',').append(x.leaseYardsLeft(l));
        }
        for (int b = 0; b < x.bundleCount(); b++) {
            s.append(" B").append(x.bundleOwner(b)).append(',').append(x.bundleTag(b)).append(',');
            s.append(x.bundleYardsLeft(b)).append(',').append(x.bundleDeadline(b)).append(',');
            s.append(x.bundleFinish(b)).append(',').append(x.bundleScorch(b)).append(',').append(x.predictedFinish(b));
        }
        // What no getter tells (service, fee, discounts, limits) shows in what happens later.
        return s.append(" later ").append(x.steamAfter(40)).append(',').append(x.revenueAfter(40)).toString();
    }

    static void finish(String suite) {
        System.out.println(suite + ": " + checks + " checks, " + wrong + " wrong");
        if (wrong != 0) {
            System.exit(1);
        }
    }
}
