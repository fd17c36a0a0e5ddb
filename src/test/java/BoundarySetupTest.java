/** The boundary cases of a setup: promises 1 to 7, the ranges and limits of section 6, the numbers of sections 1 to 4. */
public final class BoundarySetupTest {
    private static final int SYNTAX = 1;
    private static final int RANGE = 2;
    private static final int CONFLICT = 3;
    private static final int LIMIT = 4;

    /** One roller and one customer, a bundle, and a lease in minute 0. */
    private static final String BASE = "boiler 10 0;roller 1 1 0 0;customer a;bundle 0 0 200 1 0;time 0 0 0 1";
    private static final String LEAST = "boiler 10 0;roller 1 1 0 0;customer a";

    public static void main(String[] args) {
        promise1NothingIsThereAtFirst();
        promise2AnyInts();
        promise2TheLastTwentyBytes();
        promise3Lengths();
        promise3ARefusedLengthChangesNothing();
        promise3ARefusedSetupChangesNothingButTheBuffer();
        promise3AllThatIsKeptBehindARefusedSetup();
        promises4To6WithoutACall();
        promise5ParsedBytes();
        promise7Lengths();

        tokenLengths();
        leadingZeros();
        boilerRanges();
        rollerRanges();
        bundleRanges();
        timeRanges();
        lengthRanges();
        itemsOfOneNumberRanges();
        itemsOfTwoNumbersRanges();
        holidayAndRateRanges();
        splitMergeAssignRanges();
        copyRanges();
        repeatRanges();
        nothingExistsYet();

        rollersOneToSix();
        customersOneToSix();
        namesOneToSixLetters();
        leasesUpToSixteen();
        bundlesUpToSixteen();
        holidaysUpToFour();
        ratesUpToFour();
        bracketsUpToThree();
        minutesUpToTwoThousand();
        limitsInALaterPass();
        aLaterPassOfAnItem();

        obstacleBeforeTheCurrentMinute();
        obstacleOfTheEnd();
        obstacleOfAnotherLease();
        obstacleOfSixteenLeases();
        obstaclesOfCopies();
        cancelAtTheCurrentMinute();
        splitOfAllThatIsLeft();
        mergeBeyondTwoHundred();
        orderOfAll();
        Check.finish("BoundarySetupTest");
    }

    // ---- promises 1 to 7

    private static void promise1NothingIsThereAtFirst() {
        RollerLease x = new RollerLease();
        Check.same("a new object", Check.everything(x), "buffer 0 error 0,-1,0 changes 0 output  state none");
        Check.refused(x, "the first byte of no output", IndexOutOfBoundsException.class, () -> x.outputByte(0));
        Check.refused(x, "undo without a setup", IllegalStateException.class, x::undo);
        Check.refused(x, "slot 0 without a setup", IllegalStateException.class, () -> x.restoreState(0));
        Check.refused(x, "slot 1 without a setup", IllegalStateException.class, () -> x.restoreState(1));
        Check.refused(x, "saveState without a setup", IllegalStateException.class, () -> x.saveState(0));
        Check.refused(x, "one byte of an empty buffer", IndexOutOfBoundsException.class, () -> x.parseSetup(1));
    }

    private static void promise2AnyInts() {
        RollerLease x = new RollerLease();
        int least = Integer.MIN_VALUE;
        int most = Integer.MAX_VALUE;
        Check.equal("the least and the greatest ints", x.append(least, most, -1, 0, 1), 20);
        Check.throwsArgument("byte 128", () -> x.parseSetup(20));
        Check.equal("its position", x.parseErrorPosition(), 0);
        // The sign bit of a byte, or that of an int, spills into no other byte: "boil" "er10" 255 " 0;" ...
        x.append(0x626f696c, 0x65723130, 0xff20303b, 0x3b3b3b3b, 0x80808080);
        Check.throwsArgument("byte 255 in the midst", () -> x.parseSetup(20));
        Check.equal("the bytes before it are whole", x.parseErrorPosition(), 8);
        x.append(0x626f696c, 0x65723130, 0x203030ff, 0, 0);
        Check.throwsArgument("byte 255 behind others", () -> x.parseSetup(20));
        Check.equal("the bytes before it are whole", x.parseErrorPosition(), 11);
    }

    private static void promise2TheLastTwentyBytes() {
        RollerLease x = new RollerLease();
        String full = BASE + ";" + " ".repeat(500 - BASE.length() - 10) + "advance 9";
        for (int at = 0; at < 480; at += 20) {
            Check.append(x, full.substring(at, at + 20));
        }
        Check.equal("480 bytes", x.bufferLength(), 480);
        Check.append(x, full.substring(480));
        Check.equal("500 bytes", x.bufferLength(), 500);
        Check.equal("more than 500 bytes", x.append(0, 0, 0, 0, 0), -1);
        Check.equal("more than 500 bytes once more", x.append(-1, -1, -1, -1, -1), -1);
        Check.equal("nothing was appended", x.bufferLength(), 500);
        Check.equal("all 500 bytes are the setup", x.parseSetup(500), 1);
        Check.equal("the last byte counts", x.minute(), 9);
        Check.equal("there is room again", x.append(0, 0, 0, 0, 0), 20);
    }

    private static void promise3Lengths() {
        RollerLease x = new RollerLease();
        Check.refused(x, "length 1 of an empty buffer", IndexOutOfBoundsException.class, () -> x.parseSetup(1));
        Check.throwsArgument("length 0 of an empty buffer", () -> x.parseSetup(0));
        error(x, SYNTAX, 0, 0);
        Check.append(x, LEAST);
        Check.throwsArgument("length 0 of a buffer that holds a setup", () -> x.parseSetup(0));
        error(x, SYNTAX, 0, 0);
        Check.equal("the buffer is empty", x.bufferLength(), 0);
        Check.throwsIndex("its setup is gone", () -> x.parseSetup(LEAST.length()));
        Check.append(x, LEAST);
        Check.equal("the whole buffer", x.parseSetup(x.bufferLength()), 0);
        error(x, 0, -1, 0);
        Check.append(x, LEAST + "a");
        Check.equal("one byte less than there is", x.parseSetup(LEAST.length()), 0);
        Check.equal("the name without that byte", x.customerLetter(0, 1), -1);
    }

    private static void promise3ARefusedLengthChangesNothing() {
        int[] lengths = {-1, -20, 41, 60, 500, 501, Integer.MIN_VALUE, Integer.MAX_VALUE};
        RollerLease x = new RollerLease();
        Check.append(x, LEAST);
        for (int length : lengths) {
            Check.refused(x, "length " + length, IndexOutOfBoundsException.class, () -> x.parseSetup(length));
        }
        Check.equal("the bytes have stayed", x.parseSetup(LEAST.length()), 0);
        x.advance(3);
        x.writeBills();
        Check.refuses(x, CONFLICT, 3, BASE + ";time 0 0 0 ^1");
        Check.append(x, LEAST);
        for (int length : lengths) {
            Check.refused(x, "length " + length + " later", IndexOutOfBoundsException.class, () -> x.parseSetup(length));
        }
        Check.equal("the change has stayed", x.undo(), 0);
    }

    private static void promise3ARefusedSetupChangesNothingButTheBuffer() {
        RollerLease x = Check.load(BASE + ";advance 7");
        x.writeBundle(0);
        String before = Check.dump(x);
        // Each breaks off in the midst of something that had taken effect already.
        String[] setups = {
            "^", "boiler ^9 0", "boiler 500 50^", "boiler 500 50;roller 9 9 9 9;roller 9 9 9 ^51",
            "boiler 500 50;roller 9 9 9 9;customer zz;bundle 0 9 9 9 9;bundle 0 ^9 9 9 9",
            "boiler 500 50;roller 9 9 9 9;customer zz;advance 300;advance ^301",
            "boiler 500 50;roller 9 9 9 9;roller 9 9 9 9;order 1 ^1",
            "boiler 500 50;roller 9 9 9 9;customer zz;time 0 0 0 9;cancel 0;cancel ^0",
            "boiler 500 50;roller 9 9 9 9^",
        };
        for (String marked : setups) {
            int position = marked.indexOf('^');
            String text = marked.substring(0, position) + marked.substring(position + 1);
            Check.throwsArgument(marked, () -> Check.parse(x, text));
            Check.equal("the position in " + marked, x.parseErrorPosition(), position);
            Check.same("the simulation behind " + marked, Check.dump(x), before);
            Check.equal("the buffer behind " + marked, x.bufferLength(), 0);
        }
        Check.same("the output", Check.output(x, 6), "0:199!");
    }

    private static void promise3AllThatIsKeptBehindARefusedSetup() {
        RollerLease x = Check.load(BASE);
        String[] states = new String[9];
        for (int change = 0; change < 8; change++) {
            states[change] = Check.dump(x);
            x.advance(change + 1);
        }
        x.saveState(0);
        String saved = Check.dump(x);
        Check.refuses(x, LIMIT, 0, "boiler 500 50;roller 9 9 9 9;advance 300^");
        Check.equal("all changes have stayed", x.undoCount(), 8);
        for (int change = 7; change >= 0; change--) {
            Check.equal("undo", x.undo(), change);
            Check.same("with " + change + " changes", Check.dump(x), states[change]);
        }
        Check.equal("the saved state has stayed", x.restoreState(0), 36);
        Check.same("the saved state", Check.dump(x), saved);
        Check.refused(x, "a slot that was empty", IllegalStateException.class, () -> x.restoreState(1));
    }

    private static void error(RollerLease x, int code, int position, int reason) {
        Check.equal("parseErrorCode", x.parseErrorCode(), code);
        Check.equal("parseErrorPosition", x.parseErrorPosition(), position);
        Check.equal("conflictReason", x.conflictReason(), reason);
    }

    private static void promises4To6WithoutACall() {
        RollerLease x = new RollerLease();
        error(x, 0, -1, 0);
        Check.throwsIndex("a call that does not count", () -> x.parseSetup(-1));
        error(x, 0, -1, 0);
        Check.accepts(x, LEAST);
        error(x, 0, -1, 0);
        Check.refuses(x, CONFLICT, 2, BASE + ";time 0 0 999 ^2");
        Check.throwsIndex("a call that does not count", () -> x.parseSetup(1));
        error(x, CONFLICT, BASE.length() + 14, 2);
        Check.refuses(x, CONFLICT, 0, BASE + ";close 0;close ^0");
        Check.accepts(x, LEAST);
        error(x, 0, -1, 0);
    }

    private static void promise5ParsedBytes() {
        // The token with the error is at the first byte, at the last one, and behind it.
        Check.refuses(SYNTAX, "^;");
        Check.refuses(SYNTAX, "^xboiler");
        Check.refuses(SYNTAX, LEAST + "^)");
        Check.refuses(SYNTAX, LEAST + ";^");
        Check.refuses(SYNTAX, LEAST + ";   ^");
        Check.refuses(LIMIT, "boiler 10 0;roller 1 1 0 0^");
        Check.refuses(LIMIT, "boiler 10 0;roller 1 1 0 0   ^");
        Check.refuses(LIMIT, "boiler 10 0;customer a^");
        Check.refuses(LIMIT, "boiler 10 0^");
        String spaces = " ".repeat(499 - LEAST.length());
        Check.refuses(SYNTAX, LEAST + spaces + "^x");
        Check.refuses(SYNTAX, LEAST + spaces + ";^");
        Check.refuses(LIMIT, "boiler 10 0;customer a" + " ".repeat(500 - 22) + "^");
        Check.refuses(SYNTAX, " ".repeat(500) + "^");
        // More bytes stand in the buffer than are parsed: those do not count.
        RollerLease x = new RollerLease();
        Check.append(x, LEAST + ";pause 1");
        Check.throwsArgument("the setup ends behind the semicolon", () -> x.parseSetup(LEAST.length() + 1));
        error(x, SYNTAX, LEAST.length() + 1, 0);
        Check.append(x, "boiler 10 0;customer a;roller 1 1 0 0");
        Check.throwsArgument("the setup ends before the roller", () -> x.parseSetup(22));
        error(x, LIMIT, 22, 0);
    }

    private static void promise7Lengths() {
        RollerLease x = new RollerLease();
        Check.equal("an empty buffer", x.bufferLength(), 0);
        for (int length = 20; length <= 500; length += 20) {
            x.append(0, 0, 0, 0, 0);
            Check.equal("bufferLength", x.bufferLength(), length);
        }
        x.append(0, 0, 0, 0, 0);
        Check.equal("a full buffer", x.bufferLength(), 500);
        Check.throwsArgument("an invalid setup", () -> x.parseSetup(1));
        Check.equal("a parsed buffer", x.bufferLength(), 0);
    }

    // ---- section 6: tokens and ranges

    private static void tokenLengths() {
        Check.accepts(new RollerLease(), "boiler 500 0;roller 1 1 0 0;customer abcdef;discount 0 0");
        Check.refuses(SYNTAX, "boiler ^5000 0");
        Check.refuses(SYNTAX, "boiler ^1" + "0".repeat(400) + " 0");
        Check.refuses(SYNTAX, LEAST + ";^discounts 0 0");
        Check.refuses(SYNTAX, LEAST + ";customer ^abcdefghi");
        Check.refuses(SYNTAX, LEAST + ";customer ^" + "z".repeat(400));
        Check.refuses(RANGE, LEAST + ";customer ^abcdefgh");
        // Beside the lower-case letters, the digits and the signs stand bytes that start no token.
        String[] others = {
            "`", "{", "/", ":", "'", "*", "<", "!", "A", "Z", "\n", "\u0000", "\u001f", "\u007f", "\u0080", "\u00e9",
        };
        for (String other : others) {
            Check.refuses(SYNTAX, "boiler 10 0^" + other);
            Check.refuses(SYNTAX, "boiler 10 ^" + other);
            Check.refuses(SYNTAX, LEAST + ";^" + other);
            Check.refuses(SYNTAX, LEAST + ";customer ^" + other);
            Check.refuses(SYNTAX, LEAST + ";customer b^" + other);
        }
        Check.accepts(new RollerLease(), "boiler 10 0;roller 1 1 0 0;customer az;customer za");
        Check.accepts(new RollerLease(), "boiler 109 09;roller 9 9 0 0;customer a");
    }

    private static void leadingZeros() {
        RollerLease x = Check.load("boiler 010 000;roller 001 09 000 050;customer a;bundle 00 007 001 009 000;"
                + "time 000 00 009 001");
        Check.equal("capacity", x.steamCapacity(), 10);
        Check.equal("heat", x.rollerHeat(0), 9);
        Check.equal("price", x.yardPrice(0), 50);
        Check.equal("tag", x.bundleTag(0), 7);
        Check.equal("start", x.leaseStart(0), 9);
        Check.refuses(SYNTAX, "boiler ^0010 0");
        Check.refuses(RANGE, "boiler ^000 0");
        Check.refuses(RANGE, "boiler ^009 0");
    }

    /** The sign @ stands for a number: the least and the greatest are accepted, and the values beside them are not. */
    private static void range(String setup, int least, int most) {
        accepted(setup, least, most);
        if (least > 0) {
            refused(RANGE, setup, least - 1);
        }
        // A number of four digits is no token.
        refused(most < 999 ? RANGE : SYNTAX, setup, most + 1);
    }

    private static void accepted(String setup, int... values) {
        for (int value : values) {
            Check.accepts(new RollerLease(), setup.replace("@", "" + value));
        }
    }

    private static void refused(int code, String setup, int... values) {
        for (int value : values) {
            Check.refuses(code, setup.replace("@", "^" + value));
        }
    }

    private static void boilerRanges() {
        range("boiler @ 0;roller 1 1 0 0;customer a", 10, 500);
        range("boiler 10 @;roller 1 1 0 0;customer a", 0, 50);
        refused(RANGE, "boiler @ 0", 0, 9, 501, 999);
        refused(RANGE, "boiler 10 @", 51, 999);
    }

    private static void rollerRanges() {
        range(LEAST + ";roller @ 1 0 0", 1, 9);
        range(LEAST + ";roller 1 @ 0 0", 1, 9);
        range(LEAST + ";roller 1 1 @ 0", 0, 50);
        range(LEAST + ";roller 1 1 0 @", 0, 50);
        refused(RANGE, LEAST + ";roller @ 1 0 0", 10, 999);
        refused(RANGE, LEAST + ";roller 1 @ 0 0", 10, 999);
    }

    private static void bundleRanges() {
        range(LEAST + ";bundle @ 1 1 1 0", 0, 0);
        range(LEAST + ";customer b;bundle @ 1 1 1 0", 0, 1);
        range(LEAST + ";bundle 0 @ 1 1 0", 0, 99);
        range(LEAST + ";bundle 0 1 @ 1 0", 1, 200);
        range(LEAST + ";bundle 0 1 1 @ 0", 1, 9);
        range(LEAST + ";bundle 0 1 1 1 @", 0, 999);
    }

    private static void timeRanges() {
        range(LEAST + ";time @ 0 1 1", 0, 0);
        range(LEAST + ";customer b;time @ 0 1 1", 0, 1);
        range(LEAST + ";time 0 @ 1 1", 0, 0);
        range(LEAST + ";roller 1 1 0 0;time 0 @ 1 1", 0, 1);
        range(LEAST + ";time 0 0 @ 1", 0, 999);
        range(LEAST + ";time 0 0 1 @", 1, 200);
    }

    private static void lengthRanges() {
        range(LEAST + ";length @ 0 1 1", 0, 0);
        range(LEAST + ";customer b;length @ 0 1 1", 0, 1);
        range(LEAST + ";length 0 @ 1 1", 0, 0);
        range(LEAST + ";roller 1 1 0 0;length 0 @ 1 1", 0, 1);
        range(LEAST + ";length 0 0 @ 1", 0, 999);
        range(LEAST + ";length 0 0 1 @", 1, 200);
    }

    private static void itemsOfOneNumberRanges() {
        range(LEAST + ";close @", 0, 0);
        range(LEAST + ";roller 1 1 0 0;close @", 0, 1);
        range(LEAST + ";close 0;open @", 0, 0);
        range(LEAST + ";roller 1 1 0 0;close 0;close 1;open @", 0, 1);
        range(BASE + ";cancel @", 0, 0);
        range(BASE + ";time 0 0 1 1;cancel @", 0, 1);
        range(LEAST + ";pause @", 0, 20);
        range(LEAST + ";advance @", 1, 300);
        range(LEAST + ";order @", 0, 0);
        range(LEAST + ";roller 1 1 0 0;order @", 0, 1);
    }

    private static void itemsOfTwoNumbersRanges() {
        range(LEAST + ";discount @ 0", 0, 0);
        range(LEAST + ";customer b;discount @ 0", 0, 1);
        range(LEAST + ";discount 0 @", 0, 50);
        range(LEAST + ";service @ 0", 0, 0);
        range(LEAST + ";roller 1 1 0 0;service @ 0", 0, 1);
        range(LEAST + ";service 0 @", 0, 99);
        range(LEAST + ";fee @ 0", 0, 99);
        range(LEAST + ";fee 0 @", 0, 200);
        accepted(LEAST + ";roller 1 1 0 0;roller 1 1 0 0;order 0 @", 1, 2);
        refused(RANGE, LEAST + ";roller 1 1 0 0;roller 1 1 0 0;order 0 @", 3, 999);
    }

    private static void holidayAndRateRanges() {
        range(LEAST + ";holiday @ 999", 0, 999);
        range(LEAST + ";holiday 0 @", 0, 999);
        range(LEAST + ";holiday 5 @", 5, 999);
        range(LEAST + ";holiday 999 @", 999, 999);
        range(LEAST + ";rate @ 999 100", 0, 999);
        range(LEAST + ";rate 0 @ 100", 0, 999);
        range(LEAST + ";rate 5 @ 100", 5, 999);
        range(LEAST + ";rate 999 @ 100", 999, 999);
        range(LEAST + ";rate 0 0 @", 50, 200);
        refused(RANGE, LEAST + ";holiday 999 @", 0);
        refused(RANGE, LEAST + ";rate 999 @ 100", 0);
    }

    private static void splitMergeAssignRanges() {
        String three = LEAST + ";bundle 0 0 200 1 0;bundle 0 1 200 1 0;bundle 0 2 200 1 0";
        range(three + ";split @ 1", 0, 2);
        accepted(three + ";split 0 @", 1, 199);
        refused(RANGE, three + ";split 0 @", 0, 201, 999);
        // 200 yards are in the range where a bundle of more yards is split.
        range(three + ";merge 0 1;split 0 @", 1, 200);
        accepted(three + ";merge @ 1", 0, 2);
        refused(RANGE, three + ";merge @ 1", 3, 999);
        accepted(three + ";merge 1 @", 0, 2);
        refused(RANGE, three + ";merge 1 @", 3, 999);
        range(three + ";assign @ 0", 0, 2);
        range(three + ";assign 0 @", 0, 0);
        range(three + ";roller 1 1 0 0;assign 0 @", 0, 1);
        // An index that was the last one is out of range when a bundle was removed.
        refused(RANGE, three + ";merge 0 1;assign @ 0", 2);
        refused(RANGE, three + ";merge 0 1;merge 0 1;split @ 1", 1);
    }

    private static void copyRanges() {
        String two = LEAST + ";time 0 0 0 1;time 0 0 1 1";
        range(two + ";copy @ 9", 0, 1);
        accepted(two + ";copy 0 @", 2, 999);
        refused(SYNTAX, two + ";copy 0 @", 1000);
        refused(RANGE, two + ";cancel 0;copy @ 9", 1);
    }

    private static void repeatRanges() {
        range(LEAST + ";repeat @ (pause 1)", 1, 5);
        refused(RANGE, LEAST + ";repeat 2(repeat @ (pause 1))", 0, 6);
        Check.equal("once", Check.load(LEAST + ";repeat 1(advance 7)").minute(), 7);
        Check.equal("five times", Check.load(LEAST + ";repeat 5(advance 7)").minute(), 35);
    }

    private static void nothingExistsYet() {
        String roller = "boiler 10 0;roller 1 1 0 0;";
        String customer = "boiler 10 0;customer a;";
        refused(RANGE, roller + "bundle @ 1 1 1 0", 0, 999);
        refused(RANGE, roller + "time @ 0 0 1", 0);
        refused(RANGE, roller + "length @ 0 0 1", 0);
        refused(RANGE, roller + "discount @ 0", 0);
        refused(RANGE, customer + "time 0 @ 0 1", 0, 999);
        refused(RANGE, customer + "length 0 @ 0 1", 0);
        refused(RANGE, customer + "close @", 0);
        refused(RANGE, customer + "open @", 0);
        refused(RANGE, customer + "service @ 0", 0);
        refused(RANGE, customer + "order @", 0);
        refused(RANGE, customer + "bundle 0 0 1 1 1;assign 0 @", 0);
        refused(RANGE, LEAST + ";cancel @", 0);
        refused(RANGE, LEAST + ";copy @ 0", 0);
        refused(RANGE, LEAST + ";split @ 1", 0);
        refused(RANGE, LEAST + ";merge @ 0", 0);
        refused(RANGE, LEAST + ";bundle 0 0 1 1 1;merge 0 @", 1);
        refused(RANGE, LEAST + ";assign @ 0", 0);
        refused(RANGE, BASE + ";cancel 0;cancel @", 0);
    }

    // ---- sections 1, 2, 4 and 6: how many there may be

    private static void rollersOneToSix() {
        Check.equal("one roller", Check.load(LEAST).rollerCount(), 1);
        String six = LEAST + ";roller 1 1 0 0;roller 1 1 0 0;roller 1 1 0 0;roller 1 1 0 0;roller 6 1 0 0";
        RollerLease x = Check.load(six + ";close 5");
        Check.equal("six rollers", x.rollerCount(), 6);
        Check.equal("the last one", x.rollerSpeed(5), 6);
        Check.isFalse("its valve", x.isValveOpen(5));
        Check.refuses(LIMIT, six + ";^roller 1 1 0 0");
        Check.refuses(LIMIT, six + ";^roller");
        Check.refuses(LIMIT, six + ";pause 1;^roller 1 1 0 0");
        Check.refuses(LIMIT, "boiler 10 0;customer a^");
        Check.refuses(LIMIT, "boiler 10 0;customer a;pause 1;advance 300^");
    }

    private static void customersOneToSix() {
        Check.equal("one customer", Check.load(LEAST).customerCount(), 1);
        String six = LEAST + ";customer b;customer c;customer d;customer e;customer f";
        RollerLease x = Check.load(six + ";discount 5 50;time 5 0 0 1");
        Check.equal("six customers", x.customerCount(), 6);
        Check.equal("the last one", x.customerLetter(5, 0), 'f');
        Check.refuses(LIMIT, six + ";^customer g");
        Check.refuses(LIMIT, six + ";^customer a");
        Check.refuses(LIMIT, six + ";^customer");
        Check.refuses(LIMIT, "boiler 10 0;roller 1 1 0 0^");
        Check.refuses(LIMIT, "boiler 10 0;roller 1 1 0 0;close 0;advance 300^");
    }

    private static void namesOneToSixLetters() {
        RollerLease x = Check.load(LEAST + ";customer z;customer zzzzzz;customer aaaaaa");
        Check.equal("the only letter", x.customerLetter(1, 0), 'z');
        Check.equal("the sixth letter", x.customerLetter(2, 5), 'z');
        Check.equal("behind the sixth letter", x.customerLetter(2, 6), -1);
        Check.refuses(RANGE, LEAST + ";customer ^zzzzzzz");
        Check.refuses(RANGE, LEAST + ";customer ^zzzzzzzz");
        Check.refuses(SYNTAX, LEAST + ";customer ^zzzzzzzzz");
        Check.refuses(SYNTAX, LEAST + ";customer^");
        // A name may be a word of the grammar; one that differs in its last letter or its length is another one.
        Check.accepts(new RollerLease(), LEAST + ";customer roller;customer boiler;customer repeat");
        Check.refuses(RANGE, LEAST + ";customer ^customer");
        Check.accepts(new RollerLease(), LEAST + ";customer abcdef;customer abcdeg;customer abcde;customer aa");
        Check.refuses(CONFLICT, LEAST + ";customer abcdef;customer ^abcdef");
        Check.refuses(CONFLICT, LEAST + ";customer ^a");
    }

    private static String leases(int count) {
        StringBuilder s = new StringBuilder(LEAST);
        for (int lease = 0; lease < count; lease++) {
            s.append(";time 0 0 ").append(lease).append(" 1");
        }
        return s.toString();
    }

    private static void leasesUpToSixteen() {
        RollerLease none = new RollerLease();
        Check.equal("no lease", Check.parse(none, LEAST), 0);
        RollerLease x = new RollerLease();
        Check.equal("sixteen leases", Check.parse(x, leases(16)), 16);
        Check.equal("the last one", x.leaseStart(15), 15);
        Check.refuses(x, CONFLICT, 4, leases(16) + ";time 0 0 99 ^1");
        // Leases that have ended remain in the list; one that was cancelled does not.
        Check.refuses(x, CONFLICT, 4, leases(16) + ";advance 300;time 0 0 300 ^1");
        Check.equal("fifteen and a new one", Check.parse(x, leases(16) + ";cancel 15;time 0 0 99 1"), 16);
        Check.equal("the new one", x.leaseStart(15), 99);
    }

    private static String bundles(int count) {
        StringBuilder s = new StringBuilder(LEAST);
        for (int bundle = 0; bundle < count; bundle++) {
            s.append(";bundle 0 ").append(bundle).append(" 9 1 9");
        }
        return s.toString();
    }

    private static void bundlesUpToSixteen() {
        Check.equal("no bundle", Check.load(LEAST).bundleCount(), 0);
        RollerLease x = Check.load(bundles(15) + ";split 0 1;assign 15 0");
        Check.equal("sixteen bundles, the last one split off", x.bundleCount(), 16);
        Check.equal("its tag", x.bundleTag(15), 15);
        x = Check.load(bundles(16) + ";assign 15 0");
        Check.equal("sixteen bundles", x.bundleCount(), 16);
        Check.refuses(LIMIT, bundles(16) + ";^bundle 0 99 9 1 9");
        Check.refuses(LIMIT, bundles(16) + ";^bundle");
        Check.refuses(LIMIT, bundles(16) + ";^split 15 1");
        Check.refuses(LIMIT, bundles(16) + ";^split");
        Check.accepts(new RollerLease(), bundles(16) + ";merge 15 0;bundle 0 0 9 1 9");
        Check.refuses(LIMIT, bundles(16) + ";merge 15 0;bundle 0 0 9 1 9;^split 0 1");
    }

    private static void holidaysUpToFour() {
        String four = LEAST + ";time 0 0 0 9;holiday 0 0;holiday 2 2;holiday 4 4;holiday 6 6";
        RollerLease x = Check.load(four);
        for (int minute = 0; minute < 9; minute++) {
            boolean holiday = minute % 2 == 0 && minute <= 6;
            Check.equal("idleReason in minute " + minute, x.idleReason(0), holiday ? 6 : 3);
            x.advance(1);
        }
        Check.refuses(LIMIT, four + ";^holiday 8 8");
        Check.refuses(LIMIT, four + ";^holiday");
    }

    private static void ratesUpToFour() {
        String four = LEAST + ";roller 1 1 50 0;time 0 1 0 9;rate 0 0 200;rate 2 2 190;rate 4 4 180;rate 6 6 170";
        RollerLease x = Check.load(four);
        int[] charges = {100, 50, 95, 50, 90, 50, 85, 50, 50, 0};
        for (int charge : charges) {
            Check.equal("charged in minute " + x.minute(), x.advance(1), charge);
        }
        Check.refuses(LIMIT, four + ";^rate 8 8 100");
        Check.refuses(LIMIT, four + ";^rate");
    }

    private static void bracketsUpToThree() {
        RollerLease x = Check.load(LEAST + ";repeat 1(repeat 1(repeat 5(advance 1)));repeat 1(repeat 1(repeat 2(advance 1)))");
        Check.equal("brackets in three levels, twice", x.minute(), 7);
        Check.refuses(LIMIT, LEAST + ";repeat 1(repeat 1(repeat 1(^repeat 1(pause 1))))");
        Check.refuses(LIMIT, LEAST + ";repeat 1(repeat 1(repeat 1(^repeat");
        Check.refuses(LIMIT, LEAST + ";repeat 1(repeat 1(repeat 1(pause 1);repeat 1(^repeat 1(pause 1))))");
        // Behind its closing bracket a repeat does not count any more.
        Check.accepts(x, LEAST + ";repeat 1(repeat 1(repeat 1(pause 1);repeat 1(pause 1));repeat 1(repeat 1(pause 1)))");
        Check.refuses(SYNTAX, LEAST + ";repeat 1(repeat 1(repeat 1(pause 1))^");
        Check.refuses(SYNTAX, LEAST + ";repeat 1(repeat 1(repeat 1(pause 1)))^)");
        Check.refuses(SYNTAX, LEAST + ";repeat 1(^)");
    }

    private static void minutesUpToTwoThousand() {
        String many = LEAST + ";repeat 5(advance 300);advance 300;advance @";
        accepted(many, 1, 200);
        refused(LIMIT, many, 201, 300);
        refused(RANGE, many, 0, 301);
        Check.equal("2000 minutes", Check.load(many.replace("@", "200")).minute(), 2000);
        Check.refuses(LIMIT, many.replace("@", "200") + ";pause 1;advance ^1");
        Check.refuses(LIMIT, many.replace("@", "199") + ";advance 1;advance ^1");
        RollerLease x = Check.load(many.replace("@", "200"));
        x.advance(300);
        Check.equal("afterwards there is no such limit", x.minute(), 2300);
    }

    private static void limitsInALaterPass() {
        Check.equal("1 and 5 rollers", Check.load(LEAST + ";repeat 5(roller 1 1 0 0)").rollerCount(), 6);
        Check.refuses(LIMIT, LEAST + ";repeat 3(roller 1 1 0 0;^roller 2 2 0 0)");
        Check.refuses(LIMIT, LEAST + ";repeat 2(repeat 3(^roller 1 1 0 0))");
        Check.equal("4 holidays", Check.load(LEAST + ";repeat 4(holiday 0 0)").minute(), 0);
        Check.refuses(LIMIT, LEAST + ";repeat 5(^holiday 0 0)");
        Check.equal("4 rates", Check.load(LEAST + ";repeat 2(repeat 2(rate 0 0 99))").minute(), 0);
        Check.refuses(LIMIT, LEAST + ";repeat 5(^rate 0 0 99)");
        Check.refuses(LIMIT, LEAST + ";repeat 5(repeat 2(advance ^201))");
        Check.equal("2000 minutes", Check.load(LEAST + ";repeat 5(repeat 2(advance 200))").minute(), 2000);
        RollerLease x = Check.load(LEAST + ";bundle 0 1 200 1 1;repeat 5(repeat 3(split 0 1))");
        Check.equal("1 and 15 bundles", x.bundleCount(), 16);
        Check.refuses(LIMIT, bundles(1) + ";bundle 0 1 200 1 1;repeat 5(repeat 3(^split 1 1))");
    }

    private static void aLaterPassOfAnItem() {
        Check.refuses(CONFLICT, LEAST + ";repeat 2(customer ^b)");
        Check.refuses(CONFLICT, LEAST + ";repeat 2(bundle 0 ^9 1 1 1)");
        Check.refuses(CONFLICT, LEAST + ";repeat 2(close ^0)");
        Check.refuses(CONFLICT, LEAST + ";close 0;repeat 2(open ^0)");
        Check.refuses(RANGE, LEAST + ";time 0 0 0 1;repeat 2(cancel ^0)");
        Check.refuses(CONFLICT, LEAST + ";bundle 0 0 5 1 1;repeat 5(split 0 ^1)");
        Check.equal("four yards are split off", Check.load(LEAST + ";bundle 0 0 5 1 1;repeat 4(split 0 1)").bundleCount(), 5);
        RollerLease x = new RollerLease();
        Check.refuses(x, CONFLICT, 3, LEAST + ";repeat 2(time 0 0 9 ^1)");
        Check.refuses(x, CONFLICT, 1, LEAST + ";repeat 3(advance 1;time 0 0 2 ^1;cancel 0)");
        // What stands behind the brackets is looked at after the last pass.
        Check.refuses(CONFLICT, LEAST + ";repeat 2(customer ^b) x");
        Check.refuses(SYNTAX, LEAST + ";repeat 1(customer b) ^x");
    }

    // ---- section 3, and the conflicts of section 6

    private static void obstacleBeforeTheCurrentMinute() {
        RollerLease x = new RollerLease();
        Check.accepts(x, LEAST + ";advance 5;time 0 0 5 1");
        Check.refuses(x, CONFLICT, 1, LEAST + ";advance 5;time 0 0 4 ^1");
        Check.accepts(x, LEAST + ";advance 5;length 0 0 5 1");
        Check.refuses(x, CONFLICT, 1, LEAST + ";advance 5;length 0 0 4 ^1");
        Check.refuses(x, CONFLICT, 1, LEAST + ";repeat 4(advance 250);time 0 0 999 ^200");
    }

    private static void obstacleOfTheEnd() {
        RollerLease x = new RollerLease();
        Check.accepts(x, LEAST + ";time 0 0 999 1");
        Check.refuses(x, CONFLICT, 2, LEAST + ";time 0 0 999 ^2");
        Check.accepts(x, LEAST + ";time 0 0 800 200");
        Check.refuses(x, CONFLICT, 2, LEAST + ";time 0 0 801 ^200");
        Check.accepts(x, LEAST + ";length 0 0 800 200");
        Check.refuses(x, CONFLICT, 2, LEAST + ";length 0 0 801 ^200");
        // At a speed of 9, 198 yards are 22 minutes, and 199 are 23.
        Check.accepts(x, LEAST + ";roller 9 1 0 0;length 0 1 978 198");
        Check.refuses(x, CONFLICT, 2, LEAST + ";roller 9 1 0 0;length 0 1 978 ^199");
        Check.refuses(x, CONFLICT, 2, LEAST + ";repeat 3(advance 300);time 0 0 999 ^200");
        Check.accepts(x, LEAST + ";repeat 3(advance 300);advance 99;time 0 0 999 1");
    }

    private static void obstacleOfAnotherLease() {
        RollerLease x = new RollerLease();
        String taken = LEAST + ";roller 9 1 0 0;time 0 0 10 5;";
        Check.accepts(x, taken + "time 0 0 5 5;time 0 0 15 5");
        Check.refuses(x, CONFLICT, 3, taken + "time 0 0 5 ^6");
        Check.refuses(x, CONFLICT, 3, taken + "time 0 0 14 ^1");
        Check.refuses(x, CONFLICT, 3, taken + "time 0 0 10 ^5");
        Check.refuses(x, CONFLICT, 3, taken + "time 0 0 12 ^1");
        Check.refuses(x, CONFLICT, 3, taken + "time 0 0 0 ^100");
        Check.accepts(x, taken + "time 0 1 10 5");
        Check.accepts(x, taken + "length 0 0 5 5;length 0 0 15 5");
        Check.refuses(x, CONFLICT, 3, taken + "length 0 0 5 ^6");
        Check.refuses(x, CONFLICT, 3, taken + "length 0 0 14 ^1");
    }

    private static void obstacleOfSixteenLeases() {
        RollerLease x = new RollerLease();
        Check.refuses(x, CONFLICT, 4, leases(16) + ";time 0 0 16 ^1");
        Check.refuses(x, CONFLICT, 4, leases(16) + ";length 0 0 16 ^1");
        Check.refuses(x, CONFLICT, 4, leases(16) + ";copy 15 ^16");
        Check.refuses(x, CONFLICT, 3, leases(16) + ";time 0 0 15 ^1");
        Check.refuses(x, CONFLICT, 2, leases(16) + ";time 0 0 999 ^2");
        Check.refuses(x, CONFLICT, 1, leases(16) + ";advance 3;time 0 0 2 ^1");
        Check.refuses(RANGE, leases(16) + ";time 0 0 16 ^201");
        Check.accepts(x, leases(15) + ";copy 14 16");
    }

    private static void obstaclesOfCopies() {
        RollerLease x = new RollerLease();
        String one = LEAST + ";time 0 0 0 200";
        Check.accepts(x, one + ";copy 0 200");
        Check.refuses(x, CONFLICT, 3, one + ";copy 0 ^199");
        Check.accepts(x, one + ";copy 0 800");
        Check.refuses(x, CONFLICT, 2, one + ";copy 0 ^801");
        Check.accepts(x, one + ";advance 300;copy 0 300");
        Check.refuses(x, CONFLICT, 1, one + ";advance 300;copy 0 ^299");
        Check.refuses(x, CONFLICT, 0, LEAST + ";length 0 0 0 1;copy ^0 9");
        Check.refuses(x, CONFLICT, 0, LEAST + ";length 0 0 0 1;copy ^0");
        // A lease by length of which no yards are left is still none by time.
        Check.refuses(x, CONFLICT, 0, LEAST + ";length 0 0 0 1;bundle 0 0 9 9 9;advance 1;copy ^0 9");
    }

    private static void cancelAtTheCurrentMinute() {
        Check.accepts(new RollerLease(), LEAST + ";time 0 0 5 9;advance 5;cancel 0");
        Check.refuses(CONFLICT, LEAST + ";time 0 0 5 9;advance 6;cancel ^0");
        Check.refuses(CONFLICT, LEAST + ";time 0 0 5 1;advance 300;cancel ^0");
        Check.accepts(new RollerLease(), LEAST + ";time 0 0 0 1;cancel 0");
    }

    private static void splitOfAllThatIsLeft() {
        String three = LEAST + ";bundle 0 0 3 9 9;";
        Check.accepts(new RollerLease(), three + "split 0 2");
        Check.refuses(CONFLICT, three + "split 0 ^3");
        Check.refuses(CONFLICT, three + "split 0 ^200");
        Check.refuses(CONFLICT, three + "split 0 2;split 0 ^1");
        Check.accepts(new RollerLease(), three + "time 0 0 0 9;advance 1;split 0 1");
        Check.refuses(CONFLICT, three + "time 0 0 0 9;advance 1;split 0 ^2");
        Check.refuses(CONFLICT, three + "time 0 0 0 9;advance 3;split 0 ^1");
    }

    private static void mergeBeyondTwoHundred() {
        RollerLease x = Check.load(LEAST + ";bundle 0 0 200 9 9;bundle 0 1 200 9 9;bundle 0 2 200 9 9;merge 2 0;merge 1 0");
        Check.equal("one bundle is left", x.bundleCount(), 1);
        Check.equal("its yards", x.bundleYardsLeft(0), 600);
        Check.equal("its tag", x.bundleTag(0), 2);
        String two = LEAST + ";bundle 0 0 1 9 9;bundle 0 1 2 9 9;time 0 0 0 9;";
        Check.accepts(x, two + "merge 0 1");
        Check.refuses(CONFLICT, two + "merge 0 ^0");
        Check.refuses(CONFLICT, two + "merge 1 ^1");
        Check.refuses(CONFLICT, two + "advance 1;merge 0 ^1");
        Check.refuses(CONFLICT, two + "advance 1;merge 1 ^0");
        Check.refuses(CONFLICT, two + "customer b;bundle 1 5 1 1 1;merge 0 ^2");
        Check.refuses(RANGE, two + "advance 1;merge 0 ^2");
    }

    private static void orderOfAll() {
        String six = LEAST + ";repeat 5(roller 1 1 0 0)";
        Check.accepts(new RollerLease(), six + ";order 5 4 3 2 1 0");
        Check.accepts(new RollerLease(), six + ";repeat 5(order 0 1 2 3 4 5)");
        Check.accepts(new RollerLease(), six + ";order 3;order 3");
        Check.refuses(CONFLICT, six + ";order 3 ^3");
        Check.refuses(CONFLICT, six + ";order 5 4 3 2 1 0 ^5");
        Check.refuses(CONFLICT, six + ";order 5 4 3 2 1 ^5");
        Check.refuses(RANGE, six + ";order 5 4 3 2 1 ^6");
        Check.refuses(RANGE, six + ";order 5 4 3 2 1 0 ^6");
        Check.refuses(SYNTAX, six + ";order^");
        Check.refuses(SYNTAX, six + ";order 5 ^(");
    }
}
