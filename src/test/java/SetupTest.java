/** Promises 1 to 7 and section 6: the input buffer, the grammar and the four error codes. */
public final class SetupTest {
    private static final int SYNTAX = 1;
    private static final int RANGE = 2;
    private static final int CONFLICT = 3;
    private static final int LIMIT = 4;

    /** One roller and one customer, a bundle, and a lease in minute 0. */
    private static final String BASE = "boiler 10 0;roller 1 1 0 0;customer a;bundle 0 0 200 1 0;time 0 0 0 1";

    public static void main(String[] args) {
        constants();
        promise1NewObject();
        promise2Append();
        promise3ParseSetup();
        promise3LoadsTheItems();
        promise3LeavesNothingOver();
        promise3ParsesNoByteMore();
        promise4To6LatestError();
        promise6Reasons();
        promise7BufferLength();
        tokens();
        grammar();
        grammarOfItems();
        conflicts();
        limits();
        smallestCode();
        repeats();
        Check.finish("SetupTest");
    }

    private static void constants() {
        Check.equal("NONE", RollerLease.NONE, -1);
        Check.equal("SYNTAX_ERROR", RollerLease.SYNTAX_ERROR, SYNTAX);
        Check.equal("RANGE_ERROR", RollerLease.RANGE_ERROR, RANGE);
        Check.equal("CONFLICT_ERROR", RollerLease.CONFLICT_ERROR, CONFLICT);
        Check.equal("LIMIT_ERROR", RollerLease.LIMIT_ERROR, LIMIT);
    }

    private static void promise1NewObject() {
        RollerLease x = new RollerLease();
        Check.equal("new bufferLength", x.bufferLength(), 0);
        Check.equal("new parseErrorCode", x.parseErrorCode(), 0);
        Check.equal("new parseErrorPosition", x.parseErrorPosition(), -1);
        Check.equal("new conflictReason", x.conflictReason(), 0);
        Check.equal("new undoCount", x.undoCount(), 0);
        Check.throwsState("new minute", x::minute);
        Check.throwsState("new undo", x::undo);
        Check.throwsState("new restoreState", () -> x.restoreState(0));
        Check.throwsIndex("new outputByte", () -> x.outputByte(0));
    }

    private static void promise2Append() {
        RollerLease x = new RollerLease();
        // "boil" "er 1" "0 0;" "roll" "er 1", most significant byte first
        Check.equal("append", x.append(0x626f696c, 0x65722031, 0x3020303b, 0x726f6c6c, 0x65722031), 20);
        Check.equal("append", x.append(0x20312030, 0x20303b63, 0x7573746f, 0x6d657220, 0x61202020), 40);
        Check.equal("parse of what was appended", x.parseSetup(37), 0);
        Check.equal("append after a parse", x.append(0, 0, 0, 0, 0), 20);
        for (int length = 40; length <= 500; length += 20) {
            Check.equal("append", x.append(-1, -1, -1, -1, -1), length);
        }
        Check.equal("append to a full buffer", x.append(1, 2, 3, 4, 5), -1);
        Check.equal("append to a full buffer again", x.append(1, 2, 3, 4, 5), -1);
        Check.equal("a full buffer", x.bufferLength(), 500);
        Check.throwsIndex("parse of 501", () -> x.parseSetup(501));
        Check.throwsArgument("parse of 500", () -> x.parseSetup(500));
        Check.refuses(SYNTAX, "boiler 10 0^\u00ff");
        Check.refuses(SYNTAX, "boiler 10 0^\u00bb");
        Check.refuses(SYNTAX, "boiler 10 0^\u0000");
    }

    private static void promise3ParseSetup() {
        RollerLease x = new RollerLease();
        Check.throwsIndex("a negative length", () -> x.parseSetup(-1));
        Check.throwsIndex("more than an empty buffer", () -> x.parseSetup(1));
        Check.throwsIndex("the least length", () -> x.parseSetup(Integer.MIN_VALUE));
        Check.throwsIndex("the greatest length", () -> x.parseSetup(Integer.MAX_VALUE));
        Check.refuses(x, SYNTAX, 0, "boiler ^;");
        Check.append(x, BASE);
        int length = x.bufferLength();
        Check.throwsIndex("more than the buffer", () -> x.parseSetup(length + 1));
        Check.equal("the buffer stays", x.bufferLength(), length);
        Check.equal("the code stays", x.parseErrorCode(), SYNTAX);
        Check.equal("the position stays", x.parseErrorPosition(), 7);
        Check.equal("the number of leases", x.parseSetup(BASE.length()), 1);
        Check.equal("the buffer is empty", x.bufferLength(), 0);
        Check.equal("the code of a valid setup", x.parseErrorCode(), 0);

        x.advance(7);
        x.setValve(0, false);
        x.saveState(0);
        x.saveState(1);
        int written = x.writeBills();
        String before = Check.dump(x);
        Check.refuses(x, RANGE, 0, "boiler 20 5;roller 2 2 2 2;customer b;advance 3;advance ^0");
        Check.same("an invalid setup", Check.dump(x), before);
        Check.equal("an invalid setup keeps the changes", x.undoCount(), 2);
        Check.equal("an invalid setup keeps the slots", x.restoreState(1), 7);
        x.setRefill(3);
        Check.accepts(x, "boiler 20 5;roller 2 2 2 2;customer b;customer c;time 0 0 0 1;time 1 0 1 1");
        Check.equal("a valid setup clears the changes", x.undoCount(), 0);
        Check.throwsState("a valid setup clears slot 1", () -> x.restoreState(1));
        Check.throwsState("a valid setup clears slot 0", () -> x.restoreState(0));
        Check.equal("minute of the new setup", x.minute(), 0);
        Check.equal("customers of the new setup", x.customerCount(), 2);
        Check.equal("bundles of the new setup", x.bundleCount(), 0);
        Check.same("the output stays", Check.output(x, written), "a=0");
        Check.append(x, BASE + " and more, that is not parsed");
        Check.equal("only the first bytes are parsed", x.parseSetup(BASE.length()), 1);
        Check.equal("the rest is gone", x.bufferLength(), 0);
    }

    private static void promise3LoadsTheItems() {
        RollerLease x = Check.load("boiler 500 50;roller 9 8 7 6;customer zoe;close 0;bundle 0 99 200 9 999;"
                + "length 0 0 5 19;open 0;close 0");
        Check.equal("capacity", x.steamCapacity(), 500);
        Check.equal("steam at first", x.steam(), 500);
        Check.equal("refill", x.steamRefill(), 50);
        Check.equal("speed", x.rollerSpeed(0), 9);
        Check.equal("heat", x.rollerHeat(0), 8);
        Check.equal("price per minute", x.minutePrice(0), 7);
        Check.equal("price per yard", x.yardPrice(0), 6);
        Check.isFalse("the closed valve", x.isValveOpen(0));
        Check.equal("tag", x.bundleTag(0), 99);
        Check.equal("yards", x.bundleYardsLeft(0), 200);
        Check.equal("deadline", x.bundleDeadline(0), 999);
        Check.equal("lease by length: end", x.leaseEnd(0), 8);
        Check.equal("lease by length: yards", x.leaseYardsLeft(0), 19);
        // Nothing is left over of a setup before.
        Check.accepts(x, "boiler 10 0;roller 1 1 10 1;customer zoe;bundle 0 99 9 1 9;time 0 0 0 9;cancel 0;"
                + "time 0 0 1 9;advance 2");
        Check.isTrue("a valve is open at first", x.isValveOpen(0));
        Check.equal("the minute after advance", x.minute(), 2);
        Check.equal("no rate, discount, holiday, fee or service is left over", x.revenue(), 10);
        Check.equal("the bill", x.bill(0), 10);
        Check.equal("the yards", x.bundleYardsLeft(0), 8);
    }

    private static void promise3LeavesNothingOver() {
        String rich = "boiler 30 1;roller 2 9 9 9;roller 3 9 9 9;customer zoe;customer yve;bundle 0 9 90 1 0;bundle 0 8 90 1 0;"
                + "time 0 0 0 60;time 0 1 0 60;service 0 90;service 1 1;pause 9;holiday 4 5;rate 0 300 200;order 1 0;fee 99 200;"
                + "discount 0 20;assign 0 1;advance 9;close 1";
        String plain = "boiler 20 9;roller 1 9 9 9;roller 2 9 9 9;customer ann;customer bo;bundle 0 9 50 9 9;bundle 0 8 50 9 9;"
                + "time 0 0 0 60;time 0 1 0 60;time 1 0 300 9;cancel 2;service 0 4;pause 3";
        leavesNothingOver(rich, plain);
        leavesNothingOver(rich, plain.replace(";pause 3", ""));
    }

    private static void leavesNothingOver(String rich, String plain) {
        RollerLease later = Check.load(rich);
        for (int round = 0; round < 3; round++) {
            later.advance(7);
            Check.dump(later);
            // Twice, since a setup and the one before are held side by side.
            Check.accepts(later, rich);
            Check.accepts(later, rich);
            Check.accepts(later, plain);
            RollerLease once = Check.load(plain);
            Check.equal("bills", later.writeBills(), once.writeBills());
            for (int minute = 0; minute < 20; minute++) {
                Check.same("the same setup in minute " + minute, Check.dump(later), Check.dump(once));
                later.advance(1);
                once.advance(1);
            }
        }
    }

    private static void promise3ParsesNoByteMore() {
        RollerLease x = new RollerLease();
        Check.append(x, BASE + "9");
        x.parseSetup(BASE.length());
        Check.equal("the digit behind the parsed bytes", x.leaseEnd(0), 1);
        Check.append(x, "boiler 10 0;roller 1 1 0 0;customer ab");
        x.parseSetup(37);
        Check.equal("the letter behind the parsed bytes", x.customerLetter(0, 1), -1);
        Check.append(x, BASE + "  x");
        Check.equal("the word behind the parsed bytes", x.parseSetup(BASE.length() + 2), 1);
        String[] lasts = {";customer b", ";pause 12", ";repeat 1(pause 1)"};
        for (String last : lasts) {
            Check.accepts(x, BASE + " ".repeat(500 - BASE.length() - last.length()) + last);
        }
        Check.accepts(x, BASE + " ".repeat(500 - BASE.length()));
        Check.refuses(SYNTAX, BASE + " ".repeat(499 - BASE.length()) + ";^");
    }

    private static void promise4To6LatestError() {
        RollerLease x = new RollerLease();
        Check.refuses(x, RANGE, 0, "boiler ^9 0");
        Check.refuses(x, CONFLICT, 3, BASE + ";time 0 0 0 ^2");
        Check.throwsIndex("parse of too much", () -> x.parseSetup(1));
        Check.equal("the code stays", x.parseErrorCode(), CONFLICT);
        Check.equal("the position stays", x.parseErrorPosition(), BASE.length() + 12);
        Check.equal("the reason stays", x.conflictReason(), 3);
        Check.refuses(x, CONFLICT, 0, BASE + ";open ^0");
        Check.refuses(x, CONFLICT, 3, BASE + ";time 0 0 0 ^2");
        Check.refuses(x, SYNTAX, 0, "^");
        Check.refuses(x, CONFLICT, 3, BASE + ";time 0 0 0 ^2");
        Check.accepts(x, BASE);
        Check.throwsIndex("a negative length", () -> x.parseSetup(-1));
        Check.equal("no code", x.parseErrorCode(), 0);
        Check.equal("no position", x.parseErrorPosition(), -1);
        Check.equal("no reason", x.conflictReason(), 0);
    }

    private static void promise6Reasons() {
        RollerLease x = new RollerLease();
        Check.refuses(x, CONFLICT, 1, BASE + ";advance 3;time 0 0 2 ^1");
        Check.refuses(x, CONFLICT, 2, BASE + ";time 0 0 900 ^101");
        Check.accepts(x, BASE + ";time 0 0 900 100");
        Check.refuses(x, CONFLICT, 3, BASE + ";time 0 0 0 ^1");
        Check.refuses(x, CONFLICT, 1, BASE + ";advance 3;length 0 0 2 ^1");
        Check.refuses(x, CONFLICT, 2, BASE + ";length 0 0 900 ^101");
        Check.accepts(x, BASE + ";length 0 0 900 100");
        Check.refuses(x, CONFLICT, 3, BASE + ";length 0 0 0 ^1");
        Check.refuses(x, CONFLICT, 1, BASE + ";advance 3;copy 0 ^2");
        Check.refuses(x, CONFLICT, 2, BASE + ";time 0 0 10 5;copy 1 ^996");
        Check.accepts(x, BASE + ";time 0 0 10 5;copy 1 995");
        Check.refuses(x, CONFLICT, 3, BASE + ";copy 0 ^0");
        StringBuilder full = new StringBuilder(BASE);
        for (int lease = 1; lease < 16; lease++) {
            full.append(";time 0 0 ").append(lease).append(" 1");
        }
        Check.accepts(x, full.toString());
        Check.refuses(x, CONFLICT, 4, full + ";time 0 0 16 ^1");
        Check.refuses(x, CONFLICT, 4, full + ";length 0 0 16 ^1");
        Check.refuses(x, CONFLICT, 4, full + ";copy 0 ^16");
        Check.refuses(x, CONFLICT, 3, full + ";time 0 0 15 ^1");
        Check.accepts(x, full + ";cancel 3;copy 0 3");
    }

    private static void promise7BufferLength() {
        RollerLease x = new RollerLease();
        x.append(0, 0, 0, 0, 0);
        Check.equal("20 bytes", x.bufferLength(), 20);
        x.append(0, 0, 0, 0, 0);
        Check.equal("40 bytes", x.bufferLength(), 40);
        Check.throwsArgument("parse of nothing", () -> x.parseSetup(0));
        Check.equal("no bytes", x.bufferLength(), 0);
        Check.accepts(x, BASE);
        x.append(0, 0, 0, 0, 0);
        x.advance(1);
        x.undo();
        x.saveState(0);
        x.restoreState(0);
        Check.equal("undo and restoreState leave the buffer", x.bufferLength(), 20);
    }

    private static void tokens() {
        RollerLease x = new RollerLease();
        Check.accepts(x, "boiler10 0;roller1 1 0 0;customer a");
        Check.accepts(x, "boiler  010  00 ; roller 001 1 0 0 ; customer  roller ");
        Check.accepts(x, "  boiler 10 0;roller 1 1 0 0;customer boiler;repeat 1(pause 1)");
        Check.accepts(x, "boiler 10 0;roller 1 1 0 0;customer abcdef;repeat 1 ( pause 1 ; pause 2 ) ; pause 3");
        Check.refuses(SYNTAX, "boiler ^0010 0");
        Check.refuses(SYNTAX, "boiler 10 ^0000");
        Check.refuses(SYNTAX, "boiler 10^a 0");
        Check.refuses(SYNTAX, "boiler 10^\t0");
        Check.refuses(SYNTAX, "boiler 10^,0");
        Check.refuses(SYNTAX, "boiler 10 ^-1");
        Check.refuses(SYNTAX, "^Boiler 10 0");
        Check.refuses(SYNTAX, "^boiLer 10 0");
        Check.refuses(SYNTAX, "boiler 10 0;^rollerroller 1 1 0 0");
        Check.refuses(SYNTAX, "boiler 10 0;customer ^abcdefghi");
        Check.refuses(SYNTAX, "boiler 10 0;customer ^{");
        Check.refuses(SYNTAX, "boiler 10 0;customer ^`");
        Check.refuses(SYNTAX, "boiler ^/");
        Check.refuses(SYNTAX, "boiler ^:");
        Check.refuses(SYNTAX, "boiler 10 0^[");
    }

    private static void grammar() {
        Check.refuses(SYNTAX, "^");
        Check.refuses(SYNTAX, "   ^");
        Check.refuses(SYNTAX, "^;");
        Check.refuses(SYNTAX, "^10");
        Check.refuses(SYNTAX, "^roller 1 1 0 0");
        Check.refuses(SYNTAX, "^boile 10 0");
        Check.refuses(SYNTAX, "^boilers 10 0");
        Check.refuses(SYNTAX, "boiler^");
        Check.refuses(SYNTAX, "boiler  ^");
        Check.refuses(SYNTAX, "boiler ^;");
        Check.refuses(SYNTAX, "boiler ^(");
        Check.refuses(SYNTAX, "boiler 10^");
        Check.refuses(SYNTAX, "boiler 10 ^x");
        Check.refuses(SYNTAX, "boiler 10 0 ^5");
        Check.refuses(SYNTAX, "boiler 10 0^(");
        Check.refuses(SYNTAX, "boiler 10 0^)");
        Check.refuses(SYNTAX, "boiler 10 0 ^roller 1 1 0 0");
        Check.refuses(SYNTAX, "boiler 10 0;^");
        Check.refuses(SYNTAX, "boiler 10 0; ^;");
        Check.refuses(SYNTAX, "boiler 10 0;^7");
        Check.refuses(SYNTAX, "boiler 10 0;^(");
        Check.refuses(SYNTAX, "boiler 10 0;^boiler 10 0");
        Check.refuses(SYNTAX, "boiler 10 0;^laundry 1");
        Check.refuses(SYNTAX, "boiler 10 0;roller 1 1 0^");
        Check.refuses(SYNTAX, "boiler 10 0;roller 1 1 0^;customer a");
        Check.refuses(SYNTAX, "boiler 10 0;roller 1 1 0 0 ^0");
        Check.refuses(SYNTAX, "boiler 10 0;customer^");
        Check.refuses(SYNTAX, "boiler 10 0;customer ^0");
        Check.refuses(SYNTAX, "boiler 10 0;customer ^;");
        Check.refuses(SYNTAX, BASE + "^)");
        Check.refuses(SYNTAX, BASE + ";order^");
        Check.refuses(SYNTAX, BASE + ";order ^;");
        Check.refuses(SYNTAX, BASE + ";order 0 ^a");
        Check.refuses(SYNTAX, BASE + ";order 0 ^0000");
        Check.refuses(SYNTAX, BASE + ";repeat ^(");
        Check.refuses(SYNTAX, BASE + ";repeat 2^");
        Check.refuses(SYNTAX, BASE + ";repeat 2 ^pause 1");
        Check.refuses(SYNTAX, BASE + ";repeat 2 (^)");
        Check.refuses(SYNTAX, BASE + ";repeat 2 (pause 1^");
        Check.refuses(SYNTAX, BASE + ";repeat 2 (pause 1;^)");
        Check.refuses(SYNTAX, BASE + ";repeat 2 (pause 1^]");
        Check.refuses(SYNTAX, BASE + ";repeat 2 ^[pause 1)");
        Check.refuses(SYNTAX, BASE + "^,pause 1");
        Check.refuses(SYNTAX, BASE + ";repeat 2 (pause 1 ^(");
        Check.refuses(SYNTAX, BASE + ";repeat 2 (pause 1)^)");
        Check.refuses(SYNTAX, BASE + ";repeat 2 (pause 1) ^pause 1");
        Check.refuses(SYNTAX, BASE + ";repeat 2 (repeat 2 (pause 1)^");
    }

    private static void grammarOfItems() {
        String[] items = {
            "roller 1 1 0 0", "bundle 0 1 1 1 0", "time 0 0 5 1", "length 0 0 5 1", "close 0", "cancel 0",
            "discount 0 0", "service 0 0", "pause 0", "holiday 0 0", "fee 0 0", "split 0 1", "assign 0 0",
            "rate 0 0 100", "copy 0 5", "advance 1",
        };
        for (String item : items) {
            Check.accepts(new RollerLease(), BASE + ";" + item);
            Check.refuses(SYNTAX, BASE + ";" + item + " ^0");
            String shorter = item;
            for (int space = item.lastIndexOf(' '); space > 0; space = shorter.lastIndexOf(' ')) {
                shorter = item.substring(0, space);
                Check.refuses(SYNTAX, BASE + ";" + shorter + "^");
                Check.refuses(SYNTAX, BASE + ";" + shorter + "^;pause 1");
                Check.refuses(SYNTAX, BASE + ";" + shorter + " ^x");
            }
        }
        for (String item : items) {
            int letters = item.indexOf(' ');
            for (int letter = 0; letter < letters; letter++) {
                char other = item.charAt(letter) == 'q' ? 'z' : 'q';
                Check.refuses(SYNTAX, BASE + ";^" + item.substring(0, letter) + other + item.substring(letter + 1));
            }
            Check.refuses(SYNTAX, BASE + ";^" + item.substring(0, letters - 1) + item.substring(letters));
            Check.refuses(SYNTAX, BASE + ";^" + item.substring(0, letters) + "s" + item.substring(letters));
        }
        Check.accepts(new RollerLease(), BASE + ";close 0;open 0");
        Check.refuses(SYNTAX, BASE + ";close 0;open ^a");
        Check.refuses(SYNTAX, BASE + ";bundle 0 1 1 1 0;merge 0^");
        Check.refuses(SYNTAX, BASE + ";bundle 0 1 1 1 0;merge 0 1 ^1");
    }

    private static void conflicts() {
        Check.refuses(CONFLICT, BASE + ";customer b;customer ^a");
        Check.refuses(CONFLICT, BASE + ";customer ab;customer b;customer ^ab");
        Check.accepts(new RollerLease(), BASE + ";customer aa;customer ab;customer ba;customer aaa");
        Check.refuses(CONFLICT, BASE + ";bundle 0 ^0 1 1 0");
        Check.refuses(CONFLICT, BASE + ";bundle 0 1 1 1 0;bundle 0 ^1 1 1 0");
        Check.refuses(CONFLICT, BASE + ";close 0;close ^0");
        Check.refuses(CONFLICT, BASE + ";open ^0");
        Check.refuses(CONFLICT, BASE + ";close 0;open 0;open ^0");
        Check.refuses(CONFLICT, BASE + ";advance 1;cancel ^0");
        Check.accepts(new RollerLease(), BASE + ";time 0 0 5 9;advance 5;cancel 1");
        Check.refuses(CONFLICT, BASE + ";order 0 ^0");
        Check.refuses(CONFLICT, BASE + ";roller 1 1 0 0;order 1 0 ^1");
        Check.accepts(new RollerLease(), BASE + ";roller 1 1 0 0;order 1 0;order 1;order 0 1");
        Check.refuses(CONFLICT, BASE + ";split 0 ^200");
        Check.refuses(CONFLICT, BASE + ";advance 1;split 0 ^199");
        Check.accepts(new RollerLease(), BASE + ";advance 1;split 0 198");
        Check.refuses(CONFLICT, BASE + ";merge 0 ^0");
        Check.refuses(CONFLICT, BASE + ";customer b;bundle 1 1 1 1 1;merge 0 ^1");
        Check.refuses(CONFLICT, BASE + ";customer b;bundle 1 1 1 1 1;merge 1 ^0");
        String finished = "boiler 10 0;roller 1 1 0 0;customer a;bundle 0 0 1 1 0;time 0 0 0 1;advance 1;bundle 0 1 1 1 1";
        Check.refuses(CONFLICT, finished + ";merge 0 ^1");
        Check.refuses(CONFLICT, finished + ";merge 1 ^0");
        Check.refuses(CONFLICT, finished + ";assign ^0 0");
        Check.refuses(CONFLICT, finished + ";assign ^0 9");
        Check.refuses(CONFLICT, finished + ";split 0 ^1");
        Check.accepts(new RollerLease(), finished + ";assign 1 0;assign 1 0");
        Check.refuses(CONFLICT, BASE + ";length 0 0 5 1;copy ^1 9");
        Check.accepts(new RollerLease(), BASE + ";length 0 0 5 1;copy 0 9");
    }

    private static void limits() {
        String six = "boiler 10 0;roller 1 1 0 0;roller 1 1 0 0;roller 1 1 0 0;roller 1 1 0 0;roller 1 1 0 0;"
                + "roller 1 1 0 0;customer a;customer b;customer c;customer d;customer e;customer f";
        Check.accepts(new RollerLease(), six);
        Check.refuses(LIMIT, six + ";^roller x");
        Check.accepts(new RollerLease(), six + ";order 5 4 3 2 1 0;order 0 1 2 3 4 5");
        Check.refuses(CONFLICT, six + ";order 0 1 2 3 4 5 ^0");
        Check.refuses(RANGE, six + ";order 0 1 2 3 4 5 ^6");
        Check.refuses(CONFLICT, six + ";order 0 1 2 3 4 5 ^3 9");
        Check.refuses(LIMIT, six + ";^customer a");
        Check.refuses(LIMIT, six + ";^roller");
        StringBuilder bundles = new StringBuilder("boiler 10 0;roller 1 1 0 0;customer a");
        for (int bundle = 0; bundle < 16; bundle++) {
            bundles.append(";bundle 0 ").append(bundle).append(" 9 1 9");
        }
        Check.accepts(new RollerLease(), bundles.toString());
        Check.refuses(LIMIT, bundles + ";^bundle 0 0 9 1 9");
        Check.refuses(LIMIT, bundles + ";^split 0 1");
        Check.accepts(new RollerLease(), bundles + ";merge 0 1;split 0 1");
        Check.refuses(LIMIT, bundles + ";merge 0 1;split 0 1;^split 0 1");
        String holidays = BASE + ";holiday 0 0;holiday 0 1;holiday 0 2;holiday 0 3";
        Check.accepts(new RollerLease(), holidays);
        Check.refuses(LIMIT, holidays + ";^holiday");
        String rates = BASE + ";rate 0 0 50;rate 0 1 50;rate 0 2 50;rate 0 3 50";
        Check.accepts(new RollerLease(), rates);
        Check.refuses(LIMIT, rates + ";^rate 1000");
        Check.accepts(new RollerLease(), BASE + ";repeat 4 (advance 300);advance 300;advance 300;advance 200");
        Check.refuses(LIMIT, BASE + ";repeat 4 (advance 300);advance 300;advance 300;advance ^201");
        Check.refuses(LIMIT, BASE + ";repeat 5 (advance 200);repeat 5 (advance 200);advance ^1");
        Check.refuses(LIMIT, BASE + ";repeat 2 (repeat 5 (advance ^201))");
        Check.refuses(LIMIT, "boiler 10 0^");
        Check.refuses(LIMIT, "boiler 10 0  ^");
        Check.refuses(LIMIT, "boiler 10 0;roller 1 1 0 0^");
        Check.refuses(LIMIT, "boiler 10 0;customer a^");
        Check.refuses(LIMIT, "boiler 10 0;customer a;pause 1^");
    }

    private static void smallestCode() {
        Check.refuses(RANGE, BASE + ";bundle 0 ^100 9 1 9");
        Check.refuses(RANGE, BASE + ";time 0 0 0 ^201");
        Check.refuses(RANGE, BASE + ";customer abcdef;customer ^abcdefg");
        Check.refuses(RANGE, BASE + ";repeat 5 (advance 300);repeat 5 (advance 100);advance ^301");
        Check.refuses(RANGE, BASE + ";split 0 ^999");
        // The first token with an error counts, not the smallest code of all tokens.
        Check.refuses(CONFLICT, BASE + ";bundle 0 ^0 999 x");
        Check.refuses(RANGE, BASE + ";time 0 ^1 0 0 0");
        Check.refuses(CONFLICT, BASE + ";merge 0 ^0 )");
        // Too early an end within brackets is no lack of a roller.
        Check.refuses(SYNTAX, "boiler 10 0;repeat 1 (pause 1^");
    }

    private static void repeats() {
        RollerLease x = new RollerLease();
        Check.accepts(x, BASE + ";repeat 5 (repeat 5 (repeat 5 (advance 1)))");
        Check.equal("5 * 5 * 5 passes", x.minute(), 125);
        Check.accepts(x, BASE + ";repeat 2 (advance 1;repeat 3 (advance 10);advance 2);advance 5");
        Check.equal("brackets within brackets", x.minute(), 71);
        Check.accepts(x, BASE + ";repeat 1 (advance 7);repeat 1 (repeat 1 (advance 2));repeat 1 (advance 1)");
        Check.equal("brackets one after the other", x.minute(), 10);
        Check.refuses(LIMIT, BASE + ";repeat 1 (repeat 1 (repeat 1 (^repeat 1 (pause 1))))");
        Check.refuses(LIMIT, BASE + ";repeat 1 (repeat 1 (repeat 1 (pause 1;^repeat");
        Check.refuses(CONFLICT, BASE + ";repeat 2 (close ^0)");
        Check.accepts(x, BASE + ";repeat 5 (close 0;open 0)");
        Check.refuses(CONFLICT, BASE + ";repeat 2 (customer ^b)");
        Check.accepts(x, BASE + ";repeat 1 (customer b)");
        Check.refuses(LIMIT, BASE + ";repeat 4 (^holiday 1 1;holiday 2 2;rate 1 1 100)");
        Check.refuses(x, CONFLICT, 3, BASE + ";repeat 2 (time 0 0 3 ^3)");
        Check.refuses(x, CONFLICT, 1, BASE + ";roller 1 1 0 0;repeat 3 (advance 2;time 0 1 5 ^1;cancel 1)");
        Check.refuses(CONFLICT, BASE + ";repeat 3 (split 0 ^90)");
        // The bytes behind the parsed ones are no part of it.
        Check.append(x, BASE + ";repeat 1 (pause 1)");
        Check.throwsArgument("without the closing bracket", () -> x.parseSetup(BASE.length() + 18));
        Check.equal("the code of it", x.parseErrorCode(), SYNTAX);
        Check.equal("the position of it", x.parseErrorPosition(), BASE.length() + 18);
    }
}
