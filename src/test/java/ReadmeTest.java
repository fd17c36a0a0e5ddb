/** The example of README.md, line by line: what it tells the reader must hold. */
public final class ReadmeTest {
    public static void main(String[] args) {
        example();
        refusedSetup();
        refusedCall();
        Check.finish("ReadmeTest");
    }

    private static void example() {
        RollerLease laundry = new RollerLease();
        Check.equal("append 1", laundry.append(0x626f696c, 0x65722032, 0x3020343b, 0x726f6c6c, 0x65722033), 20);
        Check.equal("append 2", laundry.append(0x20352032, 0x20313b63, 0x7573746f, 0x6d657220, 0x616e6e3b), 40);
        Check.equal("append 3", laundry.append(0x62756e64, 0x6c652030, 0x20372031, 0x30203420, 0x393b7469), 60);
        Check.equal("append 4", laundry.append(0x6d652030, 0x20302030, 0x20352020, 0x20202020, 0x20202020), 80);
        Check.equal("parseSetup", laundry.parseSetup(70), 1);

        Check.equal("idleReason", laundry.idleReason(0), 0);
        Check.equal("predictedFinish", laundry.predictedFinish(0), 4);
        Check.equal("saveState", laundry.saveState(0), 0);
        Check.equal("advance", laundry.advance(3), 6);
        Check.equal("bundleYardsLeft", laundry.bundleYardsLeft(0), 1);
        Check.equal("leaseByTime", laundry.leaseByTime(0, 0, 8, 5), 1);
        Check.equal("undo", laundry.undo(), 1);
        Check.equal("restoreState", laundry.restoreState(0), 0);
        laundry.advance(3);
        Check.written(laundry, laundry.writeBills(), "ann=6");
        Check.equal("outputByte", laundry.outputByte(4), '6');
    }

    private static void refusedSetup() {
        RollerLease laundry = new RollerLease();
        Check.append(laundry, "boiler 20 4;roller 3 5 2 1;customer ann;time 0 0 0 5;time 0 0 4 2");
        Check.throwsArgument("parseSetup", () -> laundry.parseSetup(65));
        Check.equal("parseErrorCode", laundry.parseErrorCode(), RollerLease.CONFLICT_ERROR);
        Check.equal("parseErrorPosition", laundry.parseErrorPosition(), 64);
        Check.equal("conflictReason", laundry.conflictReason(), 3);
        Check.equal("bufferLength", laundry.bufferLength(), 0);
    }

    private static void refusedCall() {
        RollerLease laundry = new RollerLease();
        Check.throwsState("advance without a setup", () -> laundry.advance(1));
        Check.accepts(laundry, "boiler 20 4;roller 3 5 2 1;customer ann");
        Check.refused(laundry, "a roller that is not there", IndexOutOfBoundsException.class,
                () -> laundry.leaseByTime(0, 1, 0, 5));
        Check.refused(laundry, "a lease of no minutes", IllegalArgumentException.class,
                () -> laundry.leaseByTime(0, 0, 0, 0));
    }
}
