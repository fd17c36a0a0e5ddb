/** Promises 51 to 54: the text output. */
public final class OutputTest {
    public static void main(String[] args) {
        promise51WriteSchedule();
        promise52WriteBundle();
        promise53WriteBills();
        promise54OutputByte();
        Check.finish("OutputTest");
    }

    private static void schedule(RollerLease x, int roller, int from, String due) {
        Check.written(x, x.writeSchedule(roller, from), due);
    }

    private static void promise51WriteSchedule() {
        RollerLease x = Check.load("boiler 10 0;roller 2 1 0 0;roller 1 1 0 0;customer zed;customer ann;time 0 0 1 3;"
                + "length 1 0 4 5;time 0 0 9 1;time 1 1 995 5;time 0 1 3 1");
        schedule(x, 0, 0, ".zzzaaa..z..........");
        schedule(x, 0, 3, "zaaa..z.............");
        schedule(x, 0, 9, "z...................");
        schedule(x, 0, 10, "....................");
        schedule(x, 1, 0, "...z................");
        schedule(x, 1, 990, ".....aaaaa..........");
        schedule(x, 1, 999, "a...................");
        schedule(x, 1, 1000, "....................");
        x.advance(8);
        schedule(x, 0, 0, ".zzzaaa..z..........");
        RollerLease full = Check.load("boiler 10 0;roller 2 1 0 0;customer q;time 0 0 0 200");
        schedule(full, 0, 0, "qqqqqqqqqqqqqqqqqqqq");
        schedule(full, 0, 181, "qqqqqqqqqqqqqqqqqqq.");
    }

    private static void bundle(RollerLease x, int bundle, String due) {
        Check.written(x, x.writeBundle(bundle), due);
    }

    private static void promise52WriteBundle() {
        RollerLease x = Check.load("boiler 500 0;roller 2 5 0 0;customer a;bundle 0 0 3 4 1;bundle 0 10 20 3 2;bundle 0 99 200 9 999;"
                + "time 0 0 0 99");
        bundle(x, 0, "0:3");
        bundle(x, 1, "10:20");
        bundle(x, 2, "99:200");
        x.advance(1);
        bundle(x, 0, "0:1*");
        x.advance(1);
        bundle(x, 0, "0:0!**");
        bundle(x, 1, "10:20");
        x.advance(1);
        bundle(x, 1, "10:18!*");
        x.advance(7);
        bundle(x, 1, "10:4!********");
        x.advance(1);
        bundle(x, 1, "10:2!*********");
        x.advance(1);
        bundle(x, 1, "10:0!*********");
        bundle(x, 0, "0:0!**");
        bundle(x, 2, "99:200");
        x.advance(50);
        bundle(x, 2, "99:100");
    }

    private static void promise53WriteBills() {
        RollerLease x = Check.load("boiler 500 0;roller 2 5 50 0;customer ann;customer b;customer zzzzzz;time 2 0 0 200;time 1 0 200 3");
        Check.written(x, x.writeBills(), "ann=0 b=0 zzzzzz=0");
        x.advance(202);
        Check.written(x, x.writeBills(), "ann=0 b=100 zzzzzz=10000");
        RollerLease one = Check.load("boiler 500 0;roller 2 5 3 0;customer q;time 0 0 0 200;advance 9");
        Check.written(one, one.writeBills(), "q=27");
    }

    private static void promise54OutputByte() {
        RollerLease x = Check.load("boiler 500 0;roller 2 5 3 0;customer q;bundle 0 7 3 4 1;time 0 0 0 9;advance 9");
        Check.throwsIndex("before the first output", () -> x.outputByte(0));
        x.writeBills();
        Check.equal("a letter", x.outputByte(0), 'q');
        Check.equal("an equals sign", x.outputByte(1), '=');
        Check.equal("a digit", x.outputByte(2), '2');
        int[] none = {-1, 4, Integer.MIN_VALUE, Integer.MAX_VALUE};
        for (int index : none) {
            Check.throwsIndex("byte " + index, () -> x.outputByte(index));
        }
        x.writeSchedule(0, 0);
        x.writeBundle(0);
        Check.same("an output replaces the one before", Check.output(x, 6), "7:0!**");
        Check.throwsIndex("a bundle that is none", () -> x.writeBundle(1));
        x.advance(1);
        x.undo();
        x.saveState(0);
        x.restoreState(0);
        Check.same("undo and restoreState leave the output", Check.output(x, 6), "7:0!**");
        Check.equal("writing is no change", x.undoCount(), 0);
    }
}
