/** Promises 1 to 5: a new object, stuck, power, state, steps. */
public final class ChipTest {
    private static final Check CHECK = new Check();

    public static void main(String[] args) {
        newObject();
        newObjectIsNotMounted();
        stuckRefusesWrongArguments();
        stuckRefusesWithMap();
        stuckLoopsAreLeftOut();
        stuckTwiceIsOneLoop();
        powerCountsTransfers();
        powerWithoutEnd();
        powerNothingWhenOff();
        powerBeforeTheMap();
        whatPowerLeaves();
        states();
        stepsOfTransfers();
        CHECK.end();
    }

    private static void newObject() {
        BubbleBox box = new BubbleBox();
        CHECK.is("state() of a new box", box.state(), 1);
        CHECK.is("steps() of a new box", box.steps(), 0);
        CHECK.is("mount() without a map", box.mount(), false);
        CHECK.is("state() then", box.state(), 1);
        CHECK.is("steps() then", box.steps(), 0);
    }

    private static void newObjectIsNotMounted() {
        BubbleBox box = new BubbleBox();
        needsMounting(box);
        CHECK.is("state() unchanged by refusals", box.state(), 1);
    }

    private static void needsMounting(BubbleBox box) {
        CHECK.illegalState("create(0)", () -> box.create(0));
        CHECK.illegalState("create(1)", () -> box.create(1));
        CHECK.illegalState("find(1)", () -> box.find(1));
        CHECK.illegalState("length(-1)", () -> box.length(-1));
        CHECK.illegalState("append(8, 0)", () -> box.append(8, 0));
        CHECK.illegalState("byteAt(0, -1)", () -> box.byteAt(0, -1));
        CHECK.illegalState("truncate(0, -1)", () -> box.truncate(0, -1));
        CHECK.illegalState("remove(9)", () -> box.remove(9));
        CHECK.illegalState("sync()", () -> box.sync());
        CHECK.illegalState("free()", () -> box.free());
        CHECK.illegalState("pageOf(-1, 0)", () -> box.pageOf(-1, 0));
        CHECK.illegalState("queue(-1, true, 0)", () -> box.queue(-1, true, 0));
        CHECK.illegalState("serve()", () -> box.serve());
        CHECK.illegalState("served(-1)", () -> box.served(-1));
    }

    private static void stuckRefusesWrongArguments() {
        BubbleBox box = new BubbleBox();
        int[] wrongLoops = {-1, 69, Integer.MIN_VALUE, Integer.MAX_VALUE};
        for (int loop : wrongLoops) {
            CHECK.illegalArgument("stuck(" + loop + ", 0)", () -> box.stuck(loop, 0));
        }
        int[] wrongBits = {-1, 2, Integer.MIN_VALUE, Integer.MAX_VALUE};
        for (int v : wrongBits) {
            CHECK.illegalArgument("stuck(0, " + v + ")", () -> box.stuck(0, v));
        }
        for (int loop = 0; loop < 5; loop++) {
            box.stuck(loop, 0);
        }
        CHECK.is("format() when refused loops do not count", box.format(), true);
    }

    private static void stuckRefusesWithMap() {
        BubbleBox box = Boxes.formatted();
        CHECK.illegalState("stuck(0, 0) with a map", () -> box.stuck(0, 0));
        CHECK.illegalState("stuck(68, 1) with a map", () -> box.stuck(68, 1));
        CHECK.illegalArgument("stuck(69, 0) with a map", () -> box.stuck(69, 0));
        CHECK.illegalArgument("stuck(0, 2) with a map", () -> box.stuck(0, 2));
        BubbleBox off = Boxes.off();
        CHECK.illegalState("stuck(0, 0) when off", () -> off.stuck(0, 0));
    }

    /** Every page must hold all 64 bits, wherever the stuck loops lie. */
    private static void stuckLoopsAreLeftOut() {
        int[] loops = {0, 31, 32, 63, 68};
        BubbleBox box = new BubbleBox();
        for (int n = 0; n < loops.length; n++) {
            box.stuck(loops[n], n % 2);
        }
        CHECK.is("format() with 5 stuck", box.format(), true);
        box.queue(50, true, -1L);
        box.queue(51, true, 0x123456789ABCDEF0L);
        box.serve();
        CHECK.is("page of ones", Boxes.onChip(box, 50), -1L);
        CHECK.is("page of a pattern", Boxes.onChip(box, 51), 0x123456789ABCDEF0L);
        CHECK.is("page of zeros", Boxes.onChip(box, 52), 0);
    }

    private static void stuckTwiceIsOneLoop() {
        BubbleBox box = new BubbleBox();
        for (int n = 0; n < 6; n++) {
            box.stuck(68, n % 2);
        }
        box.stuck(64, 1);
        box.stuck(65, 1);
        box.stuck(66, 1);
        box.stuck(67, 1);
        CHECK.is("format() with 5 stuck, one of them often", box.format(), true);
        BubbleBox other = new BubbleBox();
        for (int loop = 63; loop < 69; loop++) {
            other.stuck(loop, 0);
        }
        CHECK.is("format() with the last 6 stuck", other.format(), false);
    }

    private static void powerCountsTransfers() {
        BubbleBox box = Boxes.formatted();
        box.power(20);
        box.sync();
        CHECK.is("state() with power used up", box.state(), 2);
        CHECK.is("free() needs no power", box.free(), 61);
        CHECK.is("create() needs no power", box.create(4), 0);
        CHECK.is("append() to a new page needs no power", box.append(0, 1), 1);
        CHECK.illegalState("sync() without power", () -> box.sync());
        CHECK.is("state() then", box.state(), 0);
        needsMounting(box);
        CHECK.illegalState("format() when off", () -> box.format());
        CHECK.is("mount()", box.mount(), true);
        CHECK.is("find() of what was not synced", box.find(4), BubbleBox.NONE);
        box.sync();
        box.sync();
        CHECK.is("state() with power without end after mount()", box.state(), 2);
    }

    private static void powerWithoutEnd() {
        int[] endless = {-1, -7, Integer.MIN_VALUE};
        for (int n : endless) {
            BubbleBox box = Boxes.formatted();
            box.power(0);
            box.power(n);
            box.sync();
            box.sync();
            CHECK.is("state() after power(" + n + ")", box.state(), 2);
        }
        BubbleBox box = Boxes.formatted();
        box.power(Integer.MAX_VALUE);
        box.sync();
        CHECK.is("state() with much power", box.state(), 2);
    }

    private static void powerNothingWhenOff() {
        BubbleBox box = Boxes.off();
        box.power(-1);
        CHECK.is("state() after power(-1) when off", box.state(), 0);
        box.power(100);
        CHECK.is("state() after power(100) when off", box.state(), 0);
        CHECK.illegalState("sync() then", () -> box.sync());
        box.power(3);
        CHECK.is("mount()", box.mount(), true);
        box.sync();
        CHECK.is("state() when power(3) told nothing", box.state(), 2);
    }

    private static void powerBeforeTheMap() {
        BubbleBox box = new BubbleBox();
        box.power(19);
        CHECK.illegalState("format() with power for 19", () -> box.format());
        CHECK.is("state() then", box.state(), 0);
        BubbleBox other = new BubbleBox();
        other.power(3);
        CHECK.is("mount() without a map", other.mount(), false);
        CHECK.is("format() with power without end by mount()", other.format(), true);
    }

    /** The transfer that finds no power takes no step; those before it stay on the chip. */
    private static void whatPowerLeaves() {
        BubbleBox box = Boxes.formatted();
        box.queue(40, true, 11);
        box.queue(60, true, 22);
        box.queue(80, true, 33);
        box.power(2);
        CHECK.illegalState("serve() of three with power for two", () -> box.serve());
        CHECK.is("steps() then", box.steps(), 303 + 60);
        CHECK.is("mount()", box.mount(), true);
        CHECK.is("steps() with P on to 0 and 39 pages more", box.steps(), 303 + 60 + 41 + 39);
        CHECK.is("first page", Boxes.onChip(box, 40), 11);
        CHECK.is("second page", Boxes.onChip(box, 60), 22);
        CHECK.is("third page", Boxes.onChip(box, 80), 0);
    }

    private static void states() {
        BubbleBox box = new BubbleBox();
        CHECK.is("state() new", box.state(), 1);
        box.format();
        CHECK.is("state() formatted", box.state(), 2);
        box.power(0);
        CHECK.is("state() with no transfer left", box.state(), 2);
        CHECK.illegalState("sync()", () -> box.sync());
        CHECK.is("state() off", box.state(), 0);
        box.mount();
        CHECK.is("state() mounted", box.state(), 2);
        box.power(2);
        CHECK.illegalState("format() with power for 2", () -> box.format());
        CHECK.is("state() off by format()", box.state(), 0);
        CHECK.is("mount() without a valid image", box.mount(), false);
        CHECK.is("state() on", box.state(), 1);
        needsMounting(box);
    }

    private static void stepsOfTransfers() {
        BubbleBox box = Boxes.formatted();
        CHECK.is("steps() of format()", box.steps(), 303);
        box.queue(100, false, 0);
        CHECK.is("steps() unchanged by queue()", box.steps(), 303);
        box.serve();
        CHECK.is("steps() to page 100", box.steps(), 403);
        Boxes.onChip(box, 100);
        CHECK.is("steps() to the same page", box.steps(), 403);
        Boxes.onChip(box, 0);
        CHECK.is("steps() from page 100 to 0", box.steps(), 404);
        Boxes.onChip(box, 100);
        Boxes.onChip(box, 99);
        CHECK.is("steps() almost round", box.steps(), 604);
    }
}
