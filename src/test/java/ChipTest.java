/** Promises 1 to 5: a new object, stuck, power, state, steps. */
public final class ChipTest {
    private static final Check CHECK = new Check();

    public static void main(String[] args) {
        newObject();
        newObjectBesideAnother();
        stuckFromNowOn();
        stuckTwiceIsOneLoop();
        stuckAfterRefusedFormat();
        stuckNoSuchLoop();
        stuckNoSuchBit();
        stuckRefusedChangesNothing();
        stuckWithMap();
        powerForNone();
        powerForOne();
        powerForMost();
        powerToldAgain();
        powerBelowNone();
        powerWhenOff();
        powerBeforeTheMap();
        states();
        stepsOfTransfers();
        stepsAreNeverForgotten();
        stepsOfRefusedCalls();
        CHECK.end();
    }

    private static void newObject() {
        CHECK.sentence("On, not mounted, without a map.");
        BubbleBox box = new BubbleBox();
        CHECK.is("state()", box.state(), 1);
        CHECK.is("steps()", box.steps(), 0);
        needsMounting(box);
        box.stuck(0, 0);
        CHECK.is("mount() without a map", box.mount(), false);
        CHECK.is("state() then", box.state(), 1);
        CHECK.is("steps() then", box.steps(), 0);
    }

    private static void newObjectBesideAnother() {
        CHECK.sentence("On, not mounted, without a map.");
        BubbleBox used = Boxes.withFile(9);
        BubbleBox box = new BubbleBox();
        CHECK.is("state()", box.state(), 1);
        CHECK.is("steps()", box.steps(), 0);
        CHECK.is("mount()", box.mount(), false);
        box.format();
        CHECK.is("find(1)", box.find(1), BubbleBox.NONE);
        CHECK.is("free()", box.free(), 61);
        CHECK.is("the other one's length(0)", used.length(0), 9);
    }

    private static void needsMounting(BubbleBox box) {
        CHECK.illegalState("create(0)", () -> box.create(0));
        CHECK.illegalState("create(1)", () -> box.create(1));
        CHECK.illegalState("find(1)", () -> box.find(1));
        CHECK.illegalState("length(-1)", () -> box.length(-1));
        CHECK.illegalState("append(8, 0)", () -> box.append(8, 0));
        CHECK.illegalState("byteAt(0, -1)", () -> box.byteAt(0, -1));
        CHECK.illegalState("truncate(0, -1)", () -> box.truncate(0, -1));
        CHECK.illegalState("remove(9)", () -> box.remove(9));
        CHECK.illegalState("sync()", () -> box.sync());
        CHECK.illegalState("free()", () -> box.free());
        CHECK.illegalState("pageOf(-1, 0)", () -> box.pageOf(-1, 0));
        CHECK.illegalState("queue(-1, true, 0)", () -> box.queue(-1, true, 0));
        CHECK.illegalState("serve()", () -> box.serve());
        CHECK.illegalState("served(-1)", () -> box.served(-1));
    }

    private static void stickLoops(BubbleBox box, int first, int count) {
        for (int loop = first; loop < first + count; loop++) {
            box.stuck(loop, loop % 2);
        }
    }

    private static void stuckFromNowOn() {
        CHECK.sentence("A loop is stuck at v from now on.");
        BubbleBox box = new BubbleBox();
        stickLoops(box, 0, 5);
        box.mount();
        box.stuck(68, 1);
        CHECK.is("format() with 6 stuck", box.format(), false);
        box.mount();
        CHECK.is("format() with 6 stuck still", box.format(), false);
    }

    private static void stuckTwiceIsOneLoop() {
        CHECK.sentence("A loop is stuck at v from now on.");
        BubbleBox box = new BubbleBox();
        for (int n = 0; n < 6; n++) {
            box.stuck(68, n % 2);
        }
        stickLoops(box, 64, 4);
        CHECK.is("format() with 5 stuck, one of them often", box.format(), true);
    }

    private static void stuckAfterRefusedFormat() {
        CHECK.sentence("IllegalStateException: there is a map.");
        BubbleBox box = new BubbleBox();
        stickLoops(box, 10, 6);
        CHECK.is("format() with 6 stuck", box.format(), false);
        box.stuck(0, 1);
        CHECK.illegalArgument("stuck(69, 1)", () -> box.stuck(69, 1));
    }

    private static void stuckNoSuchLoop() {
        CHECK.sentence("IllegalArgumentException: there is no such loop");
        BubbleBox box = new BubbleBox();
        int[] wrong = {-1, 69, 70, 101, Integer.MIN_VALUE, Integer.MAX_VALUE};
        for (int loop : wrong) {
            CHECK.illegalArgument("stuck(" + loop + ", 0)", () -> box.stuck(loop, 0));
            CHECK.illegalArgument("stuck(" + loop + ", 1)", () -> box.stuck(loop, 1));
        }
        box.stuck(0, 0);
        box.stuck(68, 0);
    }

    private static void stuckNoSuchBit() {
        CHECK.sentence("or v is not 0 or 1");
        BubbleBox box = new BubbleBox();
        int[] wrong = {-1, 2, 256, Integer.MIN_VALUE, Integer.MAX_VALUE};
        for (int v : wrong) {
            CHECK.illegalArgument("stuck(0, " + v + ")", () -> box.stuck(0, v));
            CHECK.illegalArgument("stuck(68, " + v + ")", () -> box.stuck(68, v));
        }
        box.stuck(0, 0);
        box.stuck(0, 1);
    }

    private static void stuckRefusedChangesNothing() {
        CHECK.sentence("IllegalArgumentException: there is no such loop, or v is not 0 or 1");
        BubbleBox box = new BubbleBox();
        stickLoops(box, 0, 5);
        CHECK.illegalArgument("stuck(5, 2)", () -> box.stuck(5, 2));
        CHECK.illegalArgument("stuck(6, -1)", () -> box.stuck(6, -1));
        CHECK.illegalArgument("stuck(69, 0)", () -> box.stuck(69, 0));
        CHECK.is("format() when refused loops do not count", box.format(), true);
    }

    /** Wrong arguments are told first, as the document lists them. */
    private static void stuckWithMap() {
        CHECK.sentence("IllegalStateException: there is a map.");
        BubbleBox[] mapped = {Boxes.formatted(), Boxes.off(), Boxes.withoutImage()};
        for (BubbleBox box : mapped) {
            String when = " in state " + box.state();
            CHECK.illegalState("stuck(0, 0)" + when, () -> box.stuck(0, 0));
            CHECK.illegalState("stuck(68, 1)" + when, () -> box.stuck(68, 1));
            CHECK.illegalArgument("stuck(69, 0)" + when, () -> box.stuck(69, 0));
            CHECK.illegalArgument("stuck(0, 2)" + when, () -> box.stuck(0, 2));
        }
        BubbleBox torn = new BubbleBox();
        torn.power(0);
        CHECK.illegalState("format() without power", () -> torn.format());
        CHECK.illegalState("stuck(0, 0) when format() ended early", () -> torn.stuck(0, 0));
    }

    private static void powerForNone() {
        CHECK.sentence("Power lasts for n more transfers");
        BubbleBox box = Boxes.formatted();
        box.power(0);
        CHECK.is("state() after power(0)", box.state(), 2);
        CHECK.is("serve() of nothing", box.serve(), 0);
        box.queue(0, false, 0);
        CHECK.illegalState("serve() of one", () -> box.serve());
        CHECK.is("state() then", box.state(), 0);
    }

    private static void powerForOne() {
        CHECK.sentence("Power lasts for n more transfers");
        BubbleBox box = Boxes.formatted();
        box.power(1);
        box.queue(0, false, 0);
        box.serve();
        CHECK.is("state() after one", box.state(), 2);
        box.queue(0, false, 0);
        CHECK.illegalState("serve() of one more", () -> box.serve());
        CHECK.is("state() then", box.state(), 0);
    }

    private static void powerForMost() {
        CHECK.sentence("Power lasts for n more transfers");
        BubbleBox box = Boxes.formatted();
        box.power(Integer.MAX_VALUE);
        box.sync();
        CHECK.is("state()", box.state(), 2);
    }

    /** The transfers told last count, whatever was left before. */
    private static void powerToldAgain() {
        CHECK.sentence("Power lasts for n more transfers");
        BubbleBox box = Boxes.formatted();
        box.power(100);
        box.power(1);
        CHECK.illegalState("sync() after power(100), power(1)", () -> box.sync());
        box.mount();
        box.power(1);
        box.power(20);
        box.sync();
        CHECK.is("state() after power(1), power(20)", box.state(), 2);
        CHECK.illegalState("sync() with those used up", () -> box.sync());
    }

    private static void powerBelowNone() {
        CHECK.sentence("without end when n is below 0.");
        int[] endless = {-1, -2, -20, Integer.MIN_VALUE};
        for (int n : endless) {
            BubbleBox box = Boxes.formatted();
            box.power(0);
            box.power(n);
            for (int syncs = 0; syncs < 200; syncs++) {
                box.sync();
            }
            CHECK.is("state() after power(" + n + ")", box.state(), 2);
        }
    }

    private static void powerWhenOff() {
        CHECK.sentence("(When the box is off, nothing happens.)");
        int[] told = {-1, 0, 3, 100};
        for (int n : told) {
            BubbleBox box = Boxes.off();
            box.power(n);
            CHECK.is("state() after power(" + n + ")", box.state(), 0);
            CHECK.illegalState("sync() then", () -> box.sync());
            CHECK.illegalState("format() then", () -> box.format());
            CHECK.is("mount()", box.mount(), true);
            box.sync();
            CHECK.is("state() with power without end", box.state(), 2);
        }
    }

    private static void powerBeforeTheMap() {
        CHECK.sentence("Power lasts for n more transfers");
        BubbleBox box = new BubbleBox();
        box.power(19);
        CHECK.is("state() of a new box", box.state(), 1);
        CHECK.illegalState("format() with power for 19", () -> box.format());
        CHECK.is("state() then", box.state(), 0);
        BubbleBox other = new BubbleBox();
        other.power(20);
        CHECK.is("format() with power for 20", other.format(), true);
    }

    private static void states() {
        CHECK.sentence("0 off, 1 on, 2 mounted.");
        BubbleBox box = new BubbleBox();
        CHECK.is("state() new", box.state(), 1);
        box.format();
        CHECK.is("state() formatted", box.state(), 2);
        box.power(0);
        CHECK.is("state() with no transfer left", box.state(), 2);
        CHECK.illegalState("sync()", () -> box.sync());
        CHECK.is("state() off", box.state(), 0);
        needsMounting(box);
        CHECK.is("state() off after refusals", box.state(), 0);
        box.mount();
        CHECK.is("state() mounted", box.state(), 2);
        box.power(2);
        CHECK.illegalState("format() with power for 2", () -> box.format());
        CHECK.is("state() off by format()", box.state(), 0);
        CHECK.is("mount() without a valid image", box.mount(), false);
        CHECK.is("state() on", box.state(), 1);
        needsMounting(box);
        CHECK.is("state() on after refusals", box.state(), 1);
    }

    private static void stepsOfTransfers() {
        CHECK.sentence("All steps so far.");
        BubbleBox box = Boxes.formatted();
        CHECK.is("steps() of format()", box.steps(), 303);
        box.queue(100, false, 0);
        CHECK.is("steps() unchanged by queue()", box.steps(), 303);
        box.serve();
        CHECK.is("steps() to page 100", box.steps(), 403);
        Boxes.turnTo(box, 0);
        CHECK.is("steps() from page 100 to 0", box.steps(), 404);
        Boxes.turnTo(box, 100);
        Boxes.turnTo(box, 99);
        CHECK.is("steps() almost round", box.steps(), 604);
    }

    private static void stepsAreNeverForgotten() {
        CHECK.sentence("All steps so far.");
        BubbleBox box = Boxes.formatted();
        Boxes.loseAllPower(box);
        CHECK.is("steps() when off", box.steps(), 303);
        box.mount();
        CHECK.is("steps() after mount()", box.steps(), 303 + 39);
        box.format();
        CHECK.is("steps() after format()", box.steps(), 303 + 39 + 202 + 63 + 18 + 82);
    }

    private static void stepsOfRefusedCalls() {
        CHECK.sentence("All steps so far.");
        BubbleBox box = Boxes.off();
        needsMounting(box);
        CHECK.illegalState("format()", () -> box.format());
        CHECK.is("steps()", box.steps(), 303);
    }
}
