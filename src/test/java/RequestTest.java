/** Promises 18 to 20: queue, serve, served. */
public final class RequestTest {
    private static final Check CHECK = new Check();

    public static void main(String[] args) {
        queueNumbers();
        queueRefuses();
        serveTurnsOnceRound();
        serveInOrderOnOnePage();
        serveLeavesOutPagesNotFree();
        serveLooksAtFreePagesOnlyThen();
        serveWithoutPower();
        serveOfNothing();
        servedAnswers();
        servedStaysUntilTheNextServe();
        servedSinceMounting();
        CHECK.end();
    }

    private static void queueNumbers() {
        BubbleBox box = Boxes.formatted();
        long before = box.steps();
        for (int n = 0; n < 16; n++) {
            CHECK.is("queue() " + n, box.queue(n * 6, n % 2 == 0, n), n);
        }
        CHECK.unsupported("queue() of a 17th", () -> box.queue(0, false, 0));
        CHECK.illegalArgument("queue() of page 101 with 16", () -> box.queue(101, false, 0));
        CHECK.is("steps of all these", box.steps() - before, 0);
        box.serve();
        CHECK.is("queue() after serve()", box.queue(0, false, 0), 0);
        CHECK.is("queue() again", box.queue(100, false, 0), 1);
        box.mount();
        CHECK.is("queue() after mount()", box.queue(0, false, 0), 0);
        box.format();
        CHECK.is("queue() after format()", box.queue(0, false, 0), 0);
    }

    private static void queueRefuses() {
        BubbleBox box = Boxes.formatted();
        int[] wrongPages = {-1, 101, Integer.MIN_VALUE, Integer.MAX_VALUE};
        for (int page : wrongPages) {
            CHECK.illegalArgument("queue(" + page + ")", () -> box.queue(page, true, 1));
        }
        CHECK.is("queue(0)", box.queue(0, true, 1), 0);
        CHECK.is("queue(100)", box.queue(100, true, 1), 1);
    }

    private static void serveTurnsOnceRound() {
        BubbleBox box = Boxes.formatted();
        Boxes.onChip(box, 60);
        box.queue(59, true, 1);
        box.queue(100, true, 2);
        box.queue(0, false, 3);
        box.queue(60, true, 4);
        box.queue(80, true, 5);
        CHECK.is("serve() from 60: 60, 80, 100, 0, 59", box.serve(), 100);
        CHECK.is("page 59", Boxes.onChip(box, 59), 1);
        CHECK.is("page 100", Boxes.onChip(box, 100), 2);
        CHECK.is("page 60", Boxes.onChip(box, 60), 4);
        CHECK.is("page 80", Boxes.onChip(box, 80), 5);
    }

    private static void serveInOrderOnOnePage() {
        BubbleBox box = Boxes.formatted();
        box.queue(70, false, 0);
        box.queue(70, true, -5);
        box.queue(50, true, 8);
        box.queue(70, false, 0);
        box.queue(70, true, Long.MIN_VALUE);
        box.queue(70, false, 0);
        box.queue(50, false, 0);
        CHECK.is("serve()", box.serve(), 70);
        long[] due = {0, 0, 0, -5, 0, Long.MIN_VALUE, 8};
        for (int i = 0; i < due.length; i++) {
            CHECK.is("served(" + i + ")", box.served(i), due[i]);
        }
    }

    private static void serveLeavesOutPagesNotFree() {
        BubbleBox box = Boxes.formatted();
        box.create(1);
        Boxes.fill(box, 0, 3, 1);
        box.sync();
        box.append(0, 4);
        CHECK.is("P at 20, 40 held, 41 in a file: 42 is free", box.free(), 59);
        int[] notFree = {0, 19, 20, 39, 40, 41};
        box.power(0);
        for (int page : notFree) {
            box.queue(page, true, -1L);
        }
        CHECK.is("serve() of writes left out", box.serve(), 0);
        CHECK.is("state() without power needed", box.state(), 2);
        for (int i = 0; i < notFree.length; i++) {
            CHECK.is("served(" + i + ")", box.served(i), 0);
        }
        box.power(-1);
        CHECK.is("page 0", Boxes.onChip(box, 0), 0);
        CHECK.is("page 40", Boxes.onChip(box, 40), 0x030201);
        CHECK.is("page 41", Boxes.onChip(box, 41), 0);
        box.queue(42, true, -1L);
        CHECK.is("serve() of a free page", box.serve(), 1);
        CHECK.is("page 42", Boxes.onChip(box, 42), -1L);
    }

    private static void serveLooksAtFreePagesOnlyThen() {
        BubbleBox box = Boxes.formatted();
        box.create(1);
        box.queue(40, true, 7);
        box.queue(41, true, 8);
        box.append(0, 1);
        CHECK.is("serve() with 40 in a file by now", box.serve(), 41);
        CHECK.is("page 40", Boxes.onChip(box, 40), 0);
        CHECK.is("page 41", Boxes.onChip(box, 41), 8);
        box.queue(40, true, 9);
        box.remove(0);
        box.serve();
        CHECK.is("page 40 free by then", Boxes.onChip(box, 40), 9);
    }

    private static void serveWithoutPower() {
        BubbleBox box = Boxes.formatted();
        box.queue(0, false, 0);
        box.power(0);
        CHECK.illegalState("serve() of a page at P without power", () -> box.serve());
        CHECK.is("state()", box.state(), 0);
        box.mount();
        CHECK.is("serve() of nothing left", box.serve(), 0);
    }

    private static void serveOfNothing() {
        BubbleBox box = Boxes.formatted();
        box.power(0);
        CHECK.is("serve() of nothing", box.serve(), 0);
        CHECK.is("serve() again", box.serve(), 0);
        CHECK.outOfBounds("served(0) of nothing", () -> box.served(0));
    }

    private static void servedAnswers() {
        BubbleBox box = Boxes.formatted();
        CHECK.outOfBounds("served(0) without serve()", () -> box.served(0));
        box.queue(19, false, 5);
        CHECK.outOfBounds("served(0) before serve()", () -> box.served(0));
        box.queue(90, true, 6);
        box.serve();
        CHECK.is("served(0)", box.served(0), 1L << 48);
        CHECK.is("served(1)", box.served(1), 0);
        int[] wrong = {-1, 2, 15, 16, Integer.MIN_VALUE, Integer.MAX_VALUE};
        for (int i : wrong) {
            CHECK.outOfBounds("served(" + i + ")", () -> box.served(i));
        }
    }

    private static void servedStaysUntilTheNextServe() {
        BubbleBox box = Boxes.formatted();
        box.queue(90, true, 6);
        box.queue(90, false, 0);
        box.serve();
        box.queue(91, true, 3);
        box.queue(91, false, 0);
        box.queue(91, true, 3);
        CHECK.is("served(1)", box.served(1), 6);
        CHECK.outOfBounds("served(2)", () -> box.served(2));
        box.sync();
        CHECK.is("served(1) after sync()", box.served(1), 6);
        box.serve();
        CHECK.is("served(0) of the next", box.served(0), 0);
        CHECK.is("served(1) of the next", box.served(1), 3);
        CHECK.is("served(2) of the next", box.served(2), 0);
        box.serve();
        CHECK.outOfBounds("served(0) of none", () -> box.served(0));
    }

    private static void servedSinceMounting() {
        BubbleBox box = Boxes.formatted();
        Boxes.onChip(box, 19);
        box.mount();
        CHECK.outOfBounds("served(0) after mount()", () -> box.served(0));
        Boxes.onChip(box, 19);
        box.format();
        CHECK.outOfBounds("served(0) after format()", () -> box.served(0));
        Boxes.onChip(box, 19);
        box.power(0);
        CHECK.illegalState("sync() without power", () -> box.sync());
        CHECK.illegalState("served(0) when off", () -> box.served(0));
    }
}
