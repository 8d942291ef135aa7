/** Promises 18 to 20: queue, serve, served. */
public final class RequestTest {
    private static final Check CHECK = new Check();

    public static void main(String[] args) {
        queues();
        serves();
        serveds();
        CHECK.end();
    }

    private static void queues() {
        queueAsksOnly();
        queueNumbersSinceServe();
        queueNumbersSinceMounting();
        queueWhenNotMounted();
        queueOfNoPage();
        queueOfASeventeenth();
    }

    private static void serves() {
        serveTurnsOnceRound();
        serveBeginsAtP();
        serveInOrderOnOnePage();
        serveLeavesOutPagesNotFree();
        serveLeavesOutWithoutTurning();
        serveWritesTheFirstAndLastFreePage();
        serveReadsPagesNotFree();
        serveLooksAtFreePagesOnlyThen();
        serveLeavesNoRequests();
        serveAnswersSteps();
        serveOfNothing();
        serveOfSixteen();
        serveWhenNotMounted();
        serveWithoutPower();
    }

    private static void serveds() {
        servedOfReads();
        servedOfWritesAndLeftOut();
        servedStaysUntilTheNextServe();
        servedWhenNotMounted();
        servedOfNoRequest();
        servedWithoutServe();
        servedSinceMounting();
    }

    // ---- promise 18

    private static void queueAsksOnly() {
        CHECK.sentence("Asks for a transfer of a page, written with bits, or read");
        BubbleBox box = Boxes.formatted();
        box.power(0);
        CHECK.is("queue() of a write", box.queue(50, true, -1), 0);
        CHECK.is("queue() of a read", box.queue(50, false, -1), 1);
        CHECK.is("steps()", box.steps(), 303);
        CHECK.is("state()", box.state(), 2);
        box.mount();
        CHECK.is("page 50", Boxes.onChip(box, 50), 0);
    }

    private static void queueNumbersSinceServe() {
        CHECK.sentence("the number of the request, from 0 since the latest serve() or mounting.");
        BubbleBox box = Boxes.formatted();
        CHECK.is("first", box.queue(0, false, 0), 0);
        CHECK.is("second", box.queue(100, false, 0), 1);
        CHECK.is("third, on the same page", box.queue(100, true, 0), 2);
        box.sync();
        CHECK.is("fourth, after sync()", box.queue(3, false, 0), 3);
        box.serve();
        CHECK.is("first after serve()", box.queue(0, false, 0), 0);
        CHECK.is("second after serve()", box.queue(0, false, 0), 1);
    }

    private static void queueNumbersSinceMounting() {
        CHECK.sentence("the number of the request, from 0 since the latest serve() or mounting.");
        BubbleBox box = Boxes.formatted();
        box.queue(50, true, 9);
        box.mount();
        CHECK.is("first after mount()", box.queue(0, false, 0), 0);
        box.format();
        CHECK.is("first after format()", box.queue(0, false, 0), 0);
        box.serve();
        CHECK.is("page 50, asked for before", Boxes.onChip(box, 50), 0);
    }

    private static void queueWhenNotMounted() {
        CHECK.sentence("IllegalStateException: the box is not mounted; IllegalArgumentException: "
                + "there is no such page");
        for (BubbleBox box : Boxes.notMounted()) {
            String when = " in state " + box.state();
            CHECK.illegalState("queue(50)" + when, () -> box.queue(50, true, 1));
            CHECK.illegalState("queue(101)" + when, () -> box.queue(101, false, 0));
        }
    }

    private static void queueOfNoPage() {
        CHECK.sentence("IllegalArgumentException: there is no such page");
        BubbleBox box = Boxes.formatted();
        int[] wrong = {-1, 101, 102, Integer.MIN_VALUE, Integer.MAX_VALUE};
        for (int page : wrong) {
            CHECK.illegalArgument("queue(" + page + ")", () -> box.queue(page, true, 1));
            CHECK.illegalArgument("queue(" + page + ")", () -> box.queue(page, false, 0));
        }
        CHECK.is("queue(0)", box.queue(0, true, 1), 0);
        CHECK.is("queue(100)", box.queue(100, true, 1), 1);
    }

    private static void queueOfASeventeenth() {
        CHECK.sentence("UnsupportedOperationException: there are 16 requests.");
        BubbleBox box = Boxes.formatted();
        for (int n = 0; n < 16; n++) {
            CHECK.is("queue()", box.queue(40 + n, true, 900 + n), n);
        }
        CHECK.unsupported("queue() of a 17th", () -> box.queue(60, true, 1));
        CHECK.unsupported("queue() of a 17th to read", () -> box.queue(0, false, 0));
        CHECK.illegalArgument("queue() of page 101 with 16", () -> box.queue(101, false, 0));
        CHECK.is("serve()", box.serve(), 55);
        CHECK.is("queue() after serve()", box.queue(40, false, 0), 0);
        box.queue(55, false, 0);
        box.queue(60, false, 0);
        box.serve();
        CHECK.is("what the first wrote", box.served(0), 900);
        CHECK.is("what the 16th wrote", box.served(1), 915);
        CHECK.is("what the 17th did not", box.served(2), 0);
    }

    // ---- promise 19

    private static void serveTurnsOnceRound() {
        CHECK.sentence("always the request whose page is the first one from P on");
        BubbleBox box = Boxes.formatted();
        Boxes.turnTo(box, 60);
        box.queue(59, true, 1);
        box.queue(100, true, 2);
        box.queue(0, false, 3);
        box.queue(61, true, 4);
        box.queue(80, true, 5);
        CHECK.is("serve() from 60: 61, 80, 100, 0, 59", box.serve(), 100);
        CHECK.is("page 59", Boxes.onChip(box, 59), 1);
        CHECK.is("page 100", Boxes.onChip(box, 100), 2);
        CHECK.is("page 61", Boxes.onChip(box, 61), 4);
        CHECK.is("page 80", Boxes.onChip(box, 80), 5);
    }

    private static void serveBeginsAtP() {
        CHECK.sentence("always the request whose page is the first one from P on");
        BubbleBox box = Boxes.formatted();
        Boxes.turnTo(box, 60);
        box.queue(61, true, 1);
        box.queue(60, true, 2);
        box.power(1);
        CHECK.illegalState("serve() with power for one", () -> box.serve());
        box.mount();
        CHECK.is("page 60, where P was", Boxes.onChip(box, 60), 2);
        CHECK.is("page 61", Boxes.onChip(box, 61), 0);
    }

    private static void serveInOrderOnOnePage() {
        CHECK.sentence("of several that which was asked for first");
        BubbleBox box = Boxes.formatted();
        box.queue(70, false, 0);
        box.queue(70, true, -5);
        box.queue(50, true, 8);
        box.queue(70, false, 0);
        box.queue(70, true, Long.MIN_VALUE);
        box.queue(70, false, 0);
        box.queue(50, false, 0);
        CHECK.is("serve()", box.serve(), 70);
        long[] due = {0, 0, 0, -5, 0, Long.MIN_VALUE, 8};
        for (int i = 0; i < due.length; i++) {
            CHECK.is("served(" + i + ")", box.served(i), due[i]);
        }
    }

    private static void serveLeavesOutPagesNotFree() {
        CHECK.sentence("writing to a page that is not free is left out, without steps.");
        BubbleBox box = Boxes.withFile(3);
        box.sync();
        box.append(0, 4);
        CHECK.is("free() with 40 held, 41 in a file", box.free(), 59);
        int[] notFree = {0, 19, 20, 39, 40, 41};
        long[] before = new long[notFree.length];
        for (int n = 0; n < notFree.length; n++) {
            before[n] = Boxes.onChip(box, notFree[n]);
        }
        box.power(0);
        for (int page : notFree) {
            box.queue(page, true, -1L);
        }
        CHECK.is("serve() of writes left out", box.serve(), 0);
        CHECK.is("state() without a transfer", box.state(), 2);
        box.power(-1);
        for (int n = 0; n < notFree.length; n++) {
            CHECK.is("page " + notFree[n], Boxes.onChip(box, notFree[n]), before[n]);
        }
    }

    private static void serveLeavesOutWithoutTurning() {
        CHECK.sentence("writing to a page that is not free is left out, without steps.");
        BubbleBox box = Boxes.formatted();
        box.queue(39, true, -1);
        box.queue(10, false, 0);
        box.queue(30, true, -1);
        box.power(1);
        CHECK.is("serve() of one that reads page 10", box.serve(), 10);
        CHECK.is("state()", box.state(), 2);
    }

    private static void serveWritesTheFirstAndLastFreePage() {
        CHECK.sentence("writing to a page that is not free is left out, without steps.");
        BubbleBox box = Boxes.formatted();
        box.queue(39, true, 5);
        box.queue(40, true, 6);
        box.queue(100, true, 7);
        CHECK.is("serve()", box.serve(), 100);
        CHECK.is("page 39", Boxes.onChip(box, 39), 0);
        CHECK.is("page 40", Boxes.onChip(box, 40), 6);
        CHECK.is("page 100", Boxes.onChip(box, 100), 7);
    }

    private static void serveReadsPagesNotFree() {
        CHECK.sentence("Does what was asked for");
        BubbleBox box = Boxes.withFile(3);
        box.sync();
        box.queue(20, false, -1);
        box.queue(40, false, -1);
        box.serve();
        CHECK.is("page of an image", box.served(0) & 255, 1);
        CHECK.is("page of a file", box.served(1), 0x030201);
        CHECK.is("page 40 as before", Boxes.onChip(box, 40), 0x030201);
    }

    private static void serveLooksAtFreePagesOnlyThen() {
        CHECK.sentence("writing to a page that is not free is left out, without steps.");
        BubbleBox box = Boxes.formatted();
        box.create(1);
        box.queue(40, true, 7);
        box.queue(41, true, 8);
        box.append(0, 1);
        CHECK.is("serve() with 40 in a file by now", box.serve(), 41);
        CHECK.is("page 40", Boxes.onChip(box, 40), 0);
        CHECK.is("page 41", Boxes.onChip(box, 41), 8);
        box.queue(40, true, 9);
        box.remove(0);
        box.serve();
        CHECK.is("page 40 free by then", Boxes.onChip(box, 40), 9);
    }

    private static void serveLeavesNoRequests() {
        CHECK.sentence("There are no requests then.");
        BubbleBox box = Boxes.formatted();
        box.queue(50, true, 5);
        box.queue(30, true, 5);
        box.serve();
        box.power(0);
        CHECK.is("serve() again", box.serve(), 0);
        CHECK.is("state() without a transfer", box.state(), 2);
        CHECK.is("queue()", box.queue(50, false, 0), 0);
    }

    private static void serveAnswersSteps() {
        CHECK.sentence("There are no requests then. How many steps that took.");
        BubbleBox box = Boxes.formatted();
        box.queue(100, false, 0);
        CHECK.is("serve() from 0 to 100", box.serve(), 100);
        box.queue(100, true, 0);
        CHECK.is("serve() at P", box.serve(), 0);
        box.queue(99, false, 0);
        box.queue(100, false, 0);
        CHECK.is("serve() at P and almost round", box.serve(), 100);
        CHECK.is("steps()", box.steps(), 303 + 200);
    }

    private static void serveOfNothing() {
        CHECK.sentence("There are no requests then. How many steps that took.");
        BubbleBox box = Boxes.formatted();
        box.power(0);
        CHECK.is("serve() of nothing", box.serve(), 0);
        CHECK.is("serve() again", box.serve(), 0);
        CHECK.is("state()", box.state(), 2);
        CHECK.outOfBounds("served(0) of nothing", () -> box.served(0));
    }

    /** Asked for from the last page to the first, all are done in one turn. */
    private static void serveOfSixteen() {
        CHECK.sentence("always the request whose page is the first one from P on");
        BubbleBox box = Boxes.formatted();
        for (int n = 0; n < 16; n++) {
            box.queue(100 - 3 * n, true, 1 + n);
        }
        CHECK.is("serve()", box.serve(), 100);
        for (int n = 0; n < 16; n++) {
            box.queue(100 - 3 * n, false, 0);
        }
        CHECK.is("serve() of reads", box.serve(), 98);
        for (int n = 0; n < 16; n++) {
            CHECK.is("served(" + n + ")", box.served(n), 1 + n);
        }
    }

    private static void serveWhenNotMounted() {
        CHECK.sentence("How many steps that took. IllegalStateException: the box is not mounted.");
        for (BubbleBox box : Boxes.notMounted()) {
            long steps = box.steps();
            CHECK.illegalState("serve() in state " + box.state(), () -> box.serve());
            CHECK.is("steps() then", box.steps(), steps);
        }
    }

    private static void serveWithoutPower() {
        CHECK.sentence("the call throws IllegalStateException.");
        BubbleBox box = Boxes.formatted();
        box.queue(0, false, 0);
        box.power(0);
        CHECK.illegalState("serve() of a page at P without power", () -> box.serve());
        CHECK.is("state()", box.state(), 0);
        box.mount();
        CHECK.is("serve() of nothing left", box.serve(), 0);
        box.queue(50, true, 5);
        box.power(0);
        CHECK.illegalState("serve() of a write without power", () -> box.serve());
        box.mount();
        CHECK.is("page 50", Boxes.onChip(box, 50), 0);
    }

    // ---- promise 20

    private static void servedOfReads() {
        CHECK.sentence("What request i of the latest serve() has read");
        BubbleBox box = Boxes.formatted();
        for (int n = 0; n < 16; n++) {
            box.queue(100 - n, true, -1L - n);
        }
        box.serve();
        for (int n = 0; n < 16; n++) {
            box.queue(85 + n, false, 7);
        }
        box.serve();
        for (int n = 0; n < 16; n++) {
            CHECK.is("served(" + n + ")", box.served(n), -1L - (15 - n));
        }
        CHECK.is("served(0) again", box.served(0), -16L);
    }

    private static void servedOfWritesAndLeftOut() {
        CHECK.sentence("0 if it has written or was left out.");
        BubbleBox box = Boxes.formatted();
        box.queue(90, true, 6);
        box.queue(19, false, 6);
        box.queue(19, true, 6);
        box.serve();
        CHECK.is("served(0) of a write", box.served(0), 0);
        CHECK.is("served(1) of a read", box.served(1), 1L << 48);
        CHECK.is("served(2) of what was left out", box.served(2), 0);
        box.queue(90, false, 0);
        box.queue(90, true, 7);
        box.serve();
        CHECK.is("served(0) of a read", box.served(0), 6);
        CHECK.is("served(1) of a write where a read was before", box.served(1), 0);
        box.queue(0, true, 7);
        box.serve();
        CHECK.is("served(0) left out where a read was before", box.served(0), 0);
    }

    private static void servedStaysUntilTheNextServe() {
        CHECK.sentence("What request i of the latest serve() has read");
        BubbleBox box = Boxes.formatted();
        box.queue(90, true, 6);
        box.queue(90, false, 0);
        box.serve();
        box.queue(91, true, 3);
        box.queue(91, false, 0);
        box.queue(91, true, 3);
        CHECK.is("served(1)", box.served(1), 6);
        CHECK.outOfBounds("served(2) only asked for", () -> box.served(2));
        box.sync();
        CHECK.is("served(1) after sync()", box.served(1), 6);
        box.serve();
        CHECK.is("served(0) of the next", box.served(0), 0);
        CHECK.is("served(1) of the next", box.served(1), 3);
        CHECK.is("served(2) of the next", box.served(2), 0);
    }

    private static void servedWhenNotMounted() {
        CHECK.sentence("IllegalStateException: the box is not mounted; IndexOutOfBoundsException: "
                + "it had no such request");
        for (BubbleBox box : Boxes.notMounted()) {
            CHECK.illegalState("served(0) in state " + box.state(), () -> box.served(0));
            CHECK.illegalState("served(-1) in state " + box.state(), () -> box.served(-1));
        }
        BubbleBox box = Boxes.formatted();
        Boxes.onChip(box, 19);
        Boxes.loseAllPower(box);
        CHECK.illegalState("served(0) when off by now", () -> box.served(0));
    }

    private static void servedOfNoRequest() {
        CHECK.sentence("IndexOutOfBoundsException: it had no such request");
        BubbleBox box = Boxes.formatted();
        box.queue(19, false, 5);
        box.queue(90, true, 6);
        box.serve();
        int[] wrong = {-1, 2, 15, 16, 17, Integer.MIN_VALUE, Integer.MAX_VALUE};
        for (int i : wrong) {
            CHECK.outOfBounds("served(" + i + ")", () -> box.served(i));
        }
        CHECK.is("served(1)", box.served(1), 0);
        box.serve();
        CHECK.outOfBounds("served(0) of a serve() of nothing", () -> box.served(0));
        for (int n = 0; n < 16; n++) {
            box.queue(n, false, 0);
        }
        box.serve();
        CHECK.is("served(15)", box.served(15), 0);
        CHECK.outOfBounds("served(16) of 16", () -> box.served(16));
    }

    private static void servedWithoutServe() {
        CHECK.sentence("or there was no serve() since mounting.");
        BubbleBox box = Boxes.formatted();
        CHECK.outOfBounds("served(0)", () -> box.served(0));
        CHECK.outOfBounds("served(-1)", () -> box.served(-1));
        box.queue(19, false, 5);
        CHECK.outOfBounds("served(0) only asked for", () -> box.served(0));
    }

    private static void servedSinceMounting() {
        CHECK.sentence("or there was no serve() since mounting.");
        BubbleBox box = Boxes.formatted();
        Boxes.onChip(box, 19);
        box.mount();
        CHECK.outOfBounds("served(0) after mount()", () -> box.served(0));
        Boxes.onChip(box, 19);
        box.format();
        CHECK.outOfBounds("served(0) after format()", () -> box.served(0));
        Boxes.onChip(box, 19);
        Boxes.loseAllPower(box);
        box.mount();
        CHECK.outOfBounds("served(0) after a loss of power", () -> box.served(0));
    }
}
