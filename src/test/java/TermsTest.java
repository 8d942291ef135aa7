/** "What it is" and "Terms", but for images: the chip, pages, power, files, windows, held, free. */
public final class TermsTest {
    private static final Check CHECK = new Check();

    public static void main(String[] args) {
        lastCalls();
        chipAtFirst();
        stepAfterThePlace100();
        stuckLoopsHoldNothing();
        noMapAtFirst();
        pagesHave64Bits();
        bytesOfAPage();
        transferWithoutSteps();
        transferAlmostRound();
        boxAtFirst();
        powerAtFirst();
        powerForAllThatIsNeeded();
        powerForOneTooFew();
        powerLeavesTheChip();
        powerTakesAllElse();
        numbersOfFiles();
        namesOfFiles();
        pagesBegun();
        placesOfBytes();
        savedWindowIsNotChanged();
        loadingWhatTheWindowHolds();
        loadingSavesChangedWindows();
        loadingLeavesOtherWindowsUnsaved();
        loadedWindowIsNotChanged();
        heldInTheCurrentImage();
        heldAfterMounting();
        heldAfterTornSync();
        heldUntilTheImageIsCurrent();
        freeFromPage40On();
        CHECK.end();
    }

    private static void lastCalls() {
        CHECK.sentence("An object is used for at most 512 calls after it has been made; "
                + "what later calls answer is free.");
        BubbleBox full = Boxes.withFile(488);
        for (int call = 491; call < 512; call++) {
            full.state();
        }
        CHECK.is("byteAt(0, 487) as call 512", full.byteAt(0, 487), 488 % 256);
        BubbleBox synced = Boxes.formatted();
        for (int call = 2; call < 512; call++) {
            synced.sync();
        }
        CHECK.is("mount() as call 512", synced.mount(), true);
        BubbleBox unused = new BubbleBox();
        for (int call = 1; call < 512; call++) {
            unused.steps();
        }
        CHECK.illegalState("find(1) as call 512", () -> unused.find(1));
    }

    private static void chipAtFirst() {
        CHECK.sentence("THE CHIP has 69 LOOPS of 101 PLACES, each place with a bit, "
                + "all 0 at first; and a POSITION P, 0 .. 100, at first 0.");
        BubbleBox box = new BubbleBox();
        box.stuck(0, 1);
        box.stuck(68, 1);
        CHECK.illegalArgument("stuck(69, 1)", () -> box.stuck(69, 1));
        CHECK.is("format()", box.format(), true);
        CHECK.is("steps() with P at first 0", box.steps(), 202 + 19 + 82);
        CHECK.illegalArgument("queue(101)", () -> box.queue(101, false, 0));
        for (int page = 20; page < 101; page++) {
            CHECK.is("page " + page, Boxes.onChip(box, page), 0);
        }
        CHECK.is("steps() once round to page 100", box.steps(), 303 + 100);
    }

    private static void stepAfterThePlace100() {
        CHECK.sentence("A STEP makes P one more, after 100 it is 0.");
        BubbleBox box = Boxes.formatted();
        Boxes.turnTo(box, 99);
        box.queue(100, false, 0);
        CHECK.is("serve() from 99 to 100", box.serve(), 1);
        box.queue(0, false, 0);
        CHECK.is("serve() from 100 to 0", box.serve(), 1);
        box.queue(1, false, 0);
        CHECK.is("serve() from 0 to 1", box.serve(), 1);
    }

    /** Every page holds all 64 bits, wherever the stuck loops lie, at 0 or at 1. */
    private static void stuckLoopsHoldNothing() {
        CHECK.sentence("A loop may be STUCK at 0 or 1: its bits are that, whatever is written.");
        int[] loops = {0, 31, 32, 63, 68};
        for (int v = 0; v < 2; v++) {
            BubbleBox box = new BubbleBox();
            for (int loop : loops) {
                box.stuck(loop, v);
            }
            box.format();
            box.queue(50, true, -1L);
            box.queue(51, true, 0x123456789ABCDEF0L);
            box.serve();
            CHECK.is("page of ones", Boxes.onChip(box, 50), -1L);
            CHECK.is("page of a pattern", Boxes.onChip(box, 51), 0x123456789ABCDEF0L);
            CHECK.is("page of zeros", Boxes.onChip(box, 52), 0);
        }
    }

    private static void noMapAtFirst() {
        CHECK.sentence("A BOOT LOOP may have a MAP, at first none: a bit for each loop, "
                + "64 of them 1.");
        BubbleBox box = new BubbleBox();
        CHECK.is("mount() without a map", box.mount(), false);
        box.stuck(0, 0);
        CHECK.is("format()", box.format(), true);
        CHECK.illegalState("stuck(0, 0) with a map", () -> box.stuck(0, 0));
    }

    private static void pagesHave64Bits() {
        CHECK.sentence("PAGE k, 0 .. 100, has 64 bits: bit i lies at place k of the i-th loop "
                + "(from 0) that has a 1 in the map");
        BubbleBox box = Boxes.formatted();
        long[] patterns = {1L, Long.MIN_VALUE, 1L << 31, 1L << 32, -1L, Long.MAX_VALUE};
        for (long bits : patterns) {
            box.queue(40, true, bits);
            box.queue(100, true, ~bits);
            box.serve();
            CHECK.is("page 40", Boxes.onChip(box, 40), bits);
            CHECK.is("page 100", Boxes.onChip(box, 100), ~bits);
        }
        CHECK.is("page 41", Boxes.onChip(box, 41), 0);
        CHECK.is("page 99", Boxes.onChip(box, 99), 0);
    }

    private static void bytesOfAPage() {
        CHECK.sentence("byte j of it has the bits 8 j .. 8 j + 7.");
        BubbleBox box = Boxes.formatted();
        box.create(1);
        for (int j = 0; j < 8; j++) {
            box.append(0, 1 << j);
        }
        box.sync();
        CHECK.is("the page", Boxes.onChip(box, 40), 0x8040201008040201L);
    }

    private static void transferWithoutSteps() {
        CHECK.sentence("A TRANSFER of a page, reading or writing it, takes as many steps as are "
                + "needed until P is k, and then none.");
        BubbleBox box = Boxes.formatted();
        Boxes.turnTo(box, 70);
        box.queue(70, false, 0);
        CHECK.is("serve() that reads at P", box.serve(), 0);
        box.queue(70, true, 5);
        CHECK.is("serve() that writes at P", box.serve(), 0);
        CHECK.is("what that wrote", Boxes.onChip(box, 70), 5);
    }

    private static void transferAlmostRound() {
        CHECK.sentence("takes as many steps as are needed until P is k, and then none.");
        BubbleBox box = Boxes.formatted();
        Boxes.turnTo(box, 70);
        box.queue(69, false, 0);
        CHECK.is("serve() that reads behind P", box.serve(), 100);
        box.queue(68, true, 5);
        CHECK.is("serve() that writes behind P", box.serve(), 100);
    }

    private static void boxAtFirst() {
        CHECK.sentence("at first it is on and not mounted.");
        BubbleBox box = new BubbleBox();
        CHECK.is("state()", box.state(), 1);
        CHECK.illegalState("free()", () -> box.free());
        CHECK.is("format() of a box that is on", box.format(), true);
    }

    private static void powerAtFirst() {
        CHECK.sentence("POWER lasts for some more transfers, at first without end.");
        BubbleBox box = Boxes.formatted();
        for (int n = 0; n < 500; n++) {
            box.sync();
        }
        CHECK.is("state() after 10020 transfers", box.state(), 2);
    }

    private static void powerForAllThatIsNeeded() {
        CHECK.sentence("If a call needs one more than that, it ends there");
        BubbleBox box = Boxes.formatted();
        box.queue(40, true, 1);
        box.queue(60, true, 2);
        box.power(2);
        CHECK.is("serve() of two with power for two", box.serve(), 60);
        CHECK.is("state()", box.state(), 2);
        box.queue(60, false, 0);
        CHECK.illegalState("serve() of one more, at P", () -> box.serve());
        CHECK.is("state() then", box.state(), 0);
    }

    private static void powerForOneTooFew() {
        CHECK.sentence("the box is off, what was done on the chip (and steps) stays, all else is "
                + "forgotten, and the call throws IllegalStateException.");
        BubbleBox box = Boxes.formatted();
        box.power(20);
        box.sync();
        CHECK.is("state() with power used up", box.state(), 2);
        CHECK.is("free() needs no transfer", box.free(), 61);
        CHECK.is("create(4) needs no transfer", box.create(4), 0);
        CHECK.is("append() to a new page needs no transfer", box.append(0, 1), 1);
        CHECK.is("byteAt() in the window needs no transfer", box.byteAt(0, 0), 1);
        CHECK.illegalState("sync() without power", () -> box.sync());
        CHECK.is("state() then", box.state(), 0);
    }

    /** The transfer that finds no power takes no step; those before it stay on the chip. */
    private static void powerLeavesTheChip() {
        CHECK.sentence("what was done on the chip (and steps) stays");
        BubbleBox box = Boxes.formatted();
        box.queue(40, true, 11);
        box.queue(60, true, 22);
        box.queue(80, true, 33);
        box.power(2);
        CHECK.illegalState("serve() of three with power for two", () -> box.serve());
        CHECK.is("steps() then", box.steps(), 303 + 60);
        CHECK.is("mount()", box.mount(), true);
        CHECK.is("steps() with P on to 0 and 39 pages more", box.steps(), 303 + 60 + 41 + 39);
        CHECK.is("first page", Boxes.onChip(box, 40), 11);
        CHECK.is("second page", Boxes.onChip(box, 60), 22);
        CHECK.is("third page", Boxes.onChip(box, 80), 0);
    }

    private static void powerTakesAllElse() {
        CHECK.sentence("all else is forgotten");
        BubbleBox box = Boxes.withFile(3);
        box.sync();
        box.append(0, 4);
        box.create(2);
        box.queue(90, false, 0);
        box.serve();
        box.queue(91, true, 7);
        Boxes.loseAllPower(box);
        CHECK.is("mount()", box.mount(), true);
        CHECK.is("length(0)", box.length(0), 3);
        CHECK.is("find(2)", box.find(2), BubbleBox.NONE);
        CHECK.is("free() with one page in a file", box.free(), 60);
        CHECK.outOfBounds("served(0)", () -> box.served(0));
        CHECK.is("serve() of nothing", box.serve(), 0);
        CHECK.is("page 91", Boxes.onChip(box, 91), 0);
    }

    private static void numbersOfFiles() {
        CHECK.sentence("FILES are numbered 0 .. 7.");
        BubbleBox box = Boxes.formatted();
        for (int file = 0; file < 8; file++) {
            CHECK.is("create()", box.create(10 + file), file);
            CHECK.is("append()", box.append(file, 30 + file), 1);
        }
        CHECK.is("byteAt(7, 0)", box.byteAt(7, 0), 37);
        CHECK.illegalArgument("length(8)", () -> box.length(8));
        CHECK.illegalArgument("length(-1)", () -> box.length(-1));
        box.sync();
        box.mount();
        CHECK.is("byteAt(0, 0) after mount()", box.byteAt(0, 0), 30);
        CHECK.is("byteAt(7, 0) after mount()", box.byteAt(7, 0), 37);
    }

    private static void namesOfFiles() {
        CHECK.sentence("A file has a NAME, an int other than 0");
        BubbleBox box = Boxes.formatted();
        int[] names = {Integer.MIN_VALUE, Integer.MAX_VALUE, -1, 1, 0x01020304, 1 << 24, 256};
        for (int file = 0; file < names.length; file++) {
            CHECK.is("create(" + names[file] + ")", box.create(names[file]), file);
        }
        CHECK.illegalArgument("create(0)", () -> box.create(0));
        box.sync();
        box.mount();
        for (int file = 0; file < names.length; file++) {
            CHECK.is("find(" + names[file] + ")", box.find(names[file]), file);
        }
    }

    private static void pagesBegun() {
        CHECK.sentence("a chain of pages, one for each 8 bytes begun");
        int[] lengths = {0, 1, 7, 8, 9, 15, 16, 17};
        int[] pages = {0, 1, 1, 1, 2, 2, 2, 3};
        for (int n = 0; n < lengths.length; n++) {
            BubbleBox box = Boxes.withFile(lengths[n]);
            String of = " of " + lengths[n] + " bytes";
            CHECK.is("free() but for pages" + of, box.free(), 61 - pages[n]);
            CHECK.is("page behind the chain" + of, box.pageOf(0, pages[n]), BubbleBox.NONE);
            CHECK.is("remove()" + of, box.remove(0), pages[n]);
        }
    }

    private static void placesOfBytes() {
        CHECK.sentence("byte i is byte i % 8 of the page at i / 8 in the chain");
        BubbleBox box = Boxes.withFile(17);
        box.sync();
        CHECK.is("first page", Boxes.onChip(box, 40), 0x0807060504030201L);
        CHECK.is("second page", Boxes.onChip(box, 41), 0x100F0E0D0C0B0A09L);
        CHECK.is("third page", Boxes.onChip(box, 42), 0x11);
        CHECK.is("byteAt(0, 0)", box.byteAt(0, 0), 1);
        CHECK.is("byteAt(0, 7)", box.byteAt(0, 7), 8);
        CHECK.is("byteAt(0, 8)", box.byteAt(0, 8), 9);
        CHECK.is("byteAt(0, 15)", box.byteAt(0, 15), 16);
        CHECK.is("byteAt(0, 16)", box.byteAt(0, 16), 17);
    }

    private static void savedWindowIsNotChanged() {
        CHECK.sentence("SAVING a window that is changed: a transfer writes its bits; "
                + "it is not changed then.");
        BubbleBox box = Boxes.withFile(2);
        CHECK.is("page in the window only", Boxes.onChip(box, 40), 0);
        box.power(21);
        box.sync();
        CHECK.is("state() with 21 transfers", box.state(), 2);
        box.power(20);
        box.sync();
        CHECK.is("state() with 20 transfers, none to save", box.state(), 2);
        box.power(-1);
        CHECK.is("page saved", Boxes.onChip(box, 40), 0x0201);
    }

    private static void loadingWhatTheWindowHolds() {
        CHECK.sentence("LOADING a page of a file: nothing when the window holds it");
        BubbleBox box = Boxes.withFile(10);
        box.power(0);
        long before = box.steps();
        CHECK.is("byteAt() in a changed window", box.byteAt(0, 8), 9);
        CHECK.is("append() to a changed window", box.append(0, 11), 11);
        CHECK.is("byteAt() of what that put there", box.byteAt(0, 10), 11);
        CHECK.is("steps of these", box.steps() - before, 0);
        box.power(2);
        box.byteAt(0, 0);
        CHECK.is("byteAt() in a window not changed", box.byteAt(0, 7), 8);
        CHECK.is("state()", box.state(), 2);
    }

    private static void loadingSavesChangedWindows() {
        CHECK.sentence("otherwise the window is saved, if it is changed, and a transfer reads the "
                + "page into it, not changed.");
        BubbleBox box = Boxes.withFile(10);
        long before = box.steps();
        box.power(2);
        CHECK.is("byteAt() of another page", box.byteAt(0, 3), 4);
        CHECK.is("steps to save 41 and read 40", box.steps() - before, 1 + 100);
        CHECK.illegalState("byteAt() with both transfers made", () -> box.byteAt(0, 9));
        box.mount();
        CHECK.is("page saved", Boxes.onChip(box, 41), 0x0A09);
    }

    /** Each file has a window of its own, and loading saves only that. */
    private static void loadingLeavesOtherWindowsUnsaved() {
        CHECK.sentence("and a WINDOW: that holds one of its pages with 64 bits, CHANGED or not, "
                + "or none.");
        BubbleBox box = Boxes.withFile(9);
        box.create(2);
        box.append(1, 99);
        box.power(2);
        CHECK.is("byteAt(0, 0)", box.byteAt(0, 0), 1);
        CHECK.is("byteAt(1, 0) in the other window", box.byteAt(1, 0), 99);
        box.power(1);
        CHECK.is("page of the other file", Boxes.onChip(box, 42), 0);
        box.power(21);
        box.sync();
        CHECK.is("state() with one window saved", box.state(), 2);
    }

    private static void loadedWindowIsNotChanged() {
        CHECK.sentence("a transfer reads the page into it, not changed.");
        BubbleBox box = Boxes.withFile(10);
        box.byteAt(0, 0);
        box.power(1);
        CHECK.is("byteAt() with one transfer", box.byteAt(0, 9), 10);
        box.power(20);
        box.sync();
        CHECK.is("state() with none to save", box.state(), 2);
    }

    private static void heldInTheCurrentImage() {
        CHECK.sentence("HELD are the pages that were in files in the current image.");
        BubbleBox box = Boxes.withFile(24);
        box.truncate(0, 16);
        CHECK.is("free() with none held", box.free(), 59);
        Boxes.fill(box, 0, 8, 1);
        box.sync();
        box.truncate(0, 8);
        CHECK.is("free() with two pages held that went", box.free(), 58);
        box.remove(0);
        CHECK.is("free() with all three held", box.free(), 58);
        box.sync();
        CHECK.is("free() with none held again", box.free(), 61);
    }

    private static void heldAfterMounting() {
        CHECK.sentence("HELD are the pages that were in files in the current image.");
        BubbleBox box = Boxes.withFile(12);
        box.sync();
        box.mount();
        box.remove(0);
        CHECK.is("free() with two held", box.free(), 59);
        box.create(2);
        box.append(0, 1);
        CHECK.is("pageOf(0, 0) behind the held ones", box.pageOf(0, 0), 42);
        box.format();
        CHECK.is("free() with none held after format()", box.free(), 61);
    }

    private static void heldAfterTornSync() {
        CHECK.sentence("HELD are the pages that were in files in the current image.");
        BubbleBox box = Boxes.withFile(12);
        box.sync();
        box.remove(0);
        Boxes.losePower(box, 19);
        box.mount();
        CHECK.is("length(0)", box.length(0), 12);
        box.remove(0);
        CHECK.is("free() with two held still", box.free(), 59);
        box.sync();
        CHECK.is("free() with none held", box.free(), 61);
    }

    private static void heldUntilTheImageIsCurrent() {
        CHECK.sentence("HELD are the pages that were in files in the current image.");
        BubbleBox box = Boxes.withFile(2);
        box.sync();
        box.append(0, 3);
        CHECK.is("pageOf(0, 0) not the held one", box.pageOf(0, 0), 41);
        box.append(0, 4);
        CHECK.is("pageOf(0, 0) not held yet", box.pageOf(0, 0), 41);
        box.sync();
        box.append(0, 5);
        CHECK.is("pageOf(0, 0) when 41 is held", box.pageOf(0, 0), 40);
    }

    private static void freeFromPage40On() {
        CHECK.sentence("FREE are the pages from 40 on that are in no file and not held.");
        CHECK.is("free() without files", Boxes.formatted().free(), 61);
        BubbleBox box = Boxes.withFile(488);
        CHECK.is("the first page", box.pageOf(0, 0), 40);
        CHECK.is("the last page", box.pageOf(0, 60), 100);
        CHECK.is("free() of a full box", box.free(), 0);
        CHECK.is("truncate(0, 480)", box.truncate(0, 480), 1);
        CHECK.is("free() then", box.free(), 1);
        CHECK.is("truncate(0, 473)", box.truncate(0, 473), 0);
        CHECK.is("free() with the page begun", box.free(), 1);
    }
}
