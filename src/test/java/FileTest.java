/** Promises 8 to 14, 16 and 17: files, their bytes and their pages. */
public final class FileTest {
    private static final Check CHECK = new Check();
    /** With file 1 alone in the box. */
    private static final int[] NO_FILES = {-1, 0, 2, 7, 8, Integer.MIN_VALUE, Integer.MAX_VALUE};

    public static void main(String[] args) {
        creates();
        finds();
        lengths();
        appends();
        bytes();
        truncates();
        removes();
        frees();
        pages();
        CHECK.end();
    }

    private static void creates() {
        createTakesTheLeastNumber();
        createOfNoBytes();
        createWhenNotMounted();
        createNameless();
        createNamedAsAnother();
        createOfANinth();
    }

    private static void finds() {
        findAnswers();
        findOfNone();
        findWhenNotMounted();
    }

    private static void lengths() {
        lengthFollows();
        lengthWhenNotMounted();
        lengthOfNoFile();
    }

    private static void appends() {
        appendTakesTheLowestBits();
        appendAnswersTheLength();
        appendSavesTheWindow();
        appendWithWindowGone();
        appendWithWindowNotChanged();
        appendTakesTheLeastFreePage();
        appendBeginsWithBits0();
        appendLoadsTheLastPage();
        appendLeavesAHeldPage();
        appendLeavesAHeldPageLoaded();
        appendToAHeldPageWithPagesBehindGone();
        appendKeepsAPageNotHeld();
        appendInTheMiddleOfAChain();
        appendChangesTheWindow();
        appendWhenNotMounted();
        appendToNoFile();
        appendWithoutFreePage();
        appendWithoutFreePageForHeld();
        appendWithoutNeedOfAFreePage();
        appendWithoutPower();
    }

    private static void bytes() {
        byteAtAnswers();
        byteAtLoads();
        byteAtWhenNotMounted();
        byteAtOfNoFile();
        byteAtOfNoByte();
    }

    private static void truncates() {
        truncateKeepsPages();
        truncateToAll();
        truncateToNone();
        truncateTakesWindows();
        truncateKeepsWindows();
        truncateKeepsOldBytes();
        truncateWhenNotMounted();
        truncateOfNoFile();
        truncateToWrongLengths();
    }

    private static void removes() {
        removeAnswers();
        removeOfNoBytes();
        removeTakesTheWindow();
        removeThenCreate();
        removeWhenNotMounted();
        removeOfNoFile();
    }

    private static void frees() {
        freeCounts();
        freeOfAFullBox();
        freeWhenNotMounted();
    }

    private static void pages() {
        pageOfAnswers();
        pageOfNoPlace();
        pageOfWhenNotMounted();
        pageOfNoFile();
    }

    private static BubbleBox withFile1Alone() {
        BubbleBox box = Boxes.formatted();
        box.create(1);
        box.create(2);
        box.append(1, 1);
        box.remove(0);
        return box;
    }

    // ---- promise 8

    private static void createTakesTheLeastNumber() {
        CHECK.sentence("with the least number that no file has: that.");
        BubbleBox box = Boxes.formatted();
        for (int file = 0; file < 8; file++) {
            CHECK.is("create() " + file, box.create(100 + file), file);
        }
        box.remove(7);
        box.remove(5);
        box.remove(2);
        CHECK.is("create() with 2, 5 and 7 gone", box.create(108), 2);
        CHECK.is("create() with 5 and 7 gone", box.create(102), 5);
        CHECK.is("create() with 7 gone", box.create(109), 7);
        box.remove(0);
        CHECK.is("create() with 0 gone", box.create(110), 0);
    }

    private static void createOfNoBytes() {
        CHECK.sentence("A new file of no bytes");
        BubbleBox box = Boxes.formatted();
        box.power(0);
        box.create(1);
        CHECK.is("length(0)", box.length(0), 0);
        CHECK.is("pageOf(0, 0)", box.pageOf(0, 0), BubbleBox.NONE);
        CHECK.is("free()", box.free(), 61);
        CHECK.is("state() without a transfer", box.state(), 2);
    }

    private static void createWhenNotMounted() {
        CHECK.sentence("IllegalStateException: the box is not mounted; IllegalArgumentException: "
                + "name is 0");
        for (BubbleBox box : Boxes.notMounted()) {
            CHECK.illegalState("create(1) in state " + box.state(), () -> box.create(1));
            CHECK.illegalState("create(0) in state " + box.state(), () -> box.create(0));
        }
    }

    private static void createNameless() {
        CHECK.sentence("IllegalArgumentException: name is 0");
        BubbleBox box = Boxes.formatted();
        CHECK.illegalArgument("create(0)", () -> box.create(0));
        CHECK.is("create(-1)", box.create(-1), 0);
        CHECK.is("create(1)", box.create(1), 1);
        CHECK.illegalArgument("create(0) with files", () -> box.create(0));
    }

    private static void createNamedAsAnother() {
        CHECK.sentence("name is 0, or a file's");
        BubbleBox box = Boxes.formatted();
        box.create(Integer.MIN_VALUE);
        box.create(Integer.MAX_VALUE);
        CHECK.illegalArgument("create(least)", () -> box.create(Integer.MIN_VALUE));
        CHECK.illegalArgument("create(most)", () -> box.create(Integer.MAX_VALUE));
        box.remove(0);
        CHECK.illegalArgument("create(most) with 0 gone", () -> box.create(Integer.MAX_VALUE));
        CHECK.is("create(least), no file's now", box.create(Integer.MIN_VALUE), 0);
    }

    private static void createOfANinth() {
        CHECK.sentence("UnsupportedOperationException: there are 8.");
        BubbleBox box = Boxes.formatted();
        for (int file = 0; file < 7; file++) {
            box.create(100 + file);
        }
        CHECK.is("create() of an eighth", box.create(107), 7);
        CHECK.unsupported("create() of a ninth", () -> box.create(108));
        CHECK.is("find() of it", box.find(108), BubbleBox.NONE);
        CHECK.illegalArgument("create() of a name with 8 files", () -> box.create(107));
        CHECK.illegalArgument("create(0) with 8 files", () -> box.create(0));
        box.sync();
        box.mount();
        CHECK.unsupported("create() of a ninth after mount()", () -> box.create(108));
        box.remove(7);
        CHECK.is("create() with 7 gone", box.create(108), 7);
    }

    // ---- promise 9

    private static void findAnswers() {
        CHECK.sentence("The number of the file with a name; NONE.");
        BubbleBox box = Boxes.formatted();
        for (int file = 0; file < 8; file++) {
            box.create(file % 2 == 0 ? 7 + file : -7 - file);
        }
        CHECK.is("find() of the first", box.find(7), 0);
        CHECK.is("find() below 0", box.find(-8), 1);
        CHECK.is("find() of the last", box.find(-14), 7);
        box.remove(0);
        box.create(99);
        CHECK.is("find() of a number used again", box.find(99), 0);
        CHECK.is("find() of the name before", box.find(7), -1);
    }

    private static void findOfNone() {
        CHECK.sentence("The number of the file with a name; NONE.");
        BubbleBox box = Boxes.formatted();
        CHECK.is("find(0) without files", box.find(0), -1);
        CHECK.is("find(7) without files", box.find(7), -1);
        box.create(7);
        CHECK.is("find(0)", box.find(0), -1);
        CHECK.is("find(-7)", box.find(-7), -1);
        CHECK.is("find(7 + 256)", box.find(7 + 256), -1);
        box.remove(0);
        CHECK.is("find(7) of what is gone", box.find(7), -1);
    }

    private static void findWhenNotMounted() {
        CHECK.sentence("NONE. IllegalStateException: the box is not mounted.");
        for (BubbleBox box : Boxes.notMounted()) {
            CHECK.illegalState("find(1) in state " + box.state(), () -> box.find(1));
            CHECK.illegalState("find(0) in state " + box.state(), () -> box.find(0));
        }
    }

    // ---- promise 10

    private static void lengthFollows() {
        CHECK.sentence("a LENGTH, in bytes");
        BubbleBox box = Boxes.formatted();
        box.create(1);
        CHECK.is("length(0) new", box.length(0), 0);
        for (int n = 1; n <= 17; n++) {
            box.append(0, n);
            CHECK.is("length(0)", box.length(0), n);
        }
        box.truncate(0, 4);
        CHECK.is("length(0) cut", box.length(0), 4);
        CHECK.is("length(0) of the longest", Boxes.withFile(488).length(0), 488);
    }

    private static void lengthWhenNotMounted() {
        CHECK.sentence("IllegalStateException: the box is not mounted; IllegalArgumentException: "
                + "there is no such file.");
        for (BubbleBox box : Boxes.notMounted()) {
            CHECK.illegalState("length(0) in state " + box.state(), () -> box.length(0));
            CHECK.illegalState("length(8) in state " + box.state(), () -> box.length(8));
        }
    }

    private static void lengthOfNoFile() {
        CHECK.sentence("IllegalArgumentException: there is no such file.");
        BubbleBox box = withFile1Alone();
        for (int file : NO_FILES) {
            CHECK.illegalArgument("length(" + file + ")", () -> box.length(file));
        }
        CHECK.is("length(1)", box.length(1), 1);
    }

    // ---- promise 11

    private static void appendTakesTheLowestBits() {
        CHECK.sentence("The lowest eight bits of b behind a file's bytes");
        BubbleBox box = Boxes.formatted();
        box.create(1);
        int[] bytes = {-1, 256, 0x12345678, Integer.MIN_VALUE, 128, 255, -129, 0x7F00 + 1};
        int[] due = {255, 0, 0x78, 0, 128, 255, 127, 1};
        for (int b : bytes) {
            box.append(0, b);
        }
        for (int i = 0; i < due.length; i++) {
            CHECK.is("byteAt(0, " + i + ")", box.byteAt(0, i), due[i]);
        }
        box.sync();
        CHECK.is("the page", Boxes.onChip(box, 40), 0x017FFF80007800FFL);
    }

    private static void appendAnswersTheLength() {
        CHECK.sentence("behind a file's bytes: its length then.");
        BubbleBox box = Boxes.formatted();
        box.create(1);
        for (int n = 1; n <= 17; n++) {
            CHECK.is("append() " + n, box.append(0, n), n);
        }
        box.sync();
        CHECK.is("append() to a held page", box.append(0, 1), 18);
    }

    private static void appendSavesTheWindow() {
        CHECK.sentence("When its length is a multiple of 8, the window is saved, if it is changed");
        BubbleBox box = Boxes.withFile(8);
        CHECK.is("steps() with a page in the window", box.steps(), 303);
        CHECK.is("append() of a second page", box.append(0, 9), 9);
        CHECK.is("steps() with the window saved", box.steps(), 303 + 40);
        CHECK.is("the page", Boxes.onChip(box, 40), 0x0807060504030201L);
        CHECK.is("the page in the window", Boxes.onChip(box, 41), 0);
    }

    private static void appendWithWindowGone() {
        CHECK.sentence("When its length is a multiple of 8, the window is saved, if it is changed");
        BubbleBox box = Boxes.withFile(12);
        box.truncate(0, 8);
        long before = box.steps();
        box.power(0);
        CHECK.is("append() with no page in the window", box.append(0, 99), 9);
        CHECK.is("steps of that", box.steps() - before, 0);
        CHECK.is("pageOf(0, 1)", box.pageOf(0, 1), 41);
    }

    private static void appendWithWindowNotChanged() {
        CHECK.sentence("the window is saved, if it is changed");
        BubbleBox box = Boxes.withFile(8);
        box.sync();
        box.power(0);
        CHECK.is("append() with a page saved before", box.append(0, 9), 9);
        CHECK.is("append() to a file of no bytes", appendToNew(box), 1);
        CHECK.is("state()", box.state(), 2);
        BubbleBox other = Boxes.withFile(16);
        other.byteAt(0, 0);
        other.power(0);
        CHECK.is("append() with another page loaded", other.append(0, 17), 17);
        CHECK.is("byteAt(0, 16)", other.byteAt(0, 16), 17);
    }

    private static int appendToNew(BubbleBox box) {
        return box.append(box.create(55), 1);
    }

    private static void appendTakesTheLeastFreePage() {
        CHECK.sentence("the least free page comes behind its chain");
        BubbleBox box = Boxes.withFile(8);
        box.create(2);
        box.append(1, 1);
        Boxes.fill(box, 0, 8, 0);
        CHECK.is("pageOf(0, 0)", box.pageOf(0, 0), 40);
        CHECK.is("pageOf(1, 0)", box.pageOf(1, 0), 41);
        CHECK.is("pageOf(0, 1)", box.pageOf(0, 1), 42);
        box.remove(1);
        box.append(0, 5);
        CHECK.is("pageOf(0, 2) in the gap", box.pageOf(0, 2), 41);
        CHECK.is("byteAt(0, 16)", box.byteAt(0, 16), 5);
        CHECK.is("byteAt(0, 8)", box.byteAt(0, 8), 0);
    }

    private static void appendBeginsWithBits0() {
        CHECK.sentence("and the window holds that, with bits 0.");
        BubbleBox box = Boxes.formatted();
        box.queue(40, true, -1L);
        box.queue(41, true, -1L);
        box.serve();
        box.create(1);
        Boxes.fill(box, 0, 9, 1);
        box.sync();
        CHECK.is("first page", Boxes.onChip(box, 40), 0x0807060504030201L);
        CHECK.is("second page", Boxes.onChip(box, 41), 9);
    }

    private static void appendLoadsTheLastPage() {
        CHECK.sentence("Otherwise its last page is loaded");
        BubbleBox box = Boxes.withFile(10);
        box.byteAt(0, 0);
        long before = box.steps();
        box.power(1);
        CHECK.is("append() with a load", box.append(0, 11), 11);
        CHECK.is("steps of that", box.steps() - before, 1);
        CHECK.is("append() without", box.append(0, 12), 12);
        CHECK.is("pageOf(0, 1) as before", box.pageOf(0, 1), 41);
        CHECK.illegalState("byteAt(0, 0): one transfer to save", () -> box.byteAt(0, 0));
    }

    private static void appendLeavesAHeldPage() {
        CHECK.sentence("if that is held, the least free page takes its place in the chain, and "
                + "the window holds that, with the same bits.");
        BubbleBox box = Boxes.withFile(3);
        box.sync();
        long before = box.steps();
        CHECK.is("append() to a held page", box.append(0, 4), 4);
        CHECK.is("steps of that", box.steps() - before, 0);
        CHECK.is("pageOf(0, 0)", box.pageOf(0, 0), 41);
        CHECK.is("free() with 40 held", box.free(), 59);
        for (int i = 0; i < 4; i++) {
            CHECK.is("byteAt(0, " + i + ")", box.byteAt(0, i), i + 1);
        }
        CHECK.is("steps of these", box.steps() - before, 0);
        box.sync();
        CHECK.is("the old page", Boxes.onChip(box, 40), 0x030201);
        CHECK.is("the new page", Boxes.onChip(box, 41), 0x04030201L);
        CHECK.is("free() with 40 left", box.free(), 60);
    }

    private static void appendLeavesAHeldPageLoaded() {
        CHECK.sentence("its last page is loaded; if that is held");
        BubbleBox box = Boxes.withFile(5);
        box.sync();
        box.mount();
        long before = box.steps();
        box.power(1);
        CHECK.is("append() after mount()", box.append(0, 6), 6);
        CHECK.is("steps to load 40", box.steps() - before, 1);
        CHECK.is("pageOf(0, 0)", box.pageOf(0, 0), 41);
        CHECK.is("byteAt(0, 4)", box.byteAt(0, 4), 5);
        CHECK.is("byteAt(0, 5)", box.byteAt(0, 5), 6);
        CHECK.is("state()", box.state(), 2);
    }

    private static void appendToAHeldPageWithPagesBehindGone() {
        CHECK.sentence("its last page is loaded; if that is held");
        BubbleBox box = Boxes.withFile(12);
        box.sync();
        box.truncate(0, 4);
        box.power(1);
        CHECK.is("append() that loads page 40", box.append(0, 55), 5);
        CHECK.is("pageOf(0, 0)", box.pageOf(0, 0), 42);
        CHECK.is("free() with 40 and 41 held", box.free(), 58);
        Boxes.fill(box, 0, 3, 56);
        box.power(1);
        CHECK.is("append() behind the changed page", box.append(0, 59), 9);
        CHECK.is("pageOf(0, 1)", box.pageOf(0, 1), 43);
        box.power(2);
        CHECK.is("byteAt(0, 3)", box.byteAt(0, 3), 4);
        CHECK.is("byteAt(0, 4)", box.byteAt(0, 4), 55);
    }

    private static void appendKeepsAPageNotHeld() {
        CHECK.sentence("if that is held, the least free page takes its place in the chain");
        BubbleBox box = Boxes.withFile(3);
        box.append(0, 4);
        CHECK.is("pageOf(0, 0) never synced", box.pageOf(0, 0), 40);
        box.sync();
        box.append(0, 5);
        box.append(0, 6);
        CHECK.is("pageOf(0, 0) moved once", box.pageOf(0, 0), 41);
        box.truncate(0, 5);
        box.append(0, 7);
        CHECK.is("pageOf(0, 0) as before", box.pageOf(0, 0), 41);
        CHECK.is("free()", box.free(), 59);
    }

    private static void appendInTheMiddleOfAChain() {
        CHECK.sentence("the least free page takes its place in the chain");
        BubbleBox box = Boxes.withFile(20);
        box.sync();
        box.append(0, 21);
        CHECK.is("pageOf(0, 0)", box.pageOf(0, 0), 40);
        CHECK.is("pageOf(0, 1)", box.pageOf(0, 1), 41);
        CHECK.is("pageOf(0, 2)", box.pageOf(0, 2), 43);
        CHECK.is("pageOf(0, 3)", box.pageOf(0, 3), BubbleBox.NONE);
        box.truncate(0, 12);
        box.append(0, 90);
        CHECK.is("pageOf(0, 1) cut and held", box.pageOf(0, 1), 43);
        CHECK.is("pageOf(0, 2)", box.pageOf(0, 2), BubbleBox.NONE);
        CHECK.is("byteAt(0, 7)", box.byteAt(0, 7), 8);
        CHECK.is("byteAt(0, 11)", box.byteAt(0, 11), 12);
        CHECK.is("byteAt(0, 12)", box.byteAt(0, 12), 90);
        CHECK.is("free() with 41 and 42 held", box.free(), 57);
    }

    private static void appendChangesTheWindow() {
        CHECK.sentence("The byte is put into the window, which is changed then.");
        BubbleBox box = Boxes.withFile(10);
        box.byteAt(0, 0);
        box.append(0, 11);
        box.power(2);
        CHECK.is("byteAt() that saves and reads", box.byteAt(0, 0), 1);
        CHECK.illegalState("byteAt() with both transfers made", () -> box.byteAt(0, 10));
        box.mount();
        CHECK.is("the page", Boxes.onChip(box, 41), 0x0B0A09);
    }

    private static void appendWhenNotMounted() {
        CHECK.sentence("IllegalStateException: the box is not mounted; IllegalArgumentException: "
                + "there is no such file; UnsupportedOperationException");
        for (BubbleBox box : Boxes.notMounted()) {
            CHECK.illegalState("append(0, 1) in state " + box.state(), () -> box.append(0, 1));
            CHECK.illegalState("append(8, 1) in state " + box.state(), () -> box.append(8, 1));
        }
    }

    private static void appendToNoFile() {
        CHECK.sentence("there is no such file; UnsupportedOperationException: a free page");
        BubbleBox box = withFile1Alone();
        for (int file : NO_FILES) {
            CHECK.illegalArgument("append(" + file + ", 0)", () -> box.append(file, 0));
        }
        CHECK.is("free()", box.free(), 60);
        BubbleBox full = Boxes.withFile(488);
        CHECK.illegalArgument("append(1, 0) with no page free", () -> full.append(1, 0));
    }

    private static void appendWithoutFreePage() {
        CHECK.sentence("UnsupportedOperationException: a free page is needed, and there is none "
                + "(no transfer is made).");
        BubbleBox box = Boxes.withFile(487);
        box.create(2);
        CHECK.is("append() to the last page", box.append(0, 1), 488);
        box.power(0);
        long before = box.steps();
        CHECK.unsupported("append() behind a changed page", () -> box.append(0, 1));
        CHECK.unsupported("append() to a new file", () -> box.append(1, 1));
        CHECK.is("length(0)", box.length(0), 488);
        CHECK.is("length(1)", box.length(1), 0);
        CHECK.is("pageOf(0, 61)", box.pageOf(0, 61), BubbleBox.NONE);
        CHECK.is("state()", box.state(), 2);
        CHECK.is("steps of these", box.steps() - before, 0);
        CHECK.is("byteAt(0, 487) in the window still", box.byteAt(0, 487), 1);
    }

    private static void appendWithoutFreePageForHeld() {
        CHECK.sentence("a free page is needed, and there is none (no transfer is made).");
        BubbleBox box = Boxes.withFile(481);
        box.sync();
        box.byteAt(0, 0);
        long before = box.steps();
        box.power(0);
        CHECK.unsupported("append() to a held page", () -> box.append(0, 1));
        CHECK.is("steps of that", box.steps() - before, 0);
        CHECK.is("state()", box.state(), 2);
        CHECK.is("byteAt(0, 7) in the window still", box.byteAt(0, 7), 8);
        CHECK.is("truncate() to held pages", box.truncate(0, 1), 60);
        CHECK.unsupported("append() with all held still", () -> box.append(0, 1));
        CHECK.is("length(0)", box.length(0), 1);
        box.power(-1);
        box.sync();
        CHECK.is("append() after sync()", box.append(0, 9), 2);
        CHECK.is("pageOf(0, 0)", box.pageOf(0, 0), 41);
    }

    private static void appendWithoutNeedOfAFreePage() {
        CHECK.sentence("a free page is needed, and there is none");
        BubbleBox box = Boxes.withFile(482);
        CHECK.is("free()", box.free(), 0);
        CHECK.is("append() to a page begun", box.append(0, 77), 483);
        CHECK.is("byteAt(0, 482)", box.byteAt(0, 482), 77);
        CHECK.is("pageOf(0, 60)", box.pageOf(0, 60), 100);
    }

    private static void appendWithoutPower() {
        CHECK.sentence("If a call needs one more than that, it ends there");
        BubbleBox box = Boxes.formatted();
        box.create(1);
        box.sync();
        Boxes.fill(box, 0, 8, 0);
        box.power(0);
        CHECK.illegalState("append() that saves", () -> box.append(0, 1));
        CHECK.is("state()", box.state(), 0);
        CHECK.is("mount()", box.mount(), true);
        CHECK.is("length(0)", box.length(0), 0);
        Boxes.fill(box, 0, 10, 0);
        box.byteAt(0, 0);
        box.power(0);
        CHECK.illegalState("append() that loads", () -> box.append(0, 1));
        CHECK.is("state()", box.state(), 0);
    }

    // ---- promise 12

    private static void byteAtAnswers() {
        CHECK.sentence("Byte i of a file; its page is loaded.");
        BubbleBox box = Boxes.formatted();
        box.create(1);
        Boxes.fill(box, 0, 30, 240);
        for (int i = 29; i >= 0; i--) {
            CHECK.is("byteAt(0, " + i + ")", box.byteAt(0, i), (240 + i) % 256);
        }
    }

    private static void byteAtLoads() {
        CHECK.sentence("its page is loaded.");
        BubbleBox box = Boxes.withFile(10);
        long before = box.steps();
        box.byteAt(0, 8);
        CHECK.is("steps to the page in the window", box.steps() - before, 0);
        box.byteAt(0, 3);
        CHECK.is("steps to save 41 and read 40", box.steps() - before, 1 + 100);
        box.byteAt(0, 9);
        CHECK.is("steps to read 41", box.steps() - before, 1 + 100 + 1);
        box.power(1);
        box.byteAt(0, 0);
        CHECK.is("a window not changed is not saved", box.state(), 2);
        CHECK.illegalState("byteAt() without power", () -> box.byteAt(0, 9));
        CHECK.is("state()", box.state(), 0);
    }

    private static void byteAtWhenNotMounted() {
        CHECK.sentence("IllegalStateException: the box is not mounted; IllegalArgumentException: "
                + "there is no such file; IndexOutOfBoundsException");
        for (BubbleBox box : Boxes.notMounted()) {
            CHECK.illegalState("byteAt(0, 0) in state " + box.state(), () -> box.byteAt(0, 0));
            CHECK.illegalState("byteAt(8, -1) in state " + box.state(), () -> box.byteAt(8, -1));
        }
    }

    private static void byteAtOfNoFile() {
        CHECK.sentence("there is no such file; IndexOutOfBoundsException: no such byte.");
        BubbleBox box = withFile1Alone();
        for (int file : NO_FILES) {
            CHECK.illegalArgument("byteAt(" + file + ", 0)", () -> box.byteAt(file, 0));
            CHECK.illegalArgument("byteAt(" + file + ", -1)", () -> box.byteAt(file, -1));
        }
    }

    private static void byteAtOfNoByte() {
        CHECK.sentence("IndexOutOfBoundsException: no such byte.");
        BubbleBox box = Boxes.formatted();
        box.create(1);
        CHECK.outOfBounds("byteAt(0, 0) of no bytes", () -> box.byteAt(0, 0));
        CHECK.outOfBounds("byteAt(0, -1) of no bytes", () -> box.byteAt(0, -1));
        Boxes.fill(box, 0, 30, 1);
        box.power(0);
        int[] wrong = {-1, -8, 30, 31, 32, Integer.MIN_VALUE, Integer.MAX_VALUE};
        for (int i : wrong) {
            CHECK.outOfBounds("byteAt(0, " + i + ")", () -> box.byteAt(0, i));
        }
        CHECK.is("byteAt(0, 29)", box.byteAt(0, 29), 30);
        box.truncate(0, 29);
        CHECK.outOfBounds("byteAt(0, 29) cut off", () -> box.byteAt(0, 29));
        CHECK.is("byteAt(0, 28)", box.byteAt(0, 28), 29);
    }

    // ---- promise 13

    private static void truncateKeepsPages() {
        CHECK.sentence("A file keeps its first n bytes, and as many pages as these need");
        BubbleBox box = Boxes.withFile(33);
        box.power(0);
        CHECK.is("truncate(0, 32)", box.truncate(0, 32), 1);
        CHECK.is("truncate(0, 25)", box.truncate(0, 25), 0);
        CHECK.is("truncate(0, 9)", box.truncate(0, 9), 2);
        CHECK.is("length(0)", box.length(0), 9);
        CHECK.is("pageOf(0, 0)", box.pageOf(0, 0), 40);
        CHECK.is("pageOf(0, 1)", box.pageOf(0, 1), 41);
        CHECK.is("pageOf(0, 2)", box.pageOf(0, 2), BubbleBox.NONE);
        CHECK.is("free()", box.free(), 59);
        CHECK.is("truncate(0, 8)", box.truncate(0, 8), 1);
        CHECK.is("pageOf(0, 1)", box.pageOf(0, 1), BubbleBox.NONE);
        box.power(-1);
        for (int i = 0; i < 8; i++) {
            CHECK.is("byteAt(0, " + i + ")", box.byteAt(0, i), i + 1);
        }
    }

    private static void truncateToAll() {
        CHECK.sentence("How many pages went.");
        BubbleBox box = Boxes.withFile(16);
        CHECK.is("truncate(0, 16)", box.truncate(0, 16), 0);
        CHECK.is("length(0)", box.length(0), 16);
        CHECK.is("byteAt(0, 15)", box.byteAt(0, 15), 16);
        CHECK.is("truncate(0, 0)", box.truncate(0, 0), 2);
        CHECK.is("truncate(0, 0) of no bytes", box.truncate(0, 0), 0);
    }

    private static void truncateToNone() {
        CHECK.sentence("A file keeps its first n bytes, and as many pages as these need");
        BubbleBox box = Boxes.withFile(1);
        CHECK.is("truncate(0, 0)", box.truncate(0, 0), 1);
        CHECK.is("find() of the file still", box.find(1), 0);
        CHECK.is("length(0)", box.length(0), 0);
        CHECK.is("pageOf(0, 0)", box.pageOf(0, 0), BubbleBox.NONE);
        CHECK.is("free()", box.free(), 61);
        box.power(0);
        CHECK.is("append(0, 3)", box.append(0, 3), 1);
        CHECK.is("pageOf(0, 0) then", box.pageOf(0, 0), 40);
    }

    private static void truncateTakesWindows() {
        CHECK.sentence("a window with a page that goes holds none.");
        BubbleBox box = Boxes.withFile(12);
        box.truncate(0, 8);
        box.power(20);
        box.sync();
        CHECK.is("sync() saves no page that went", box.state(), 2);
        box.power(-1);
        CHECK.is("the page that went", Boxes.onChip(box, 41), 0);
        Boxes.turnTo(box, 41);
        long before = box.steps();
        CHECK.is("byteAt(0, 7)", box.byteAt(0, 7), 8);
        CHECK.is("steps to read it", box.steps() - before, 100);
    }

    private static void truncateKeepsWindows() {
        CHECK.sentence("a window with a page that goes holds none.");
        BubbleBox box = Boxes.withFile(12);
        box.truncate(0, 9);
        box.power(0);
        CHECK.is("byteAt(0, 8) in the window still", box.byteAt(0, 8), 9);
        box.power(21);
        box.sync();
        CHECK.is("sync() saves a page that stayed", box.state(), 2);
        box.power(-1);
        box.byteAt(0, 0);
        box.truncate(0, 8);
        box.power(0);
        CHECK.is("byteAt(0, 7) in the window of another page", box.byteAt(0, 7), 8);
    }

    private static void truncateKeepsOldBytes() {
        CHECK.sentence("The byte is put into the window, which is changed then.");
        BubbleBox box = Boxes.withFile(5);
        box.truncate(0, 2);
        box.append(0, 0x77);
        box.sync();
        CHECK.is("the page", Boxes.onChip(box, 40), 0x0504770201L);
    }

    private static void truncateWhenNotMounted() {
        CHECK.sentence("How many pages went. IllegalStateException: the box is not mounted");
        for (BubbleBox box : Boxes.notMounted()) {
            CHECK.illegalState("truncate(0, 0) in state " + box.state(), () -> box.truncate(0, 0));
            CHECK.illegalState("truncate(8, -1) in state " + box.state(),
                    () -> box.truncate(8, -1));
        }
    }

    private static void truncateOfNoFile() {
        CHECK.sentence("IllegalArgumentException: there is no such file, or n is not 0 .. "
                + "its length.");
        BubbleBox box = withFile1Alone();
        for (int file : NO_FILES) {
            CHECK.illegalArgument("truncate(" + file + ", 0)", () -> box.truncate(file, 0));
        }
        CHECK.is("length(1)", box.length(1), 1);
    }

    private static void truncateToWrongLengths() {
        CHECK.sentence("or n is not 0 .. its length.");
        BubbleBox box = Boxes.withFile(33);
        int[] wrong = {-1, 34, 35, 40, Integer.MIN_VALUE, Integer.MAX_VALUE};
        for (int n : wrong) {
            CHECK.illegalArgument("truncate(0, " + n + ")", () -> box.truncate(0, n));
        }
        CHECK.is("length(0)", box.length(0), 33);
        CHECK.is("pageOf(0, 4)", box.pageOf(0, 4), 44);
        box.truncate(0, 0);
        CHECK.illegalArgument("truncate(0, 1) of no bytes", () -> box.truncate(0, 1));
        CHECK.illegalArgument("truncate(0, -1) of no bytes", () -> box.truncate(0, -1));
    }

    // ---- promise 14

    private static void removeAnswers() {
        CHECK.sentence("A file is gone: how many pages it had.");
        int[] lengths = {1, 8, 9, 17};
        int[] pages = {1, 1, 2, 3};
        for (int n = 0; n < lengths.length; n++) {
            BubbleBox box = Boxes.withFile(lengths[n]);
            box.create(2);
            box.append(1, 77);
            CHECK.is("remove() of " + lengths[n] + " bytes", box.remove(0), pages[n]);
            CHECK.is("find(1)", box.find(1), BubbleBox.NONE);
            CHECK.is("find(2)", box.find(2), 1);
            CHECK.is("byteAt(1, 0)", box.byteAt(1, 0), 77);
            CHECK.is("free()", box.free(), 60);
        }
    }

    private static void removeOfNoBytes() {
        CHECK.sentence("A file is gone: how many pages it had.");
        BubbleBox box = Boxes.withFile(9);
        box.create(2);
        CHECK.is("remove(1) of no bytes", box.remove(1), 0);
        CHECK.is("find(2)", box.find(2), BubbleBox.NONE);
        box.truncate(0, 0);
        CHECK.is("remove(0) of what was cut", box.remove(0), 0);
        CHECK.is("free()", box.free(), 61);
    }

    private static void removeTakesTheWindow() {
        CHECK.sentence("A file is gone: how many pages it had.");
        BubbleBox box = Boxes.withFile(3);
        box.power(20);
        CHECK.is("remove(0)", box.remove(0), 1);
        box.sync();
        CHECK.is("sync() with no window to save", box.state(), 2);
        box.mount();
        CHECK.is("find(1) after mount()", box.find(1), BubbleBox.NONE);
    }

    private static void removeThenCreate() {
        CHECK.sentence("A file is gone: how many pages it had.");
        BubbleBox box = Boxes.withFile(5);
        box.remove(0);
        box.create(2);
        CHECK.is("length of the new file", box.length(0), 0);
        box.append(0, 9);
        CHECK.is("pageOf(0, 0)", box.pageOf(0, 0), 40);
        box.sync();
        CHECK.is("bits 0 but for the byte", Boxes.onChip(box, 40), 9);
        CHECK.is("remove(0)", box.remove(0), 1);
        CHECK.is("free() with its page held", box.free(), 60);
    }

    private static void removeWhenNotMounted() {
        CHECK.sentence("how many pages it had. IllegalStateException: the box is not mounted");
        for (BubbleBox box : Boxes.notMounted()) {
            CHECK.illegalState("remove(0) in state " + box.state(), () -> box.remove(0));
            CHECK.illegalState("remove(8) in state " + box.state(), () -> box.remove(8));
        }
    }

    private static void removeOfNoFile() {
        CHECK.sentence("IllegalArgumentException: there is no such file.");
        BubbleBox box = withFile1Alone();
        for (int file : NO_FILES) {
            CHECK.illegalArgument("remove(" + file + ")", () -> box.remove(file));
        }
        CHECK.is("remove(1)", box.remove(1), 1);
        CHECK.illegalArgument("remove(1) again", () -> box.remove(1));
    }

    // ---- promise 16

    private static void freeCounts() {
        CHECK.sentence("How many pages are free.");
        BubbleBox box = Boxes.formatted();
        CHECK.is("free() of an empty box", box.free(), 61);
        box.create(1);
        CHECK.is("free() with a file of no bytes", box.free(), 61);
        Boxes.fill(box, 0, 8, 0);
        CHECK.is("free() with 8 bytes", box.free(), 60);
        box.append(0, 8);
        CHECK.is("free() with 9 bytes", box.free(), 59);
        box.sync();
        CHECK.is("free() with both held, too", box.free(), 59);
        box.append(0, 9);
        CHECK.is("free() with a page held that went", box.free(), 58);
        box.remove(0);
        CHECK.is("free() with two pages held", box.free(), 59);
        box.sync();
        CHECK.is("free() in the end", box.free(), 61);
    }

    private static void freeOfAFullBox() {
        CHECK.sentence("How many pages are free.");
        BubbleBox box = Boxes.withFile(480);
        CHECK.is("free() with one left", box.free(), 1);
        box.append(0, 1);
        CHECK.is("free() with none left", box.free(), 0);
        box.sync();
        box.remove(0);
        CHECK.is("free() with all held", box.free(), 0);
        box.sync();
        CHECK.is("free() with none held", box.free(), 61);
    }

    private static void freeWhenNotMounted() {
        CHECK.sentence("How many pages are free. IllegalStateException: the box is not mounted.");
        for (BubbleBox box : Boxes.notMounted()) {
            CHECK.illegalState("free() in state " + box.state(), () -> box.free());
        }
    }

    // ---- promise 17

    private static void pageOfAnswers() {
        CHECK.sentence("The page at a place of a file's chain, from 0");
        BubbleBox box = Boxes.withFile(16);
        box.power(0);
        CHECK.is("pageOf(0, 0)", box.pageOf(0, 0), 40);
        CHECK.is("pageOf(0, 1)", box.pageOf(0, 1), 41);
        CHECK.is("state() without a transfer", box.state(), 2);
    }

    private static void pageOfNoPlace() {
        CHECK.sentence("NONE when there is none such.");
        BubbleBox box = Boxes.formatted();
        box.create(1);
        CHECK.is("pageOf(0, 0) of no bytes", box.pageOf(0, 0), -1);
        CHECK.is("pageOf(0, -1) of no bytes", box.pageOf(0, -1), -1);
        Boxes.fill(box, 0, 16, 0);
        int[] wrong = {-1, 2, 3, 60, 61, 100, 101, Integer.MIN_VALUE, Integer.MAX_VALUE};
        for (int i : wrong) {
            CHECK.is("pageOf(0, " + i + ")", box.pageOf(0, i), -1);
        }
        box.truncate(0, 8);
        CHECK.is("pageOf(0, 1) cut off", box.pageOf(0, 1), -1);
    }

    private static void pageOfWhenNotMounted() {
        CHECK.sentence("NONE when there is none such. IllegalStateException: the box is not "
                + "mounted");
        for (BubbleBox box : Boxes.notMounted()) {
            CHECK.illegalState("pageOf(0, 0) in state " + box.state(), () -> box.pageOf(0, 0));
            CHECK.illegalState("pageOf(8, 0) in state " + box.state(), () -> box.pageOf(8, 0));
        }
    }

    private static void pageOfNoFile() {
        CHECK.sentence("IllegalArgumentException: there is no such file.");
        BubbleBox box = withFile1Alone();
        for (int file : NO_FILES) {
            CHECK.illegalArgument("pageOf(" + file + ", 0)", () -> box.pageOf(file, 0));
            CHECK.illegalArgument("pageOf(" + file + ", -1)", () -> box.pageOf(file, -1));
        }
    }
}
