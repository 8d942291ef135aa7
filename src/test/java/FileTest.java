/** Promises 8 to 14, 16 and 17: files, their bytes and their pages. */
public final class FileTest {
    private static final Check CHECK = new Check();

    public static void main(String[] args) {
        createTakesTheLeastNumber();
        createRefusesNames();
        findAnswers();
        noSuchFile();
        lengthFollows();
        appendTakesTheLowestBits();
        appendTakesTheLeastFreePage();
        appendSavesTheWindow();
        appendLoadsTheLastPage();
        appendLeavesHeldPages();
        appendInTheMiddleOfAChain();
        appendWithoutFreePage();
        appendWithoutFreePageForHeld();
        appendWithoutPower();
        byteAtAnswers();
        byteAtLoads();
        truncateAnswers();
        truncateWindows();
        truncateKeepsOldBytes();
        removeAnswers();
        removeThenCreate();
        freeCounts();
        pageOfAnswers();
        CHECK.end();
    }

    private static void createTakesTheLeastNumber() {
        BubbleBox box = Boxes.formatted();
        for (int file = 0; file < 8; file++) {
            CHECK.is("create() " + file, box.create(100 + file), file);
        }
        CHECK.unsupported("create() of a ninth", () -> box.create(108));
        CHECK.illegalArgument("create() of a name with 8 files", () -> box.create(103));
        CHECK.illegalArgument("create(0) with 8 files", () -> box.create(0));
        box.remove(5);
        box.remove(2);
        CHECK.is("create() with 2 and 5 gone", box.create(108), 2);
        CHECK.is("create() with 5 gone", box.create(102), 5);
        CHECK.is("length of it", box.length(5), 0);
        CHECK.is("its pages", box.pageOf(5, 0), BubbleBox.NONE);
    }

    private static void createRefusesNames() {
        BubbleBox box = Boxes.formatted();
        CHECK.illegalArgument("create(0)", () -> box.create(0));
        CHECK.is("create(least)", box.create(Integer.MIN_VALUE), 0);
        CHECK.is("create(most)", box.create(Integer.MAX_VALUE), 1);
        CHECK.illegalArgument("create(least)", () -> box.create(Integer.MIN_VALUE));
        CHECK.illegalArgument("create(most)", () -> box.create(Integer.MAX_VALUE));
    }

    private static void findAnswers() {
        BubbleBox box = Boxes.formatted();
        CHECK.is("find(0) without files", box.find(0), -1);
        CHECK.is("find(7) without files", box.find(7), -1);
        box.create(7);
        box.create(-7);
        CHECK.is("find(7)", box.find(7), 0);
        CHECK.is("find(-7)", box.find(-7), 1);
        CHECK.is("find(0)", box.find(0), -1);
        box.remove(0);
        CHECK.is("find(7) of what is gone", box.find(7), -1);
        CHECK.is("find(0) with a number left", box.find(0), -1);
    }

    private static void noSuchFile() {
        BubbleBox box = Boxes.formatted();
        box.create(1);
        box.create(2);
        box.remove(0);
        int[] wrongFiles = {-1, 0, 2, 7, 8, Integer.MIN_VALUE, Integer.MAX_VALUE};
        for (int file : wrongFiles) {
            CHECK.illegalArgument("length(" + file + ")", () -> box.length(file));
            CHECK.illegalArgument("append(" + file + ", 0)", () -> box.append(file, 0));
            CHECK.illegalArgument("byteAt(" + file + ", 0)", () -> box.byteAt(file, 0));
            CHECK.illegalArgument("truncate(" + file + ", 0)", () -> box.truncate(file, 0));
            CHECK.illegalArgument("remove(" + file + ")", () -> box.remove(file));
            CHECK.illegalArgument("pageOf(" + file + ", 0)", () -> box.pageOf(file, 0));
        }
    }

    private static void lengthFollows() {
        BubbleBox box = Boxes.formatted();
        box.create(1);
        CHECK.is("length(0) new", box.length(0), 0);
        for (int n = 1; n <= 17; n++) {
            CHECK.is("append() " + n, box.append(0, n), n);
            CHECK.is("length(0) " + n, box.length(0), n);
        }
        box.truncate(0, 4);
        CHECK.is("length(0) cut", box.length(0), 4);
    }

    private static void appendTakesTheLowestBits() {
        BubbleBox box = Boxes.formatted();
        box.create(1);
        int[] bytes = {-1, 256, 0x12345678, Integer.MIN_VALUE, 128, 255, -129, 0x7F00 + 1};
        int[] due = {255, 0, 0x78, 0, 128, 255, 127, 1};
        for (int b : bytes) {
            box.append(0, b);
        }
        for (int i = 0; i < due.length; i++) {
            CHECK.is("byteAt(0, " + i + ")", box.byteAt(0, i), due[i]);
        }
        box.sync();
        CHECK.is("the page", Boxes.onChip(box, 40), 0x017FFF80007800FFL);
    }

    private static void appendTakesTheLeastFreePage() {
        BubbleBox box = Boxes.formatted();
        box.create(1);
        box.create(2);
        Boxes.fill(box, 0, 8, 0);
        box.append(1, 1);
        Boxes.fill(box, 0, 8, 0);
        CHECK.is("pageOf(0, 0)", box.pageOf(0, 0), 40);
        CHECK.is("pageOf(1, 0)", box.pageOf(1, 0), 41);
        CHECK.is("pageOf(0, 1)", box.pageOf(0, 1), 42);
        box.remove(1);
        box.append(0, 5);
        CHECK.is("pageOf(0, 2) in the gap", box.pageOf(0, 2), 41);
        CHECK.is("byteAt(0, 16)", box.byteAt(0, 16), 5);
    }

    private static void appendSavesTheWindow() {
        BubbleBox box = Boxes.formatted();
        box.create(1);
        Boxes.fill(box, 0, 8, 1);
        CHECK.is("steps() with a page in the window", box.steps(), 303);
        box.append(0, 9);
        CHECK.is("steps() with the window saved", box.steps(), 303 + 40);
        CHECK.is("the page", Boxes.onChip(box, 40), 0x0807060504030201L);
        CHECK.is("the page in the window", Boxes.onChip(box, 41), 0);
        box.queue(50, true, -1L);
        box.serve();
        Boxes.fill(box, 0, 73, 0);
        CHECK.is("pageOf(0, 10)", box.pageOf(0, 10), 50);
        box.sync();
        CHECK.is("bits 0 in a new page, whatever it held", Boxes.onChip(box, 50) >>> 16, 0);
    }

    private static void appendLoadsTheLastPage() {
        BubbleBox box = Boxes.formatted();
        box.create(1);
        Boxes.fill(box, 0, 10, 1);
        box.byteAt(0, 0);
        long before = box.steps();
        box.power(1);
        CHECK.is("append() with a load", box.append(0, 11), 11);
        CHECK.is("steps of that", box.steps() - before, 1);
        CHECK.is("append() without", box.append(0, 12), 12);
        CHECK.is("pageOf(0, 1) as before", box.pageOf(0, 1), 41);
        CHECK.illegalState("byteAt(0, 0): one transfer to save", () -> box.byteAt(0, 0));
    }

    private static void appendLeavesHeldPages() {
        BubbleBox box = Boxes.formatted();
        box.create(1);
        Boxes.fill(box, 0, 3, 1);
        box.sync();
        long before = box.steps();
        CHECK.is("append() to a held page", box.append(0, 4), 4);
        CHECK.is("steps of that", box.steps() - before, 0);
        CHECK.is("pageOf(0, 0)", box.pageOf(0, 0), 41);
        CHECK.is("free() with 40 held", box.free(), 59);
        box.append(0, 5);
        CHECK.is("pageOf(0, 0) once more", box.pageOf(0, 0), 41);
        for (int i = 0; i < 5; i++) {
            CHECK.is("byteAt(0, " + i + ")", box.byteAt(0, i), i + 1);
        }
        box.sync();
        CHECK.is("the old page", Boxes.onChip(box, 40), 0x030201);
        CHECK.is("the new page", Boxes.onChip(box, 41), 0x0504030201L);
        CHECK.is("free() with 40 left", box.free(), 60);
        box.mount();
        before = box.steps();
        CHECK.is("append() after mount()", box.append(0, 6), 6);
        CHECK.is("pageOf(0, 0) in the old one", box.pageOf(0, 0), 40);
        CHECK.is("steps to load 41", box.steps() - before, 2);
        CHECK.is("byteAt(0, 4)", box.byteAt(0, 4), 5);
        CHECK.is("steps of that", box.steps() - before, 2);
    }

    private static void appendInTheMiddleOfAChain() {
        BubbleBox box = Boxes.formatted();
        box.create(1);
        Boxes.fill(box, 0, 20, 0);
        box.sync();
        box.append(0, 20);
        CHECK.is("pageOf(0, 0)", box.pageOf(0, 0), 40);
        CHECK.is("pageOf(0, 1)", box.pageOf(0, 1), 41);
        CHECK.is("pageOf(0, 2)", box.pageOf(0, 2), 43);
        box.truncate(0, 12);
        box.append(0, 90);
        CHECK.is("pageOf(0, 1) cut and held", box.pageOf(0, 1), 43);
        CHECK.is("pageOf(0, 2)", box.pageOf(0, 2), BubbleBox.NONE);
        CHECK.is("byteAt(0, 7)", box.byteAt(0, 7), 7);
        CHECK.is("byteAt(0, 11)", box.byteAt(0, 11), 11);
        CHECK.is("byteAt(0, 12)", box.byteAt(0, 12), 90);
        CHECK.is("free() with 41 and 42 held", box.free(), 57);
    }

    private static void appendWithoutFreePage() {
        BubbleBox box = Boxes.formatted();
        box.create(1);
        box.create(2);
        Boxes.fill(box, 0, 61 * 8, 0);
        CHECK.is("free() of a full box", box.free(), 0);
        box.power(0);
        CHECK.unsupported("append() to a full page", () -> box.append(0, 1));
        CHECK.unsupported("append() to a new file", () -> box.append(1, 1));
        CHECK.is("length(0)", box.length(0), 488);
        CHECK.is("length(1)", box.length(1), 0);
        CHECK.is("state()", box.state(), 2);
        CHECK.is("truncate(0, 487)", box.truncate(0, 487), 0);
        CHECK.is("append() to a page begun", box.append(0, 77), 488);
        CHECK.is("byteAt(0, 487)", box.byteAt(0, 487), 77);
        CHECK.is("pageOf(0, 60)", box.pageOf(0, 60), 100);
    }

    private static void appendWithoutFreePageForHeld() {
        BubbleBox box = Boxes.formatted();
        box.create(1);
        Boxes.fill(box, 0, 480, 0);
        box.append(0, 5);
        box.sync();
        box.byteAt(0, 0);
        long before = box.steps();
        box.power(0);
        CHECK.unsupported("append() to a held page", () -> box.append(0, 1));
        CHECK.is("steps of that", box.steps() - before, 0);
        CHECK.is("state()", box.state(), 2);
        CHECK.is("truncate() to held pages", box.truncate(0, 1), 60);
        CHECK.unsupported("append() with all held still", () -> box.append(0, 1));
        box.power(-1);
        box.sync();
        CHECK.is("append() after sync()", box.append(0, 9), 2);
        CHECK.is("pageOf(0, 0)", box.pageOf(0, 0), 41);
    }

    private static void appendWithoutPower() {
        BubbleBox box = Boxes.formatted();
        box.create(1);
        box.sync();
        Boxes.fill(box, 0, 8, 0);
        box.power(0);
        CHECK.illegalState("append() that saves", () -> box.append(0, 1));
        CHECK.is("state()", box.state(), 0);
        CHECK.is("mount()", box.mount(), true);
        CHECK.is("length(0)", box.length(0), 0);
        Boxes.fill(box, 0, 10, 0);
        box.byteAt(0, 0);
        box.power(0);
        CHECK.illegalState("append() that loads", () -> box.append(0, 1));
        CHECK.is("state()", box.state(), 0);
    }

    private static void byteAtAnswers() {
        BubbleBox box = Boxes.formatted();
        box.create(1);
        CHECK.outOfBounds("byteAt(0, 0) of no bytes", () -> box.byteAt(0, 0));
        Boxes.fill(box, 0, 30, 240);
        for (int i = 29; i >= 0; i--) {
            CHECK.is("byteAt(0, " + i + ")", box.byteAt(0, i), (240 + i) % 256);
        }
        int[] wrongPlaces = {-1, 30, 31, Integer.MIN_VALUE, Integer.MAX_VALUE};
        for (int i : wrongPlaces) {
            CHECK.outOfBounds("byteAt(0, " + i + ")", () -> box.byteAt(0, i));
        }
        box.truncate(0, 29);
        CHECK.outOfBounds("byteAt(0, 29) cut off", () -> box.byteAt(0, 29));
    }

    private static void byteAtLoads() {
        BubbleBox box = Boxes.formatted();
        box.create(1);
        Boxes.fill(box, 0, 10, 0);
        long before = box.steps();
        box.byteAt(0, 8);
        CHECK.is("steps to the page in the window", box.steps() - before, 0);
        box.byteAt(0, 3);
        CHECK.is("steps to save 41 and read 40", box.steps() - before, 1 + 100);
        box.byteAt(0, 9);
        CHECK.is("steps to read 41", box.steps() - before, 1 + 100 + 1);
        box.power(1);
        box.byteAt(0, 0);
        CHECK.is("a window not changed is not saved", box.state(), 2);
        CHECK.illegalState("byteAt() without power", () -> box.byteAt(0, 9));
        CHECK.is("state()", box.state(), 0);
    }

    private static void truncateAnswers() {
        BubbleBox box = Boxes.formatted();
        box.create(1);
        Boxes.fill(box, 0, 33, 0);
        int[] wrongLengths = {-1, 34, Integer.MIN_VALUE, Integer.MAX_VALUE};
        for (int n : wrongLengths) {
            CHECK.illegalArgument("truncate(0, " + n + ")", () -> box.truncate(0, n));
        }
        box.power(0);
        CHECK.is("truncate(0, 33)", box.truncate(0, 33), 0);
        CHECK.is("truncate(0, 32)", box.truncate(0, 32), 1);
        CHECK.is("truncate(0, 25)", box.truncate(0, 25), 0);
        CHECK.is("truncate(0, 9)", box.truncate(0, 9), 2);
        CHECK.is("length(0)", box.length(0), 9);
        CHECK.is("pageOf(0, 1)", box.pageOf(0, 1), 41);
        CHECK.is("pageOf(0, 2)", box.pageOf(0, 2), BubbleBox.NONE);
        CHECK.is("free()", box.free(), 59);
        CHECK.is("truncate(0, 0)", box.truncate(0, 0), 2);
        CHECK.is("free() of all", box.free(), 61);
        CHECK.is("truncate(0, 0) again", box.truncate(0, 0), 0);
        CHECK.is("find() of the file still", box.find(1), 0);
        CHECK.is("append() needs no save of what went", box.append(0, 3), 1);
        CHECK.is("pageOf(0, 0)", box.pageOf(0, 0), 40);
    }

    private static void truncateWindows() {
        BubbleBox box = Boxes.formatted();
        box.create(1);
        Boxes.fill(box, 0, 12, 1);
        box.truncate(0, 8);
        box.power(20);
        box.sync();
        CHECK.is("sync() does not save a page that went", box.state(), 2);
        box.power(-1);
        Boxes.fill(box, 0, 3, 1);
        box.truncate(0, 9);
        box.sync();
        CHECK.is("sync() saves a page that stayed", Boxes.onChip(box, 41), 0x030201);
        box.truncate(0, 8);
        long before = box.steps();
        CHECK.is("byteAt(0, 7)", box.byteAt(0, 7), 8);
        CHECK.is("steps to read it", box.steps() - before, 100);
    }

    private static void truncateKeepsOldBytes() {
        BubbleBox box = Boxes.formatted();
        box.create(1);
        Boxes.fill(box, 0, 5, 1);
        box.truncate(0, 2);
        box.append(0, 0x77);
        box.sync();
        CHECK.is("the page", Boxes.onChip(box, 40), 0x0504770201L);
    }

    private static void removeAnswers() {
        BubbleBox box = Boxes.formatted();
        box.create(1);
        box.create(2);
        box.create(3);
        Boxes.fill(box, 1, 17, 0);
        box.append(2, 1);
        box.power(0);
        CHECK.is("remove(1)", box.remove(1), 3);
        CHECK.is("remove(0) of no bytes", box.remove(0), 0);
        CHECK.illegalArgument("remove(1) again", () -> box.remove(1));
        CHECK.is("find(2)", box.find(2), BubbleBox.NONE);
        CHECK.is("find(3)", box.find(3), 2);
        CHECK.is("free()", box.free(), 60);
        box.power(21);
        box.sync();
        CHECK.is("sync() saves one window only", box.state(), 2);
        box.remove(2);
        CHECK.is("free() with its page held", box.free(), 60);
    }

    private static void removeThenCreate() {
        BubbleBox box = Boxes.formatted();
        box.create(1);
        Boxes.fill(box, 0, 5, 1);
        box.remove(0);
        box.create(2);
        CHECK.is("length of the new file", box.length(0), 0);
        box.append(0, 9);
        CHECK.is("pageOf(0, 0)", box.pageOf(0, 0), 40);
        box.sync();
        CHECK.is("bits 0 but for the byte", Boxes.onChip(box, 40), 9);
    }

    private static void freeCounts() {
        BubbleBox box = Boxes.formatted();
        CHECK.is("free() of an empty box", box.free(), 61);
        box.create(1);
        CHECK.is("free() with a file of no bytes", box.free(), 61);
        Boxes.fill(box, 0, 8, 0);
        CHECK.is("free() with 8 bytes", box.free(), 60);
        box.append(0, 8);
        CHECK.is("free() with 9 bytes", box.free(), 59);
        box.sync();
        box.append(0, 9);
        CHECK.is("free() with a page held", box.free(), 58);
        box.remove(0);
        CHECK.is("free() with two pages held", box.free(), 59);
        box.sync();
        CHECK.is("free() in the end", box.free(), 61);
    }

    private static void pageOfAnswers() {
        BubbleBox box = Boxes.formatted();
        box.create(1);
        CHECK.is("pageOf(0, 0) of no bytes", box.pageOf(0, 0), -1);
        Boxes.fill(box, 0, 16, 0);
        long before = box.steps();
        CHECK.is("pageOf(0, 0)", box.pageOf(0, 0), 40);
        CHECK.is("pageOf(0, 1)", box.pageOf(0, 1), 41);
        int[] wrongPlaces = {-1, 2, 3, Integer.MIN_VALUE, Integer.MAX_VALUE};
        for (int i : wrongPlaces) {
            CHECK.is("pageOf(0, " + i + ")", box.pageOf(0, i), -1);
        }
        CHECK.is("steps of all these", box.steps() - before, 0);
    }
}
