/** Images, and promises 6, 7 and 15: format, mount, sync. */
public final class ImageTest {
    private static final Check CHECK = new Check();

    public static void main(String[] args) {
        images();
        formats();
        mounts();
        syncs();
        CHECK.end();
    }

    private static void images() {
        imageOfNoFiles();
        imageNames();
        imageFirstPages();
        imageLengths();
        imageLinks();
        imageLinkOfTheLastPage();
        imageLinksAfterTruncate();
        imageLinksAfterPagesMoved();
        imageAfterFormatAgain();
        imageSums();
        imageValidByChance();
    }

    private static void formats() {
        formatTestsAllLoops();
        formatTakesTheFirst64();
        formatClearsAllBits();
        formatLeavesNoFiles();
        formatCountsImage1AsCurrent();
        formatAnswersTrue();
        formatRefused();
        formatWhenOff();
        formatWithoutPowerForItsSync();
        formatKeepsPower();
    }

    private static void mounts() {
        mountTurnsTheBoxOn();
        mountForgets();
        mountWithoutMap();
        mountSteps();
        mountWithoutValidImage();
        mountOfImage0Alone();
        mountOfImage1Alone();
        mountOfImage0ByChance();
        mountOfTheNewerImage();
        mountOfTheNewerImageWithOneTorn();
        mountOfTheNewerImageOverTheWrap();
        mountOfTheNewerImageOverTheSign();
        mountAfterTornSync();
        mountBringsFiles();
        mountBringsNoFiles();
        mountLeavesWindowsWithoutPage();
    }

    private static void syncs() {
        syncSavesByNumbers();
        syncSavesAllEight();
        syncWithoutFiles();
        syncWritesTheFirstPageLast();
        syncTurnsWrap();
        syncWritesTheOtherImage();
        syncAnswersSteps();
        syncWhenNotMounted();
        syncWithoutPower();
    }

    // ---- images

    private static void imageOfNoFiles() {
        CHECK.sentence("AN IMAGE is 160 bytes in 20 pages, those from 0 or those from 20 on, "
                + "eight bytes in each in order: the TURN (one byte)");
        checkImage(Boxes.formatted(), 0, new int[160]);
        BubbleBox box = Boxes.formatted();
        box.sync();
        int[] due = new int[160];
        due[0] = 1;
        checkImage(box, 1, due);
    }

    private static void imageNames() {
        CHECK.sentence("its name (4 bytes, the lowest first; 0 when there is no such file)");
        BubbleBox box = Boxes.formatted();
        int[] names = {0x01020304, 9, -1, 1 << 31, 256, 1 << 16, 255, 1 << 24};
        for (int name : names) {
            box.create(name);
        }
        box.remove(1);
        box.sync();
        int[] due = new int[160];
        due[0] = 1;
        for (int file = 0; file < 8; file++) {
            for (int n = 0; n < 4; n++) {
                due[1 + 7 * file + n] = file == 1 ? 0 : names[file] >>> 8 * n & 255;
            }
        }
        checkImage(box, 1, due);
    }

    /** A number without a file has no first page and no length, whatever it had before. */
    private static void imageFirstPages() {
        CHECK.sentence("its first page (0 for none)");
        BubbleBox box = Boxes.withFile(1);
        box.create(2);
        box.create(3);
        box.create(4);
        box.append(2, 1);
        box.append(3, 1);
        box.truncate(2, 0);
        box.remove(3);
        box.sync();
        int[] due = new int[160];
        due[0] = 1;
        due[1] = 1;
        due[5] = 40;
        due[6] = 1;
        due[8] = 2;
        due[15] = 3;
        checkImage(box, 1, due);
    }

    private static void imageLengths() {
        CHECK.sentence("its length (2 bytes, the lower first)");
        int[] lengths = {255, 256, 299};
        for (int length : lengths) {
            BubbleBox box = Boxes.withFile(length);
            box.sync();
            int[] due = new int[160];
            due[0] = 1;
            due[1] = 1;
            due[5] = 40;
            due[6] = length % 256;
            due[7] = length / 256;
            for (int page = 40; page < 40 + (length - 1) / 8; page++) {
                due[57 + page] = page + 1;
            }
            checkImage(box, 1, due);
            box.mount();
            CHECK.is("length(0)", box.length(0), length);
        }
    }

    private static void imageLinks() {
        CHECK.sentence("for each page 0 .. 100 the page behind it in its chain, 0 for none");
        BubbleBox box = Boxes.withFile(8);
        box.create(2);
        Boxes.fill(box, 1, 8, 1);
        Boxes.fill(box, 0, 8, 1);
        Boxes.fill(box, 1, 9, 1);
        box.sync();
        int[] due = new int[160];
        due[0] = 1;
        due[1] = 1;
        due[5] = 40;
        due[6] = 16;
        due[8] = 2;
        due[12] = 41;
        due[13] = 17;
        due[57 + 40] = 42;
        due[57 + 41] = 43;
        due[57 + 43] = 44;
        checkImage(box, 1, due);
    }

    private static void imageLinkOfTheLastPage() {
        CHECK.sentence("for each page 0 .. 100 the page behind it in its chain, 0 for none");
        BubbleBox box = Boxes.withFile(480);
        box.create(2);
        Boxes.fill(box, 1, 8, 1);
        CHECK.is("page 100 in file 1", box.pageOf(1, 0), 100);
        CHECK.is("page 99 out of file 0", box.truncate(0, 472), 1);
        box.append(1, 9);
        CHECK.is("page 99 in file 1", box.pageOf(1, 1), 99);
        box.sync();
        long last = Boxes.onChip(box, 39);
        CHECK.is("behind page 98", last >>> 24 & 255, 0);
        CHECK.is("behind page 99", last >>> 32 & 255, 0);
        CHECK.is("behind page 100", last >>> 40 & 255, 99);
        box.mount();
        CHECK.is("byteAt(1, 8)", box.byteAt(1, 8), 9);
    }

    private static void imageLinksAfterTruncate() {
        CHECK.sentence("for each page 0 .. 100 the page behind it in its chain, 0 for none");
        BubbleBox box = Boxes.withFile(40);
        box.create(2);
        Boxes.fill(box, 1, 10, 0);
        box.truncate(0, 9);
        box.truncate(1, 0);
        box.sync();
        int[] due = new int[160];
        due[0] = 1;
        due[1] = 1;
        due[5] = 40;
        due[6] = 9;
        due[8] = 2;
        due[57 + 40] = 41;
        checkImage(box, 1, due);
    }

    private static void imageLinksAfterPagesMoved() {
        CHECK.sentence("for each page 0 .. 100 the page behind it in its chain, 0 for none");
        BubbleBox box = Boxes.withFile(10);
        box.sync();
        box.append(0, 11);
        box.sync();
        box.mount();
        box.append(0, 12);
        Boxes.fill(box, 0, 5, 0);
        box.sync();
        CHECK.is("pageOf(0, 2)", box.pageOf(0, 2), 43);
        int[] due = new int[160];
        due[0] = 3;
        due[1] = 1;
        due[5] = 40;
        due[6] = 17;
        due[57 + 40] = 41;
        due[57 + 41] = 43;
        checkImage(box, 1, due);
        box.sync();
        due[0] = 4;
        checkImage(box, 0, due);
    }

    private static void imageAfterFormatAgain() {
        CHECK.sentence("for each page 0 .. 100 the page behind it in its chain, 0 for none");
        BubbleBox box = Boxes.withFile(30);
        box.sync();
        box.format();
        checkImage(box, 0, new int[160]);
        box.mount();
        box.format();
        checkImage(box, 0, new int[160]);
    }

    private static void imageSums() {
        CHECK.sentence("and 1 more than the sum of all bytes before, modulo 65536 (2 bytes, the "
                + "lower first).");
        BubbleBox box = Boxes.formatted();
        CHECK.is("sum of nothing", Boxes.onChip(box, 19) >>> 48, 1);
        for (int file = 0; file < 8; file++) {
            box.create(-1 - file);
        }
        box.sync();
        int sum = 1 + 1 + 8 * 4 * 255 - 28;
        CHECK.is("sum of the greatest names", Boxes.onChip(box, 39) >>> 48, sum);
        CHECK.is("mount()", box.mount(), true);
        CHECK.is("find(-8)", box.find(-8), 7);
    }

    /** Image 0 of no files with turn 0 has only zeros in its first page: it need not be written. */
    private static void imageValidByChance() {
        CHECK.sentence("It is VALID when that is so.");
        BubbleBox box = new BubbleBox();
        box.power(18);
        CHECK.illegalState("format() with power for 18", () -> box.format());
        CHECK.is("mount() without the page of the sum", box.mount(), false);
        box.power(19);
        CHECK.illegalState("format() with power for 19", () -> box.format());
        CHECK.is("mount() without a first page other than 0", box.mount(), true);
        CHECK.is("free()", box.free(), 61);
    }

    /** The sum is put behind the bytes that are due. */
    private static void checkImage(BubbleBox box, int image, int[] due) {
        int sum = 1;
        for (int n = 0; n < 158; n++) {
            sum += due[n];
        }
        due[158] = sum % 256;
        due[159] = sum / 256;
        for (int k = 0; k < 20; k++) {
            long bits = Boxes.onChip(box, 20 * image + k);
            for (int j = 0; j < 8; j++) {
                int n = 8 * k + j;
                CHECK.is("byte " + n + " of image " + image, bits >>> 8 * j & 255, due[n]);
            }
        }
    }

    // ---- promise 6

    private static void formatTestsAllLoops() {
        CHECK.sentence("All loops are tested, which takes 202 steps");
        BubbleBox box = new BubbleBox();
        box.format();
        CHECK.is("steps() from 0: 1 .. 19, 0", box.steps(), 202 + 19 + 82);
        Boxes.turnTo(box, 50);
        long before = box.steps();
        box.format();
        CHECK.is("steps from 50: 1 .. 19, 0", box.steps() - before, 202 + 52 + 18 + 82);
        box.power(0);
        before = box.steps();
        CHECK.illegalState("format() without power", () -> box.format());
        CHECK.is("steps of the test alone", box.steps() - before, 202);
    }

    private static void formatTakesTheFirst64() {
        CHECK.sentence("the map has a 1 for the first 64 that are not stuck");
        for (int first = 0; first <= 64; first += 16) {
            BubbleBox box = new BubbleBox();
            for (int loop = first; loop < first + 5; loop++) {
                box.stuck(loop, loop % 2);
            }
            CHECK.is("format() with 5 stuck from " + first, box.format(), true);
            box.queue(100, true, 0x0F1E2D3C4B5A6978L);
            box.serve();
            CHECK.is("page 100", Boxes.onChip(box, 100), 0x0F1E2D3C4B5A6978L);
            box.queue(100, true, ~0x0F1E2D3C4B5A6978L);
            box.serve();
            CHECK.is("page 100 the other way", Boxes.onChip(box, 100), ~0x0F1E2D3C4B5A6978L);
        }
    }

    private static void formatClearsAllBits() {
        CHECK.sentence("all bits become 0.");
        BubbleBox box = Boxes.withFile(20);
        box.sync();
        box.sync();
        box.sync();
        box.queue(99, true, -1);
        box.queue(100, true, -1);
        box.serve();
        box.format();
        checkImage(box, 0, new int[160]);
        for (int page = 20; page < 101; page++) {
            CHECK.is("page " + page, Boxes.onChip(box, page), 0);
        }
    }

    private static void formatLeavesNoFiles() {
        CHECK.sentence("The box is mounted then, without files");
        BubbleBox box = Boxes.withFile(20);
        box.sync();
        box.append(0, 9);
        box.queue(90, true, 4);
        box.serve();
        box.queue(91, true, 4);
        box.power(20);
        CHECK.is("format() with no window to save", box.format(), true);
        CHECK.is("state()", box.state(), 2);
        CHECK.is("find(1)", box.find(1), BubbleBox.NONE);
        CHECK.illegalArgument("length(0)", () -> box.length(0));
        CHECK.is("free()", box.free(), 61);
        CHECK.outOfBounds("served(0)", () -> box.served(0));
        CHECK.is("serve() of nothing", box.serve(), 0);
        CHECK.is("create(1)", box.create(1), 0);
        CHECK.is("length(0) of the new file", box.length(0), 0);
    }

    private static void formatCountsImage1AsCurrent() {
        CHECK.sentence("image 1 (that from 20 on) counts as current with the turn 255, and "
                + "sync() follows.");
        for (int syncs = 0; syncs < 2; syncs++) {
            BubbleBox box = Boxes.formatted();
            for (int n = 0; n < syncs; n++) {
                box.sync();
            }
            box.format();
            CHECK.is("turn of image 0", Boxes.onChip(box, 0), 0);
            CHECK.is("sum of image 0", Boxes.onChip(box, 19) >>> 48, 1);
            CHECK.is("sum of image 1, not written", Boxes.onChip(box, 39) >>> 48, 0);
            box.sync();
            CHECK.is("turn of image 1", Boxes.onChip(box, 20), 1);
            CHECK.is("sum of image 1", Boxes.onChip(box, 39) >>> 48, 2);
        }
    }

    private static void formatAnswersTrue() {
        CHECK.sentence("Answers true");
        for (int stuck = 0; stuck <= 5; stuck++) {
            BubbleBox box = new BubbleBox();
            for (int n = 0; n < stuck; n++) {
                box.stuck(13 * n, n % 2);
            }
            CHECK.is("format() with " + stuck + " stuck", box.format(), true);
            CHECK.is("state()", box.state(), 2);
            CHECK.is("format() again", box.format(), true);
        }
    }

    private static void formatRefused() {
        CHECK.sentence("false, refused, taking no step, when fewer than 64 are not stuck.");
        int[] firstLoops = {0, 20, 63};
        for (int first : firstLoops) {
            BubbleBox box = new BubbleBox();
            for (int loop = first; loop < first + 6; loop++) {
                box.stuck(loop, 0);
            }
            CHECK.is("format() with 6 stuck from " + first, box.format(), false);
            CHECK.is("state()", box.state(), 1);
            CHECK.is("steps()", box.steps(), 0);
            CHECK.is("mount() without a map", box.mount(), false);
        }
        BubbleBox box = new BubbleBox();
        for (int loop = 0; loop < 69; loop++) {
            box.stuck(loop, 1);
        }
        box.power(0);
        CHECK.is("format() with all stuck", box.format(), false);
        CHECK.is("state() without a transfer", box.state(), 1);
        CHECK.is("steps()", box.steps(), 0);
    }

    private static void formatWhenOff() {
        CHECK.sentence("IllegalStateException: the box is off");
        BubbleBox box = Boxes.withFile(3);
        box.sync();
        Boxes.loseAllPower(box);
        long before = box.steps();
        CHECK.illegalState("format() when off", () -> box.format());
        CHECK.is("steps of that", box.steps() - before, 0);
        CHECK.is("state()", box.state(), 0);
        CHECK.is("mount()", box.mount(), true);
        CHECK.is("byteAt(0, 2), not cleared", box.byteAt(0, 2), 3);
    }

    private static void formatWithoutPowerForItsSync() {
        CHECK.sentence("IllegalStateException: the box is off (also from sync()).");
        for (int transfers = 0; transfers < 20; transfers++) {
            BubbleBox box = Boxes.withFile(3);
            box.sync();
            box.sync();
            box.power(transfers);
            CHECK.illegalState("format() with power for " + transfers, () -> box.format());
            CHECK.is("state()", box.state(), 0);
            CHECK.illegalState("format() when off", () -> box.format());
            CHECK.is("mount()", box.mount(), transfers == 19);
            CHECK.is("format() when on", box.format(), true);
            CHECK.is("mount() then", box.mount(), true);
            CHECK.is("find(1)", box.find(1), BubbleBox.NONE);
        }
    }

    private static void formatKeepsPower() {
        CHECK.sentence("and sync() follows.");
        BubbleBox box = new BubbleBox();
        box.power(21);
        CHECK.is("format() with power for 21", box.format(), true);
        Boxes.onChip(box, 3);
        box.queue(3, false, 0);
        CHECK.illegalState("serve() of one transfer more", () -> box.serve());
    }

    // ---- promise 7

    private static void mountTurnsTheBoxOn() {
        CHECK.sentence("The box is on, with power without end");
        BubbleBox off = Boxes.off();
        CHECK.is("mount() when off", off.mount(), true);
        CHECK.is("state()", off.state(), 2);
        off.sync();
        off.sync();
        CHECK.is("state() after 40 transfers", off.state(), 2);
        BubbleBox mounted = Boxes.formatted();
        mounted.power(0);
        CHECK.is("mount() without power", mounted.mount(), true);
        mounted.sync();
        CHECK.is("state() after 20 transfers", mounted.state(), 2);
        BubbleBox unmapped = new BubbleBox();
        unmapped.power(3);
        CHECK.is("mount() without a map", unmapped.mount(), false);
        CHECK.is("format() with power without end", unmapped.format(), true);
        BubbleBox noImage = Boxes.withoutImage();
        noImage.power(0);
        CHECK.is("mount() without an image", noImage.mount(), false);
        CHECK.is("format() with power without end", noImage.format(), true);
    }

    private static void mountForgets() {
        CHECK.sentence("and forgets all but the chip.");
        BubbleBox box = Boxes.withFile(3);
        box.sync();
        box.create(6);
        Boxes.fill(box, 0, 3, 4);
        box.queue(90, true, 4);
        box.serve();
        box.queue(91, true, 4);
        CHECK.is("mount() of a mounted box", box.mount(), true);
        CHECK.is("find(1)", box.find(1), 0);
        CHECK.is("find(6)", box.find(6), BubbleBox.NONE);
        CHECK.is("length(0)", box.length(0), 3);
        CHECK.is("free()", box.free(), 60);
        CHECK.outOfBounds("served(0)", () -> box.served(0));
        CHECK.is("serve() of nothing", box.serve(), 0);
        CHECK.outOfBounds("served(0) of nothing", () -> box.served(0));
        CHECK.is("what was served stays on the chip", Boxes.onChip(box, 90), 4);
        CHECK.is("what was only asked for does not", Boxes.onChip(box, 91), 0);
        box.power(20);
        box.sync();
        CHECK.is("no window is changed", box.state(), 2);
    }

    private static void mountWithoutMap() {
        CHECK.sentence("False, and not mounted, without a map.");
        BubbleBox box = new BubbleBox();
        CHECK.is("mount()", box.mount(), false);
        CHECK.is("state()", box.state(), 1);
        CHECK.is("steps()", box.steps(), 0);
        CHECK.illegalState("create(1)", () -> box.create(1));
        box.stuck(3, 0);
        CHECK.is("mount() again", box.mount(), false);
    }

    private static void mountSteps() {
        CHECK.sentence("Otherwise P goes on to 0 (no step when it is that), and the pages 0 .. 39 "
                + "are read.");
        int[] places = {0, 1, 39, 99, 100};
        int[] due = {39, 100 + 39, 62 + 39, 2 + 39, 1 + 39};
        for (int n = 0; n < places.length; n++) {
            BubbleBox box = Boxes.formatted();
            Boxes.turnTo(box, places[n]);
            long before = box.steps();
            box.mount();
            CHECK.is("steps from " + places[n], box.steps() - before, due[n]);
            box.queue(39, false, 0);
            CHECK.is("steps to page 39, where P is", box.serve(), 0);
        }
    }

    private static void mountWithoutValidImage() {
        CHECK.sentence("When no image is valid: false, not mounted.");
        BubbleBox box = new BubbleBox();
        box.power(0);
        CHECK.illegalState("format() without power", () -> box.format());
        CHECK.is("mount()", box.mount(), false);
        CHECK.is("state()", box.state(), 1);
        CHECK.is("steps(), the pages having been read", box.steps(), 202 + 39);
        CHECK.illegalState("sync()", () -> box.sync());
        CHECK.is("mount() again", box.mount(), false);
        CHECK.is("steps() then", box.steps(), 202 + 39 + 62 + 39);
        CHECK.is("format()", box.format(), true);
        CHECK.is("mount() of the valid one", box.mount(), true);
    }

    private static void mountOfImage0Alone() {
        CHECK.sentence("Otherwise the valid one is current");
        BubbleBox box = Boxes.formatted();
        CHECK.is("mount() of image 0", box.mount(), true);
        box.create(1);
        Boxes.losePower(box, 19);
        CHECK.is("mount() with image 1 torn", box.mount(), true);
        CHECK.is("find(1)", box.find(1), BubbleBox.NONE);
        box.sync();
        CHECK.is("turn of image 1", Boxes.onChip(box, 20), 1);
        CHECK.is("turn of image 0", Boxes.onChip(box, 0), 0);
    }

    /** A torn image 0 is not valid, and has the turn 0: 255 more than that of image 1. */
    private static void mountOfImage1Alone() {
        CHECK.sentence("Otherwise the valid one is current");
        BubbleBox box = Boxes.withFile(5);
        box.sync();
        box.create(2);
        Boxes.losePower(box, 19);
        CHECK.is("mount() with image 0 torn", box.mount(), true);
        CHECK.is("find(1)", box.find(1), 0);
        CHECK.is("find(2)", box.find(2), BubbleBox.NONE);
        box.sync();
        CHECK.is("turn of image 0", Boxes.onChip(box, 0) & 255, 2);
        CHECK.is("turn of image 1", Boxes.onChip(box, 20) & 255, 1);
    }

    /** After a torn format() that left image 0 valid, that one counts, not what format() began. */
    private static void mountOfImage0ByChance() {
        CHECK.sentence("Otherwise the valid one is current");
        BubbleBox box = new BubbleBox();
        box.power(19);
        CHECK.illegalState("format() with power for 19", () -> box.format());
        CHECK.is("mount()", box.mount(), true);
        box.create(1);
        box.sync();
        CHECK.is("turn of image 1", Boxes.onChip(box, 20) & 255, 1);
        CHECK.is("image 0 as before", Boxes.onChip(box, 0), 0);
        box.mount();
        CHECK.is("find(1)", box.find(1), 0);
    }

    private static void mountOfTheNewerImage() {
        CHECK.sentence("of two that whose turn is 1 .. 127 more than the other one's modulo 256");
        BubbleBox box = Boxes.formatted();
        box.create(1);
        for (int n = 1; n <= 5; n++) {
            box.append(0, n);
            box.sync();
            box.mount();
            CHECK.is("length(0) after sync() " + n, box.length(0), n);
        }
    }

    /**
     * A torn image may be valid by chance: with its old first page, which has a turn that is 2
     * less and a length that is 2 more than the new one's. It is still the older of the two.
     */
    private static void mountOfTheNewerImageWithOneTorn() {
        CHECK.sentence("of two that whose turn is 1 .. 127 more than the other one's modulo 256");
        for (int syncs = 2; syncs <= 3; syncs++) {
            BubbleBox box = Boxes.withFile(5);
            for (int n = 0; n < syncs; n++) {
                box.sync();
            }
            box.truncate(0, 3);
            box.create(9);
            Boxes.losePower(box, 19);
            int torn = syncs == 2 ? 1 : 0;
            box.mount();
            CHECK.is("find(9) with image " + torn + " torn", box.find(9), BubbleBox.NONE);
            CHECK.is("length(0)", box.length(0), 5);
            checkSum(box, torn);
        }
    }

    /** So that this is known to be a valid image, whatever it holds. */
    private static void checkSum(BubbleBox box, int image) {
        long sum = 1;
        long last = 0;
        for (int k = 0; k < 20; k++) {
            last = Boxes.onChip(box, 20 * image + k);
            for (int j = 0; j < (k < 19 ? 8 : 6); j++) {
                sum += last >>> 8 * j & 255;
            }
        }
        CHECK.is("sum of image " + image, last >>> 48, sum);
    }

    private static void mountOfTheNewerImageOverTheWrap() {
        CHECK.sentence("of two that whose turn is 1 .. 127 more than the other one's modulo 256");
        mountAroundTurn(254);
    }

    private static void mountOfTheNewerImageOverTheSign() {
        CHECK.sentence("of two that whose turn is 1 .. 127 more than the other one's modulo 256");
        mountAroundTurn(126);
    }

    private static void mountAroundTurn(int turn) {
        BubbleBox box = Boxes.formatted();
        for (int syncs = 1; syncs < turn; syncs++) {
            box.sync();
        }
        box.create(1);
        for (int n = 1; n <= 6; n++) {
            box.append(0, n);
            box.sync();
            box.mount();
            int due = turn + n - 1;
            CHECK.is("length(0) with turn " + due, box.length(0), n);
            long firstPage = Boxes.onChip(box, due % 2 == 0 ? 0 : 20);
            CHECK.is("turn " + due, firstPage & 255, due % 256);
        }
    }

    /** With power for any number of transfers too few, the file is as it was synced last. */
    private static void mountAfterTornSync() {
        CHECK.sentence("so that whenever power goes off what was synced last is there again.");
        for (int transfers = 0; transfers <= 21; transfers++) {
            BubbleBox box = Boxes.withFile(12);
            box.sync();
            box.truncate(0, 10);
            Boxes.fill(box, 0, 5, 200);
            box.power(transfers);
            boolean whole = transfers == 21;
            if (whole) {
                box.sync();
            } else {
                CHECK.illegalState("sync() with power for " + transfers, () -> box.sync());
            }
            CHECK.is("mount()", box.mount(), true);
            CHECK.is("length(0)", box.length(0), whole ? 15 : 12);
            CHECK.is("byteAt(0, 9)", box.byteAt(0, 9), 10);
            CHECK.is("byteAt(0, 10)", box.byteAt(0, 10), whole ? 200 : 11);
            CHECK.is("pageOf(0, 1)", box.pageOf(0, 1), whole ? 42 : 41);
            CHECK.is("free()", box.free(), 59);
            CHECK.is("append(0, 1)", box.append(0, 1), whole ? 16 : 13);
            box.sync();
            box.mount();
            CHECK.is("length(0) with one more", box.length(0), whole ? 16 : 13);
        }
    }

    private static void mountBringsFiles() {
        CHECK.sentence("the box is mounted with its files");
        BubbleBox box = Boxes.formatted();
        box.create(Integer.MIN_VALUE);
        box.create(-1);
        box.create(0x01020304);
        for (int n = 0; n < 20; n++) {
            box.append(0, 3 * n);
            box.append(2, 255 - n);
        }
        box.remove(1);
        box.sync();
        box.mount();
        CHECK.is("find() of the least name", box.find(Integer.MIN_VALUE), 0);
        CHECK.is("find() of a name that is gone", box.find(-1), BubbleBox.NONE);
        CHECK.is("find() of four bytes", box.find(0x01020304), 2);
        for (int n = 0; n < 20; n++) {
            CHECK.is("byteAt(0, " + n + ")", box.byteAt(0, n), 3 * n);
            CHECK.is("byteAt(2, " + n + ")", box.byteAt(2, n), 255 - n);
        }
        for (int n = 0; n < 3; n++) {
            CHECK.is("pageOf(0, " + n + ")", box.pageOf(0, n), 40 + 2 * n);
            CHECK.is("pageOf(2, " + n + ")", box.pageOf(2, n), 41 + 2 * n);
        }
        CHECK.is("pageOf(0, 3)", box.pageOf(0, 3), BubbleBox.NONE);
        CHECK.is("create(1)", box.create(1), 1);
        CHECK.is("append(1, 1)", box.append(1, 1), 1);
        CHECK.is("pageOf(1, 0)", box.pageOf(1, 0), 46);
    }

    private static void mountBringsNoFiles() {
        CHECK.sentence("the box is mounted with its files");
        BubbleBox box = Boxes.withFile(9);
        CHECK.is("mount()", box.mount(), true);
        CHECK.is("find(1)", box.find(1), BubbleBox.NONE);
        CHECK.illegalArgument("length(0)", () -> box.length(0));
        CHECK.is("free()", box.free(), 61);
        box.create(5);
        box.sync();
        box.mount();
        CHECK.is("find(5) of no bytes", box.find(5), 0);
        CHECK.is("length(0)", box.length(0), 0);
        CHECK.is("append(0, 7)", box.append(0, 7), 1);
    }

    private static void mountLeavesWindowsWithoutPage() {
        CHECK.sentence("all windows without a page: true.");
        BubbleBox box = Boxes.withFile(3);
        box.sync();
        box.mount();
        long before = box.steps();
        CHECK.is("byteAt(0, 2)", box.byteAt(0, 2), 3);
        CHECK.is("steps from 39 to 40", box.steps() - before, 1);
        box.mount();
        box.power(0);
        CHECK.illegalState("byteAt(0, 2) without power", () -> box.byteAt(0, 2));
    }

    // ---- promise 15

    /** File 0 lies behind file 1 on the chip, and is saved first all the same. */
    private static void syncSavesByNumbers() {
        CHECK.sentence("All changed windows are saved, by the numbers of their files");
        BubbleBox box = Boxes.formatted();
        box.create(1);
        box.create(2);
        box.append(1, 22);
        box.append(0, 11);
        CHECK.is("pageOf(1, 0)", box.pageOf(1, 0), 40);
        CHECK.is("sync(): 41, 40, 21 .. 39, 20", box.sync(), 41 + 100 + 82 + 18 + 82);
        box.append(1, 23);
        box.append(0, 12);
        box.power(1);
        CHECK.illegalState("sync() with power for one", () -> box.sync());
        box.mount();
        CHECK.is("page of file 0", Boxes.onChip(box, 43), 0x0C0B);
        CHECK.is("page of file 1", Boxes.onChip(box, 42), 0);
    }

    private static void syncSavesAllEight() {
        CHECK.sentence("All changed windows are saved, by the numbers of their files");
        BubbleBox box = Boxes.formatted();
        for (int file = 0; file < 8; file++) {
            box.create(1 + file);
            box.append(file, 90 + file);
        }
        box.power(28);
        CHECK.is("sync(): 40 .. 47, 21 .. 39, 20", box.sync(), 47 + 75 + 18 + 82);
        CHECK.is("state() after 28 transfers", box.state(), 2);
        box.mount();
        for (int file = 0; file < 8; file++) {
            CHECK.is("byteAt(" + file + ", 0)", box.byteAt(file, 0), 90 + file);
        }
        box.append(3, 1);
        box.append(5, 1);
        box.power(22);
        box.sync();
        CHECK.is("state() with two windows changed", box.state(), 2);
    }

    private static void syncWithoutFiles() {
        CHECK.sentence("then the image that is not current is written");
        BubbleBox box = Boxes.formatted();
        box.power(20);
        CHECK.is("sync()", box.sync(), 39 + 82);
        CHECK.is("state() after 20 transfers", box.state(), 2);
        CHECK.illegalState("sync() with those used up", () -> box.sync());
    }

    /** Page by page: what power allows for is written, in the order that the document tells. */
    private static void syncWritesTheFirstPageLast() {
        CHECK.sentence("its second page and those behind it in order, and then its first one");
        long[] whole = imagePages(boxToSync(20));
        for (int transfers = 0; transfers < 20; transfers++) {
            long[] torn = imagePages(boxToSync(transfers));
            for (int k = 0; k < 20; k++) {
                boolean written = k >= 1 && k <= transfers;
                String what = "page " + k + " of the image with power for " + transfers;
                CHECK.is(what, torn[k], written ? whole[k] : 0);
            }
        }
        CHECK.is("turn and names in the first page", whole[0] & 255, 1);
    }

    /** After a sync() of image 1 that may have been torn, with no window to save. */
    private static BubbleBox boxToSync(int transfers) {
        BubbleBox box = Boxes.formatted();
        for (int file = 0; file < 8; file++) {
            box.create(0x01010101 * (file + 1));
        }
        Boxes.fill(box, 7, 258, 0);
        box.byteAt(7, 0);
        box.power(transfers);
        if (transfers < 20) {
            CHECK.illegalState("sync() with power for " + transfers, () -> box.sync());
        } else {
            box.sync();
        }
        box.mount();
        return box;
    }

    private static long[] imagePages(BubbleBox box) {
        long[] pages = new long[20];
        for (int k = 0; k < 20; k++) {
            pages[k] = Boxes.onChip(box, 20 + k);
        }
        return pages;
    }

    private static void syncTurnsWrap() {
        CHECK.sentence("with a turn 1 more than the current one's, modulo 256");
        BubbleBox box = Boxes.formatted();
        for (int turn = 1; turn <= 258; turn++) {
            box.sync();
            if (turn > 253) {
                long firstPage = Boxes.onChip(box, turn % 2 == 0 ? 0 : 20);
                CHECK.is("turn " + turn, firstPage, turn % 256);
            }
        }
        CHECK.is("sum with turn 2", Boxes.onChip(box, 19) >>> 48, 3);
    }

    private static void syncWritesTheOtherImage() {
        CHECK.sentence("and is current.");
        BubbleBox box = Boxes.formatted();
        box.sync();
        CHECK.is("image 1", Boxes.onChip(box, 20), 1);
        box.sync();
        CHECK.is("image 0", Boxes.onChip(box, 0), 2);
        CHECK.is("image 1 as before", Boxes.onChip(box, 20), 1);
        box.mount();
        box.sync();
        CHECK.is("image 1 after mount()", Boxes.onChip(box, 20), 3);
        CHECK.is("image 0 as before", Boxes.onChip(box, 0), 2);
    }

    private static void syncAnswersSteps() {
        CHECK.sentence("How many steps that took.");
        BubbleBox box = Boxes.formatted();
        CHECK.is("sync() from 0: 21 .. 39, 20", box.sync(), 39 + 82);
        CHECK.is("sync() from 20: 1 .. 19, 0", box.sync(), 82 + 18 + 82);
        CHECK.is("steps()", box.steps(), 303 + 121 + 182);
        Boxes.turnTo(box, 21);
        CHECK.is("sync() from 21: 21 .. 39, 20", box.sync(), 18 + 82);
        Boxes.turnTo(box, 2);
        CHECK.is("sync() from 2: 1 .. 19, 0", box.sync(), 100 + 18 + 82);
    }

    private static void syncWhenNotMounted() {
        CHECK.sentence("How many steps that took. IllegalStateException: the box is not mounted.");
        for (BubbleBox box : Boxes.notMounted()) {
            int state = box.state();
            long steps = box.steps();
            CHECK.illegalState("sync() in state " + state, () -> box.sync());
            CHECK.is("state() then", box.state(), state);
            CHECK.is("steps() then", box.steps(), steps);
        }
    }

    private static void syncWithoutPower() {
        CHECK.sentence("the call throws IllegalStateException.");
        BubbleBox box = Boxes.withFile(1);
        box.power(20);
        CHECK.illegalState("sync() with power for 20, one window changed", () -> box.sync());
        CHECK.is("state()", box.state(), 0);
        box.mount();
        CHECK.is("find(1)", box.find(1), BubbleBox.NONE);
        CHECK.is("page that was saved", Boxes.onChip(box, 40), 1);
    }
}
