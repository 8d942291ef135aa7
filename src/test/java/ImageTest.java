/** Promises 6, 7 and 15: format, mount, sync. */
public final class ImageTest {
    private static final Check CHECK = new Check();

    public static void main(String[] args) {
        formatAnswers();
        formatRefused();
        formatForgets();
        formatWithoutPower();
        formatTornIsThereByChance();
        formatKeepsPower();
        mountForgets();
        mountSteps();
        mountReadsLinks();
        mountTakesTheNewerImage();
        mountTakesTheNewerImageOverTheWrap();
        mountAfterTornSync();
        syncSavesWindows();
        syncOrderOfTransfers();
        syncSteps();
        syncHoldsAndReleases();
        imageOfNoFiles();
        imageAfterFormatAgain();
        imageBytes();
        imageAfterTruncate();
        imageAfterPagesMoved();
        CHECK.end();
    }

    private static void formatAnswers() {
        BubbleBox box = new BubbleBox();
        for (int loop = 20; loop < 25; loop++) {
            box.stuck(loop, 1);
        }
        CHECK.is("format() with 5 stuck", box.format(), true);
        CHECK.is("state()", box.state(), 2);
        CHECK.is("steps()", box.steps(), 303);
        CHECK.is("free()", box.free(), 61);
        CHECK.is("format() again", box.format(), true);
        CHECK.is("steps()", box.steps(), 606);
    }

    private static void formatRefused() {
        BubbleBox box = new BubbleBox();
        for (int loop = 20; loop < 26; loop++) {
            box.stuck(loop, 0);
        }
        CHECK.is("format() with 6 stuck", box.format(), false);
        CHECK.is("state()", box.state(), 1);
        CHECK.is("steps()", box.steps(), 0);
        CHECK.is("mount() without a map", box.mount(), false);
        box.stuck(0, 0);
        CHECK.is("format() with 7 stuck", box.format(), false);
    }

    private static void formatForgets() {
        BubbleBox box = Boxes.formatted();
        box.create(5);
        Boxes.fill(box, 0, 20, 1);
        box.sync();
        box.append(0, 9);
        box.queue(90, true, 4);
        box.serve();
        box.queue(91, true, 4);
        CHECK.is("format()", box.format(), true);
        CHECK.is("find()", box.find(5), BubbleBox.NONE);
        CHECK.is("free()", box.free(), 61);
        CHECK.outOfBounds("served(0)", () -> box.served(0));
        CHECK.is("serve() of nothing", box.serve(), 0);
        for (int page = 20; page < 101; page++) {
            CHECK.is("page " + page, Boxes.onChip(box, page), 0);
        }
    }

    private static void formatWithoutPower() {
        BubbleBox box = Boxes.formatted();
        box.create(5);
        box.sync();
        box.power(0);
        long before = box.steps();
        CHECK.illegalState("format() without power", () -> box.format());
        CHECK.is("steps of the test of loops", box.steps() - before, 202);
        CHECK.is("state()", box.state(), 0);
        CHECK.illegalState("format() when off", () -> box.format());
        CHECK.is("steps() unchanged when off", box.steps() - before, 202);
        CHECK.is("mount() when all bits are 0", box.mount(), false);
        CHECK.is("state()", box.state(), 1);
        CHECK.is("format() when on", box.format(), true);
        CHECK.is("mount()", box.mount(), true);
    }

    /** Image 0 of no files with turn 0 has only zeros in its first page: it need not be written. */
    private static void formatTornIsThereByChance() {
        BubbleBox box = new BubbleBox();
        box.power(18);
        CHECK.illegalState("format() with power for 18", () -> box.format());
        CHECK.is("mount() without the last page", box.mount(), false);
        box.power(19);
        CHECK.illegalState("format() with power for 19", () -> box.format());
        CHECK.is("mount() without the first page", box.mount(), true);
        CHECK.is("free()", box.free(), 61);
    }

    private static void formatKeepsPower() {
        BubbleBox box = new BubbleBox();
        box.power(21);
        CHECK.is("format() with power for 21", box.format(), true);
        Boxes.onChip(box, 3);
        box.queue(3, false, 0);
        CHECK.illegalState("serve() of one transfer more", () -> box.serve());
    }

    private static void mountForgets() {
        BubbleBox box = Boxes.formatted();
        box.create(5);
        Boxes.fill(box, 0, 3, 1);
        box.sync();
        box.create(6);
        Boxes.fill(box, 0, 3, 4);
        box.queue(90, true, 4);
        box.serve();
        box.queue(91, true, 4);
        box.power(0);
        CHECK.is("mount() of a mounted box", box.mount(), true);
        CHECK.is("find(5)", box.find(5), 0);
        CHECK.is("find(6)", box.find(6), BubbleBox.NONE);
        CHECK.is("length(0)", box.length(0), 3);
        CHECK.is("free()", box.free(), 60);
        CHECK.outOfBounds("served(0)", () -> box.served(0));
        CHECK.is("serve() of nothing", box.serve(), 0);
        CHECK.outOfBounds("served(0) of nothing", () -> box.served(0));
        CHECK.is("what was served stays on the chip", Boxes.onChip(box, 90), 4);
        CHECK.is("what was only asked for does not", Boxes.onChip(box, 91), 0);
        box.mount();
        long before = box.steps();
        CHECK.is("byteAt(0, 2)", box.byteAt(0, 2), 3);
        CHECK.is("steps to a page that no window holds", box.steps() - before, 1);
    }

    private static void mountSteps() {
        BubbleBox box = Boxes.formatted();
        box.mount();
        CHECK.is("steps() with P at 0", box.steps(), 303 + 39);
        box.mount();
        CHECK.is("steps() with P at 39", box.steps(), 303 + 39 + 62 + 39);
    }

    private static void mountReadsLinks() {
        BubbleBox box = Boxes.formatted();
        box.create(Integer.MIN_VALUE);
        box.create(-1);
        box.create(0x01020304);
        for (int n = 0; n < 20; n++) {
            box.append(0, 3 * n);
            box.append(2, 255 - n);
        }
        box.remove(1);
        box.sync();
        box.mount();
        CHECK.is("find() of the least name", box.find(Integer.MIN_VALUE), 0);
        CHECK.is("find() of a name that is gone", box.find(-1), BubbleBox.NONE);
        CHECK.is("find() of four bytes", box.find(0x01020304), 2);
        for (int n = 0; n < 20; n++) {
            CHECK.is("byteAt(0, " + n + ")", box.byteAt(0, n), 3 * n);
            CHECK.is("byteAt(2, " + n + ")", box.byteAt(2, n), 255 - n);
        }
        for (int n = 0; n < 3; n++) {
            CHECK.is("pageOf(0, " + n + ")", box.pageOf(0, n), 40 + 2 * n);
            CHECK.is("pageOf(2, " + n + ")", box.pageOf(2, n), 41 + 2 * n);
        }
        CHECK.is("pageOf(0, 3)", box.pageOf(0, 3), BubbleBox.NONE);
        CHECK.is("create(1)", box.create(1), 1);
        CHECK.is("append(1, 1)", box.append(1, 1), 1);
        CHECK.is("pageOf(1, 0)", box.pageOf(1, 0), 46);
    }

    private static void mountTakesTheNewerImage() {
        BubbleBox box = Boxes.formatted();
        box.create(1);
        for (int n = 1; n <= 5; n++) {
            box.append(0, n);
            box.sync();
            box.mount();
            CHECK.is("length(0) after sync() " + n, box.length(0), n);
        }
    }

    private static void mountTakesTheNewerImageOverTheWrap() {
        BubbleBox box = Boxes.formatted();
        for (int n = 1; n <= 125; n++) {
            box.sync();
        }
        box.create(1);
        int syncs = 125;
        for (int n = 1; n <= 6; n++) {
            box.append(0, n);
            box.sync();
            syncs++;
            box.mount();
            CHECK.is("length(0) with turn " + syncs, box.length(0), n);
        }
        while (syncs < 253) {
            box.sync();
            syncs++;
        }
        for (int n = 7; n <= 13; n++) {
            box.append(0, n);
            box.sync();
            syncs++;
            box.mount();
            CHECK.is("length(0) with turn " + syncs, box.length(0), n);
            long firstPage = Boxes.onChip(box, syncs % 2 == 0 ? 0 : 20);
            CHECK.is("turn " + syncs, firstPage & 255, syncs % 256);
        }
    }

    /** With power for any number of transfers too few, the file is as it was synced last. */
    private static void mountAfterTornSync() {
        for (int transfers = 0; transfers <= 21; transfers++) {
            BubbleBox box = Boxes.formatted();
            box.create(1);
            Boxes.fill(box, 0, 12, 100);
            box.sync();
            box.truncate(0, 10);
            Boxes.fill(box, 0, 5, 200);
            box.power(transfers);
            if (transfers < 21) {
                CHECK.illegalState("sync() with power for " + transfers, () -> box.sync());
            } else {
                box.sync();
            }
            CHECK.is("mount()", box.mount(), true);
            boolean whole = transfers == 21;
            CHECK.is("length(0)", box.length(0), whole ? 15 : 12);
            CHECK.is("byteAt(0, 9)", box.byteAt(0, 9), 109);
            CHECK.is("byteAt(0, 10)", box.byteAt(0, 10), whole ? 200 : 110);
            CHECK.is("pageOf(0, 1)", box.pageOf(0, 1), whole ? 42 : 41);
            CHECK.is("free()", box.free(), 59);
            CHECK.is("append(0, 1)", box.append(0, 1), whole ? 16 : 13);
            box.sync();
            box.mount();
            CHECK.is("length(0) with one more", box.length(0), whole ? 16 : 13);
        }
    }

    private static void syncSavesWindows() {
        BubbleBox box = Boxes.formatted();
        box.create(1);
        box.append(0, 0x1FF);
        box.append(0, 2);
        CHECK.is("page before sync()", Boxes.onChip(box, 40), 0);
        box.sync();
        CHECK.is("page after sync()", Boxes.onChip(box, 40), 0x2FF);
        long before = box.steps();
        CHECK.is("byteAt(0, 1) in the window still", box.byteAt(0, 1), 2);
        CHECK.is("steps of that", box.steps() - before, 0);
        box.power(20);
        box.sync();
        CHECK.is("sync() with no window changed: 20 transfers", box.state(), 2);
    }

    /** File 0 lies behind file 1 on the chip, and is saved first all the same. */
    private static void syncOrderOfTransfers() {
        BubbleBox box = Boxes.formatted();
        box.create(1);
        box.create(2);
        box.append(1, 22);
        box.append(0, 11);
        CHECK.is("pageOf(1, 0)", box.pageOf(1, 0), 40);
        CHECK.is("sync(): 41, 40, 21 .. 39, 20", box.sync(), 41 + 100 + 82 + 18 + 82);
        CHECK.is("sync(): 1 .. 19, 0", box.sync(), 82 + 18 + 82);
        box.append(1, 23);
        box.append(0, 12);
        box.power(1);
        CHECK.illegalState("sync() with power for one", () -> box.sync());
        box.mount();
        CHECK.is("page of file 0", Boxes.onChip(box, 43), 0x0C0B);
        CHECK.is("page of file 1", Boxes.onChip(box, 42), 0);
    }

    private static void syncSteps() {
        BubbleBox box = Boxes.formatted();
        CHECK.is("sync() from 0: 21 .. 39, 20", box.sync(), 39 + 82);
        CHECK.is("sync() from 20: 1 .. 19, 0", box.sync(), 82 + 18 + 82);
        CHECK.is("steps()", box.steps(), 303 + 121 + 182);
    }

    private static void syncHoldsAndReleases() {
        BubbleBox box = Boxes.formatted();
        box.create(1);
        Boxes.fill(box, 0, 24, 0);
        box.sync();
        box.truncate(0, 0);
        CHECK.is("free() with 3 held", box.free(), 58);
        box.sync();
        CHECK.is("free() with none held", box.free(), 61);
    }

    private static void imageOfNoFiles() {
        checkImage(Boxes.formatted(), 0, new int[160]);
    }

    private static void imageAfterFormatAgain() {
        BubbleBox box = Boxes.formatted();
        box.create(1);
        Boxes.fill(box, 0, 30, 0);
        box.sync();
        box.format();
        checkImage(box, 0, new int[160]);
        box.mount();
        box.format();
        checkImage(box, 0, new int[160]);
    }

    private static void imageBytes() {
        BubbleBox box = Boxes.formatted();
        box.create(-2);
        box.create(0x01020304);
        box.create(3);
        box.create(4);
        Boxes.fill(box, 1, 20, 0);
        Boxes.fill(box, 2, 8, 0);
        box.remove(0);
        Boxes.fill(box, 3, 300, 0);
        box.truncate(3, 299);
        box.remove(2);
        box.sync();
        int[] due = new int[160];
        due[0] = 1;
        due[8] = 4;
        due[9] = 3;
        due[10] = 2;
        due[11] = 1;
        due[12] = 40;
        due[13] = 20;
        due[22] = 4;
        due[26] = 44;
        due[27] = 299 - 256;
        due[28] = 1;
        due[57 + 40] = 41;
        due[57 + 41] = 42;
        for (int page = 44; page < 81; page++) {
            due[57 + page] = page + 1;
        }
        checkImage(box, 1, due);
    }

    private static void imageAfterTruncate() {
        BubbleBox box = Boxes.formatted();
        box.create(1);
        box.create(2);
        Boxes.fill(box, 0, 40, 0);
        Boxes.fill(box, 1, 10, 0);
        box.truncate(0, 9);
        box.truncate(1, 0);
        box.sync();
        int[] due = new int[160];
        due[0] = 1;
        due[1] = 1;
        due[5] = 40;
        due[6] = 9;
        due[8] = 2;
        due[57 + 40] = 41;
        checkImage(box, 1, due);
    }

    private static void imageAfterPagesMoved() {
        BubbleBox box = Boxes.formatted();
        box.create(1);
        Boxes.fill(box, 0, 10, 0);
        box.sync();
        box.append(0, 10);
        box.sync();
        box.mount();
        box.append(0, 11);
        Boxes.fill(box, 0, 5, 0);
        box.sync();
        CHECK.is("pageOf(0, 2)", box.pageOf(0, 2), 43);
        int[] due = new int[160];
        due[0] = 3;
        due[1] = 1;
        due[5] = 40;
        due[6] = 17;
        due[57 + 40] = 41;
        due[57 + 41] = 43;
        checkImage(box, 1, due);
        box.sync();
        due[0] = 4;
        checkImage(box, 0, due);
    }

    /** The sum is put behind the bytes that are due. */
    private static void checkImage(BubbleBox box, int image, int[] due) {
        int sum = 1;
        for (int n = 0; n < 158; n++) {
            sum += due[n];
        }
        due[158] = sum % 256;
        due[159] = sum / 256;
        for (int k = 0; k < 20; k++) {
            long bits = Boxes.onChip(box, 20 * image + k);
            for (int j = 0; j < 8; j++) {
                int n = 8 * k + j;
                CHECK.is("byte " + n + " of image " + image, bits >>> 8 * j & 255, due[n]);
            }
        }
    }
}
