/** Boxes in states that many tests begin with. */
final class Boxes {
    private Boxes() {
    }

    static BubbleBox formatted() {
        BubbleBox box = new BubbleBox();
        box.format();
        return box;
    }

    /** With file 0, named 1, of the bytes 1, 2, ...; not synced. */
    static BubbleBox withFile(int bytes) {
        BubbleBox box = formatted();
        box.create(1);
        fill(box, 0, bytes, 1);
        return box;
    }

    /** Formatted, and then without power in sync(). */
    static BubbleBox off() {
        BubbleBox box = formatted();
        loseAllPower(box);
        return box;
    }

    /** On, with a map, but without a valid image, since format() had no power for its sync(). */
    static BubbleBox withoutImage() {
        BubbleBox box = new BubbleBox();
        box.power(0);
        try {
            box.format();
        } catch (IllegalStateException e) {
            box.mount();
            return box;
        }
        throw new AssertionError("format() without power did not fail");
    }

    /** New, off, and on without a valid image: all the ways not to be mounted. */
    static BubbleBox[] notMounted() {
        return new BubbleBox[] {new BubbleBox(), off(), withoutImage()};
    }

    static void loseAllPower(BubbleBox box) {
        losePower(box, 0);
    }

    /** In sync(), which must need more transfers than these. */
    static void losePower(BubbleBox box, int transfers) {
        box.power(transfers);
        try {
            box.sync();
        } catch (IllegalStateException e) {
            return;
        }
        throw new AssertionError("sync() with power for " + transfers + " did not fail");
    }

    /** The bytes first, first + 1, ... behind a file's. */
    static void fill(BubbleBox box, int file, int count, int first) {
        for (int n = 0; n < count; n++) {
            box.append(file, first + n);
        }
    }

    /** What the chip holds in a page, by a request of its own. */
    static long onChip(BubbleBox box, int page) {
        int request = box.queue(page, false, 0);
        box.serve();
        return box.served(request);
    }

    /** So that P is there. */
    static void turnTo(BubbleBox box, int page) {
        onChip(box, page);
    }
}
