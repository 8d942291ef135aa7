/** Boxes in states that many tests begin with. */
final class Boxes {
    private Boxes() {
    }

    static BubbleBox formatted() {
        BubbleBox box = new BubbleBox();
        box.format();
        return box;
    }

    /** With no transfer left, and one asked for. */
    static BubbleBox off() {
        BubbleBox box = formatted();
        box.power(0);
        try {
            box.sync();
        } catch (IllegalStateException e) {
            return box;
        }
        throw new AssertionError("sync() without power did not fail");
    }

    /** The bytes first, first + 1, ... behind a file's. */
    static void fill(BubbleBox box, int file, int count, int first) {
        for (int n = 0; n < count; n++) {
            box.append(file, first + n);
        }
    }

    /** What the chip holds in a page, by a request of its own. */
    static long onChip(BubbleBox box, int page) {
        int request = box.queue(page, false, 0);
        box.serve();
        return box.served(request);
    }
}
