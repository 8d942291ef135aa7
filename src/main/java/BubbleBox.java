/** A box with a chip of magnetic bubbles and files on it; see the document for its promises. */
public final class BubbleBox {
    public static final int NONE = -1;

    private static final int OFF = 0;
    private static final int ON = 1;
    private static final int MOUNTED = 2;

    private static final int LOOPS = 69;
    private static final int MAPPED_LOOPS = 64;
    private static final int PAGES = 101;
    private static final int TEST_STEPS = 202;
    private static final int ENDLESS = -1;

    private static final int FILES = 8;
    private static final int PAGE_BYTES = 8;
    private static final int FIRST_FILE_PAGE = 40;
    /** Page 0 belongs to an image, never to a file: links and windows may use it for "none". */
    private static final int NO_PAGE = 0;

    private static final int IMAGE_PAGES = 20;
    private static final int TURN_AT = 0;
    private static final int FILES_AT = 1;
    private static final int FILE_BYTES = 7;
    private static final int LINKS_AT = 57;
    private static final int SUM_AT = 158;
    private static final int LAST_TURN = 255;
    private static final int NEWER_BY_MOST = 127;

    private static final int MOST_REQUESTS = 16;

    private final Chip chip;
    private final Directory directory;
    private final Requests requests;
    private final Image[] images;
    private int condition;
    private int transfersLeft;
    private int currentImage;
    private int turn;

    public BubbleBox() {
        chip = new Chip();
        directory = new Directory();
        requests = new Requests();
        images = new Image[] {new Image(), new Image()};
        condition = ON;
        transfersLeft = ENDLESS;
        currentImage = 0;
        turn = 0;
    }

    public void stuck(int loop, int v) throws IllegalArgumentException, IllegalStateException {
        if (loop < 0 || loop >= LOOPS) {
            throw new IllegalArgumentException("there is no such loop");
        }
        if (v != 0 && v != 1) {
            throw new IllegalArgumentException("a loop is stuck at 0 or 1");
        }
        if (chip.mapped) {
            throw new IllegalStateException("there is a map");
        }
        chip.bad[loop] = true;
    }

    public void power(int n) {
        if (condition != OFF) {
            transfersLeft = n < 0 ? ENDLESS : n;
        }
    }

    public int state() {
        return condition;
    }

    public long steps() {
        return chip.stepsTaken;
    }

    public boolean format() throws IllegalStateException {
        if (condition == OFF) {
            throw new IllegalStateException("the box is off");
        }
        if (chip.goodLoops() < MAPPED_LOOPS) {
            return false;
        }
        chip.stepsTaken += TEST_STEPS;
        chip.mapped = true;
        chip.clearPages();
        forgetAll();
        condition = MOUNTED;
        currentImage = 1;
        turn = LAST_TURN;
        writeAll();
        return true;
    }

    public boolean mount() {
        condition = ON;
        transfersLeft = ENDLESS;
        forgetAll();
        if (!chip.mapped) {
            return false;
        }
        readImages();
        int newest = newestImage();
        if (newest == NONE) {
            return false;
        }
        currentImage = newest;
        turn = images[newest].number(TURN_AT, 1);
        directory.takeFrom(images[newest]);
        condition = MOUNTED;
        return true;
    }

    public int create(int name) throws IllegalStateException, IllegalArgumentException,
            UnsupportedOperationException {
        needMounted();
        if (name == 0 || directory.numberOf(name) != NONE) {
            throw new IllegalArgumentException("the name is 0 or a file's");
        }
        int file = directory.numberOf(0);
        if (file == NONE) {
            throw new UnsupportedOperationException("there are 8 files");
        }
        directory.entries[file].name = name;
        return file;
    }

    public int find(int name) throws IllegalStateException {
        needMounted();
        return name == 0 ? NONE : directory.numberOf(name);
    }

    public int length(int file) throws IllegalStateException, IllegalArgumentException {
        return entryOf(file).bytes;
    }

    public int append(int file, int b) throws IllegalStateException, IllegalArgumentException,
            UnsupportedOperationException {
        Entry entry = entryOf(file);
        int place = entry.bytes % PAGE_BYTES;
        if (place == 0) {
            openNewPage(entry);
        } else {
            openLastPage(entry);
        }
        entry.putIntoWindow(place, b);
        entry.bytes++;
        return entry.bytes;
    }

    public int byteAt(int file, int i) throws IllegalStateException, IllegalArgumentException,
            IndexOutOfBoundsException {
        Entry entry = entryOf(file);
        if (i < 0 || i >= entry.bytes) {
            throw new IndexOutOfBoundsException("there is no such byte");
        }
        load(entry, directory.pageAt(entry, i / PAGE_BYTES));
        return entry.byteInWindow(i % PAGE_BYTES);
    }

    public int truncate(int file, int n) throws IllegalStateException, IllegalArgumentException {
        Entry entry = entryOf(file);
        if (n < 0 || n > entry.bytes) {
            throw new IllegalArgumentException("n is not 0 .. the length");
        }
        return directory.shorten(entry, n);
    }

    public int remove(int file) throws IllegalStateException, IllegalArgumentException {
        Entry entry = entryOf(file);
        int gone = directory.shorten(entry, 0);
        entry.forget();
        return gone;
    }

    public int sync() throws IllegalStateException {
        needMounted();
        return writeAll();
    }

    public int free() throws IllegalStateException {
        needMounted();
        return directory.countFree();
    }

    public int pageOf(int file, int i) throws IllegalStateException, IllegalArgumentException {
        Entry entry = entryOf(file);
        if (i < 0 || i >= pagesFor(entry.bytes)) {
            return NONE;
        }
        return directory.pageAt(entry, i);
    }

    public int queue(int page, boolean write, long bits) throws IllegalStateException,
            IllegalArgumentException, UnsupportedOperationException {
        needMounted();
        if (page < 0 || page >= PAGES) {
            throw new IllegalArgumentException("there is no such page");
        }
        if (requests.asked >= MOST_REQUESTS) {
            throw new UnsupportedOperationException("there are 16 requests");
        }
        return requests.ask(page, write, bits);
    }

    public int serve() throws IllegalStateException {
        needMounted();
        long before = chip.stepsTaken;
        requests.begin();
        for (int n = 0; n < requests.answered; n++) {
            int request = requests.takeNearest(chip);
            if (request != NONE) {
                transferAsked(request);
            }
        }
        return (int) (chip.stepsTaken - before);
    }

    public long served(int i) throws IllegalStateException, IndexOutOfBoundsException {
        needMounted();
        if (i < 0 || i >= requests.answered) {
            throw new IndexOutOfBoundsException("the latest serve() had no such request");
        }
        return requests.answers[i];
    }

    private static int pagesFor(int bytes) {
        return (bytes + PAGE_BYTES - 1) / PAGE_BYTES;
    }

    private void needMounted() {
        if (condition != MOUNTED) {
            throw new IllegalStateException("the box is not mounted");
        }
    }

    private Entry entryOf(int file) {
        needMounted();
        if (file < 0 || file >= FILES || directory.entries[file].name == 0) {
            throw new IllegalArgumentException("there is no such file");
        }
        return directory.entries[file];
    }

    private void forgetAll() {
        directory.forget();
        requests.forget();
    }

    /** Nothing else need be forgotten here: only mount() leads on from off, and that forgets. */
    private void usePower() {
        if (transfersLeft == 0) {
            condition = OFF;
            throw new IllegalStateException("power went off");
        }
        if (transfersLeft > 0) {
            transfersLeft--;
        }
    }

    private long readPage(int page) {
        usePower();
        chip.turnTo(page);
        return chip.pages[page];
    }

    private void writePage(int page, long bits) {
        usePower();
        chip.turnTo(page);
        chip.pages[page] = bits;
    }

    private void save(Entry entry) {
        if (entry.changed) {
            writePage(entry.windowPage, entry.windowBits);
            entry.changed = false;
        }
    }

    private void load(Entry entry, int page) {
        if (entry.windowPage == page) {
            return;
        }
        save(entry);
        long bits = readPage(page);
        entry.openWindow(page, bits);
    }

    private void openNewPage(Entry entry) {
        int page = neededFreePage();
        save(entry);
        directory.addPage(entry, page);
        entry.openWindow(page, 0L);
    }

    private void openLastPage(Entry entry) {
        int last = directory.pageAt(entry, pagesFor(entry.bytes) - 1);
        if (!directory.held[last]) {
            load(entry, last);
            return;
        }
        // asked for before the load, since without a free page no transfer may be made
        int page = neededFreePage();
        load(entry, last);
        directory.replaceLastPage(entry, page);
        entry.openWindow(page, entry.windowBits);
    }

    private int neededFreePage() {
        int page = directory.leastFree();
        if (page == NONE) {
            throw new UnsupportedOperationException("no page is free");
        }
        return page;
    }

    private int writeAll() {
        long before = chip.stepsTaken;
        for (int file = 0; file < FILES; file++) {
            save(directory.entries[file]);
        }
        writeOtherImage();
        directory.holdOwned();
        return (int) (chip.stepsTaken - before);
    }

    private void writeOtherImage() {
        int other = 1 - currentImage;
        int nextTurn = (turn + 1) & LAST_TURN;
        Image image = images[other];
        directory.putInto(image, nextTurn);
        int start = other * IMAGE_PAGES;
        for (int k = 1; k < IMAGE_PAGES; k++) {
            writePage(start + k, image.pages[k]);
        }
        writePage(start, image.pages[0]);
        currentImage = other;
        turn = nextTurn;
    }

    private void readImages() {
        for (int which = 0; which < 2; which++) {
            for (int k = 0; k < IMAGE_PAGES; k++) {
                images[which].pages[k] = readPage(which * IMAGE_PAGES + k);
            }
        }
    }

    private int newestImage() {
        boolean valid0 = images[0].isValid();
        boolean valid1 = images[1].isValid();
        if (valid0 && valid1) {
            int ahead = (images[1].number(TURN_AT, 1) - images[0].number(TURN_AT, 1)) & LAST_TURN;
            return ahead >= 1 && ahead <= NEWER_BY_MOST ? 1 : 0;
        }
        if (valid0) {
            return 0;
        }
        return valid1 ? 1 : NONE;
    }

    private void transferAsked(int request) {
        int page = requests.page[request];
        if (!requests.write[request]) {
            requests.answers[request] = readPage(page);
        } else if (directory.isFree(page)) {
            writePage(page, requests.bits[request]);
        }
    }

    /**
     * What stays without power. The map takes no stuck loop, and no loop gets stuck once there is
     * a map: so no bit of a stuck loop is ever seen, and a page's 64 bits can stand in one long.
     */
    private static final class Chip {
        private final long[] pages;
        private final boolean[] bad;
        private boolean mapped;
        private int position;
        private long stepsTaken;

        private Chip() {
            pages = new long[PAGES];
            bad = new boolean[LOOPS];
            mapped = false;
            position = 0;
            stepsTaken = 0L;
        }

        private int stepsTo(int page) {
            return page >= position ? page - position : page - position + PAGES;
        }

        private void turnTo(int page) {
            stepsTaken += stepsTo(page);
            position = page;
        }

        private int goodLoops() {
            int good = 0;
            for (int loop = 0; loop < LOOPS; loop++) {
                if (!bad[loop]) {
                    good++;
                }
            }
            return good;
        }

        private void clearPages() {
            for (int page = 0; page < PAGES; page++) {
                pages[page] = 0L;
            }
        }
    }

    /** A number of a file with what belongs to it; there is no such file while the name is 0. */
    private static final class Entry {
        private int name;
        private int firstPage;
        private int bytes;
        private int windowPage;
        private long windowBits;
        private boolean changed;

        private Entry() {
            name = 0;
            firstPage = NO_PAGE;
            bytes = 0;
            windowPage = NO_PAGE;
            windowBits = 0L;
            changed = false;
        }

        private void forget() {
            name = 0;
            firstPage = NO_PAGE;
            bytes = 0;
            openWindow(NO_PAGE, 0L);
        }

        private void openWindow(int page, long bits) {
            windowPage = page;
            windowBits = bits;
            changed = false;
        }

        private void putIntoWindow(int place, int b) {
            int shift = 8 * place;
            windowBits = (windowBits & ~(255L << shift)) | ((b & 255L) << shift);
            changed = true;
        }

        private int byteInWindow(int place) {
            return (int) (windowBits >>> (8 * place)) & 255;
        }
    }

    /** The files, their chains, and which pages are in files: now, and in the current image. */
    private static final class Directory {
        private final Entry[] entries;
        private final int[] behind;
        private final boolean[] owned;
        private final boolean[] held;

        private Directory() {
            entries = new Entry[FILES];
            for (int file = 0; file < FILES; file++) {
                entries[file] = new Entry();
            }
            behind = new int[PAGES];
            owned = new boolean[PAGES];
            held = new boolean[PAGES];
        }

        private void forget() {
            for (int file = 0; file < FILES; file++) {
                entries[file].forget();
            }
            for (int page = 0; page < PAGES; page++) {
                behind[page] = NO_PAGE;
                owned[page] = false;
                held[page] = false;
            }
        }

        /** With the name 0, the least number that no file has. */
        private int numberOf(int name) {
            for (int file = 0; file < FILES; file++) {
                if (entries[file].name == name) {
                    return file;
                }
            }
            return NONE;
        }

        private boolean isFree(int page) {
            return page >= FIRST_FILE_PAGE && !owned[page] && !held[page];
        }

        private int leastFree() {
            for (int page = FIRST_FILE_PAGE; page < PAGES; page++) {
                if (isFree(page)) {
                    return page;
                }
            }
            return NONE;
        }

        private int countFree() {
            int count = 0;
            for (int page = FIRST_FILE_PAGE; page < PAGES; page++) {
                if (isFree(page)) {
                    count++;
                }
            }
            return count;
        }

        private int pageAt(Entry entry, int place) {
            int page = entry.firstPage;
            for (int n = 0; n < place; n++) {
                page = behind[page];
            }
            return page;
        }

        private void putPageAt(Entry entry, int place, int page) {
            if (place == 0) {
                entry.firstPage = page;
            } else {
                behind[pageAt(entry, place - 1)] = page;
            }
        }

        private void addPage(Entry entry, int page) {
            putPageAt(entry, pagesFor(entry.bytes), page);
            owned[page] = true;
        }

        private void replaceLastPage(Entry entry, int page) {
            int place = pagesFor(entry.bytes) - 1;
            owned[pageAt(entry, place)] = false;
            putPageAt(entry, place, page);
            owned[page] = true;
        }

        private int shorten(Entry entry, int bytes) {
            int kept = pagesFor(bytes);
            int gone = pagesFor(entry.bytes) - kept;
            if (gone > 0) {
                int page = pageAt(entry, kept);
                putPageAt(entry, kept, NO_PAGE);
                giveUp(entry, page, gone);
            }
            entry.bytes = bytes;
            return gone;
        }

        private void giveUp(Entry entry, int first, int count) {
            int page = first;
            for (int n = 0; n < count; n++) {
                int next = behind[page];
                behind[page] = NO_PAGE;
                owned[page] = false;
                if (entry.windowPage == page) {
                    entry.openWindow(NO_PAGE, 0L);
                }
                page = next;
            }
        }

        private void holdOwned() {
            for (int page = 0; page < PAGES; page++) {
                held[page] = owned[page];
            }
        }

        private void putInto(Image image, int turn) {
            image.clear();
            image.putNumber(TURN_AT, 1, turn);
            for (int file = 0; file < FILES; file++) {
                int at = FILES_AT + file * FILE_BYTES;
                Entry entry = entries[file];
                image.putNumber(at, 4, entry.name);
                image.putNumber(at + 4, 1, entry.firstPage);
                image.putNumber(at + 5, 2, entry.bytes);
            }
            for (int page = 0; page < PAGES; page++) {
                image.putNumber(LINKS_AT + page, 1, behind[page]);
            }
            image.putNumber(SUM_AT, 2, image.dueSum());
        }

        private void takeFrom(Image image) {
            for (int page = 0; page < PAGES; page++) {
                behind[page] = image.pageNumber(LINKS_AT + page);
            }
            for (int file = 0; file < FILES; file++) {
                int at = FILES_AT + file * FILE_BYTES;
                Entry entry = entries[file];
                entry.name = image.number(at, 4);
                entry.firstPage = image.pageNumber(at + 4);
                entry.bytes = image.number(at + 5, 2);
                ownChain(entry);
            }
            holdOwned();
        }

        private void ownChain(Entry entry) {
            int page = entry.firstPage;
            int count = pagesFor(entry.bytes);
            for (int n = 0; n < count; n++) {
                owned[page] = true;
                page = behind[page];
            }
        }
    }

    /** The bytes of an image on their way to or from the chip. */
    private static final class Image {
        private final long[] pages;

        private Image() {
            pages = new long[IMAGE_PAGES];
        }

        private void clear() {
            for (int k = 0; k < IMAGE_PAGES; k++) {
                pages[k] = 0L;
            }
        }

        private int number(int at, int bytes) {
            int value = 0;
            for (int n = 0; n < bytes; n++) {
                int i = at + n;
                int b = (int) (pages[i / PAGE_BYTES] >>> (8 * (i % PAGE_BYTES))) & 255;
                value |= b << (8 * n);
            }
            return value;
        }

        /** Looked at here once, so that every link of a chain may be used as an index. */
        private int pageNumber(int at) {
            int page = number(at, 1);
            return page < PAGES ? page : NO_PAGE;
        }

        /** Into bytes that are still 0. */
        private void putNumber(int at, int bytes, int value) {
            for (int n = 0; n < bytes; n++) {
                int i = at + n;
                long b = (value >>> (8 * n)) & 255;
                pages[i / PAGE_BYTES] |= b << (8 * (i % PAGE_BYTES));
            }
        }

        /** Below 65536 without a modulus: 158 bytes are at most 40290. */
        private int dueSum() {
            int sum = 1;
            for (int at = 0; at < SUM_AT; at++) {
                sum += number(at, 1);
            }
            return sum;
        }

        private boolean isValid() {
            return number(SUM_AT, 2) == dueSum();
        }
    }

    /** What was asked for since the latest serve(), and apart from it what that one answered. */
    private static final class Requests {
        private final int[] page;
        private final boolean[] write;
        private final long[] bits;
        private final boolean[] waiting;
        private final long[] answers;
        private int asked;
        private int answered;

        private Requests() {
            page = new int[MOST_REQUESTS];
            write = new boolean[MOST_REQUESTS];
            bits = new long[MOST_REQUESTS];
            waiting = new boolean[MOST_REQUESTS];
            answers = new long[MOST_REQUESTS];
            asked = 0;
            answered = 0;
        }

        private void forget() {
            asked = 0;
            answered = 0;
        }

        private int ask(int ofPage, boolean toWrite, long newBits) {
            int request = asked;
            page[request] = ofPage;
            write[request] = toWrite;
            bits[request] = newBits;
            asked++;
            return request;
        }

        private void begin() {
            for (int request = 0; request < asked; request++) {
                waiting[request] = true;
                answers[request] = 0L;
            }
            answered = asked;
            asked = 0;
        }

        private int takeNearest(Chip chip) {
            int nearest = NONE;
            int least = PAGES;
            for (int request = 0; request < answered; request++) {
                int distance = chip.stepsTo(page[request]);
                if (waiting[request] && distance < least) {
                    nearest = request;
                    least = distance;
                }
            }
            if (nearest != NONE) {
                waiting[nearest] = false;
            }
            return nearest;
        }
    }
}
