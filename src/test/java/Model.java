import java.util.ArrayList;
import java.util.HashSet;
import java.util.List;
import java.util.Set;

/**
 * A slow box after the document's words: single bits in loops, single steps, chains as lists.
 * It shares no way of holding things with the program, so that a slip in one shows in the other.
 */
final class Model {
    private static final class Stored {
        int name;
        int length;
        final List<Integer> chain = new ArrayList<>();
        int windowPage = -1;
        boolean[] window = new boolean[64];
        boolean changed;
    }

    private static final class Asked {
        int page;
        boolean write;
        long bits;
        long read;
        boolean done;
    }

    private final boolean[][] loops = new boolean[69][101];
    private final int[] stuckAt = new int[69];
    private List<Integer> map = null;
    private int position = 0;
    private long steps = 0;

    private boolean on = true;
    private boolean mounted = false;
    private int transfers = -1;
    private Stored[] files = new Stored[8];
    private Set<Integer> held = new HashSet<>();
    private int current = 0;
    private int turn = 0;
    private List<Asked> asked = new ArrayList<>();
    private List<Asked> latest = null;

    Model() {
        java.util.Arrays.fill(stuckAt, -1);
    }

    // ---- the chip

    private void step() {
        steps++;
        position = position == 100 ? 0 : position + 1;
    }

    private void transfer(int page) {
        if (transfers == 0) {
            on = false;
            mounted = false;
            throw new IllegalStateException();
        }
        if (transfers > 0) {
            transfers--;
        }
        while (position != page) {
            step();
        }
    }

    private void setBit(int loop, int place, boolean bit) {
        loops[loop][place] = stuckAt[loop] < 0 ? bit : stuckAt[loop] == 1;
    }

    private boolean[] read(int page) {
        transfer(page);
        boolean[] bits = new boolean[64];
        for (int i = 0; i < 64; i++) {
            bits[i] = loops[map.get(i)][page];
        }
        return bits;
    }

    private void write(int page, boolean[] bits) {
        transfer(page);
        for (int i = 0; i < 64; i++) {
            setBit(map.get(i), page, bits[i]);
        }
    }

    private static int byteOf(boolean[] bits, int j) {
        int value = 0;
        for (int i = 7; i >= 0; i--) {
            value = 2 * value + (bits[8 * j + i] ? 1 : 0);
        }
        return value;
    }

    private static void setByte(boolean[] bits, int j, int value) {
        for (int i = 0; i < 8; i++) {
            bits[8 * j + i] = (value >> i & 1) == 1;
        }
    }

    void stuck(int loop, int v) {
        if (loop < 0 || loop > 68 || v < 0 || v > 1) {
            throw new IllegalArgumentException();
        }
        if (map != null) {
            throw new IllegalStateException();
        }
        stuckAt[loop] = v;
        for (int place = 0; place < 101; place++) {
            setBit(loop, place, false);
        }
    }

    void power(int n) {
        if (on) {
            transfers = Math.max(n, -1);
        }
    }

    int state() {
        return !on ? 0 : mounted ? 2 : 1;
    }

    long steps() {
        return steps;
    }

    // ---- images

    private void forget() {
        files = new Stored[8];
        held = new HashSet<>();
        asked = new ArrayList<>();
        latest = null;
        mounted = false;
    }

    boolean format() {
        if (!on) {
            throw new IllegalStateException();
        }
        List<Integer> good = new ArrayList<>();
        for (int loop = 0; loop < 69 && good.size() < 64; loop++) {
            if (stuckAt[loop] < 0) {
                good.add(loop);
            }
        }
        if (good.size() < 64) {
            return false;
        }
        for (int n = 0; n < 202; n++) {
            step();
        }
        map = good;
        for (int loop = 0; loop < 69; loop++) {
            for (int place = 0; place < 101; place++) {
                setBit(loop, place, false);
            }
        }
        forget();
        mounted = true;
        current = 1;
        turn = 255;
        sync();
        return true;
    }

    boolean mount() {
        on = true;
        transfers = -1;
        forget();
        if (map == null) {
            return false;
        }
        while (position != 0) {
            step();
        }
        int[][] images = new int[2][160];
        for (int page = 0; page < 40; page++) {
            boolean[] bits = read(page);
            for (int j = 0; j < 8; j++) {
                images[page / 20][page % 20 * 8 + j] = byteOf(bits, j);
            }
        }
        boolean zero = valid(images[0]);
        boolean one = valid(images[1]);
        if (!zero && !one) {
            return false;
        }
        int more = Math.floorMod(images[1][0] - images[0][0], 256);
        current = one && (!zero || more >= 1 && more <= 127) ? 1 : 0;
        take(images[current]);
        mounted = true;
        return true;
    }

    private static int sum(int[] image) {
        int sum = 1;
        for (int n = 0; n < 158; n++) {
            sum += image[n];
        }
        return sum % 65536;
    }

    private static boolean valid(int[] image) {
        return image[158] + 256 * image[159] == sum(image);
    }

    private void take(int[] image) {
        turn = image[0];
        for (int file = 0; file < 8; file++) {
            int at = 1 + 7 * file;
            int name = image[at] | image[at + 1] << 8 | image[at + 2] << 16 | image[at + 3] << 24;
            if (name != 0) {
                Stored stored = new Stored();
                stored.name = name;
                stored.length = image[at + 5] + 256 * image[at + 6];
                for (int page = image[at + 4]; page != 0; page = image[57 + page]) {
                    stored.chain.add(page);
                }
                files[file] = stored;
                held.addAll(stored.chain);
            }
        }
    }

    private int[] image() {
        int[] image = new int[160];
        image[0] = (turn + 1) % 256;
        for (int file = 0; file < 8; file++) {
            Stored stored = files[file];
            if (stored != null) {
                int at = 1 + 7 * file;
                for (int n = 0; n < 4; n++) {
                    image[at + n] = stored.name >> 8 * n & 255;
                }
                image[at + 4] = stored.chain.isEmpty() ? 0 : stored.chain.get(0);
                image[at + 5] = stored.length % 256;
                image[at + 6] = stored.length / 256;
                for (int n = 1; n < stored.chain.size(); n++) {
                    image[57 + stored.chain.get(n - 1)] = stored.chain.get(n);
                }
            }
        }
        image[158] = sum(image) % 256;
        image[159] = sum(image) / 256;
        return image;
    }

    int sync() {
        needMounted();
        long before = steps;
        for (Stored stored : files) {
            if (stored != null) {
                save(stored);
            }
        }
        int[] image = image();
        int start = current == 0 ? 20 : 0;
        for (int n = 1; n <= 20; n++) {
            boolean[] bits = new boolean[64];
            for (int j = 0; j < 8; j++) {
                setByte(bits, j, image[n % 20 * 8 + j]);
            }
            write(start + n % 20, bits);
        }
        current = 1 - current;
        turn = image[0];
        held = inFiles();
        return (int) (steps - before);
    }

    // ---- files

    private void needMounted() {
        if (!mounted) {
            throw new IllegalStateException();
        }
    }

    private Stored file(int file) {
        needMounted();
        if (file < 0 || file > 7 || files[file] == null) {
            throw new IllegalArgumentException();
        }
        return files[file];
    }

    private Set<Integer> inFiles() {
        Set<Integer> pages = new HashSet<>();
        for (Stored stored : files) {
            if (stored != null) {
                pages.addAll(stored.chain);
            }
        }
        return pages;
    }

    private List<Integer> freePages() {
        Set<Integer> taken = inFiles();
        List<Integer> pages = new ArrayList<>();
        for (int page = 40; page <= 100; page++) {
            if (!taken.contains(page) && !held.contains(page)) {
                pages.add(page);
            }
        }
        return pages;
    }

    private void save(Stored stored) {
        if (stored.changed) {
            write(stored.windowPage, stored.window);
            stored.changed = false;
        }
    }

    private void load(Stored stored, int page) {
        if (stored.windowPage != page) {
            save(stored);
            stored.window = read(page);
            stored.windowPage = page;
        }
    }

    int create(int name) {
        needMounted();
        if (name == 0 || find(name) >= 0) {
            throw new IllegalArgumentException();
        }
        for (int file = 0; file < 8; file++) {
            if (files[file] == null) {
                files[file] = new Stored();
                files[file].name = name;
                return file;
            }
        }
        throw new UnsupportedOperationException();
    }

    int find(int name) {
        needMounted();
        for (int file = 0; file < 8; file++) {
            if (files[file] != null && files[file].name == name) {
                return file;
            }
        }
        return -1;
    }

    int length(int file) {
        return file(file).length;
    }

    int append(int file, int b) {
        Stored stored = file(file);
        List<Integer> pages = freePages();
        int last = stored.chain.size() - 1;
        boolean begins = stored.length % 8 == 0;
        boolean moves = !begins && held.contains(stored.chain.get(last));
        if ((begins || moves) && pages.isEmpty()) {
            throw new UnsupportedOperationException();
        }
        if (begins) {
            save(stored);
            stored.chain.add(pages.get(0));
            stored.windowPage = pages.get(0);
            stored.window = new boolean[64];
        } else {
            load(stored, stored.chain.get(last));
            if (moves) {
                stored.chain.set(last, pages.get(0));
                stored.windowPage = pages.get(0);
            }
        }
        setByte(stored.window, stored.length % 8, b);
        stored.changed = true;
        return ++stored.length;
    }

    int byteAt(int file, int i) {
        Stored stored = file(file);
        if (i < 0 || i >= stored.length) {
            throw new IndexOutOfBoundsException();
        }
        load(stored, stored.chain.get(i / 8));
        return byteOf(stored.window, i % 8);
    }

    int truncate(int file, int n) {
        Stored stored = file(file);
        if (n < 0 || n > stored.length) {
            throw new IllegalArgumentException();
        }
        int gone = 0;
        while (8 * (stored.chain.size() - 1) >= n && !stored.chain.isEmpty()) {
            int page = stored.chain.remove(stored.chain.size() - 1);
            if (stored.windowPage == page) {
                stored.windowPage = -1;
                stored.changed = false;
            }
            gone++;
        }
        stored.length = n;
        return gone;
    }

    int remove(int file) {
        int gone = file(file).chain.size();
        files[file] = null;
        return gone;
    }

    int free() {
        needMounted();
        return freePages().size();
    }

    int pageOf(int file, int i) {
        Stored stored = file(file);
        return i < 0 || i >= stored.chain.size() ? -1 : stored.chain.get(i);
    }

    // ---- requests

    int queue(int page, boolean write, long bits) {
        needMounted();
        if (page < 0 || page > 100) {
            throw new IllegalArgumentException();
        }
        if (asked.size() == 16) {
            throw new UnsupportedOperationException();
        }
        Asked request = new Asked();
        request.page = page;
        request.write = write;
        request.bits = bits;
        asked.add(request);
        return asked.size() - 1;
    }

    int serve() {
        needMounted();
        long before = steps;
        latest = asked;
        asked = new ArrayList<>();
        for (Asked request = next(); request != null; request = next()) {
            request.done = true;
            if (!request.write) {
                boolean[] bits = read(request.page);
                for (int i = 0; i < 64; i++) {
                    request.read |= (bits[i] ? 1L : 0L) << i;
                }
            } else if (freePages().contains(request.page)) {
                boolean[] bits = new boolean[64];
                for (int i = 0; i < 64; i++) {
                    bits[i] = (request.bits >> i & 1) == 1;
                }
                write(request.page, bits);
            }
        }
        return (int) (steps - before);
    }

    private Asked next() {
        for (int n = 0; n < 101; n++) {
            for (Asked request : latest) {
                if (!request.done && request.page == (position + n) % 101) {
                    return request;
                }
            }
        }
        return null;
    }

    long served(int i) {
        needMounted();
        if (latest == null || i < 0 || i >= latest.size()) {
            throw new IndexOutOfBoundsException();
        }
        return latest.get(i).read;
    }
}
