import java.util.Random;
import java.util.function.LongSupplier;

/** All promises: runs of calls on a box and on the model, with the same answers everywhere. */
public final class ModelTest {
    private static final int RUNS = 600;
    /** The document promises nothing for calls behind these. */
    private static final int MOST_CALLS = 512;
    private static final String THROWS = "throws.";
    private static final Check CHECK = new Check();

    private final Random random;
    private final BubbleBox box = new BubbleBox();
    private final Model model = new Model();
    private final int seed;
    /** Some runs lose power often, some fill the box, some sync a lot. */
    private final int powerCuts;
    private final int appends;
    private final int syncs;
    private final int longest;
    private int calls = 0;

    private ModelTest(int seed) {
        this.seed = seed;
        random = new Random(seed);
        powerCuts = random.nextInt(4);
        appends = 4 + random.nextInt(60);
        syncs = 1 + random.nextInt(8);
        longest = random.nextInt(4) == 0 ? 200 : 12;
    }

    public static void main(String[] args) {
        for (int seed = 0; seed < RUNS; seed++) {
            new ModelTest(seed).run();
        }
        CHECK.end();
    }

    private void run() {
        for (int n = random.nextInt(random.nextInt(20) == 0 ? 12 : 6); n > 0; n--) {
            int loop = between(-1, 69);
            int v = random.nextInt(20) == 0 ? between(-1, 2) : random.nextInt(2);
            same("stuck(" + loop + ", " + v + ")", () -> none(() -> box.stuck(loop, v)),
                    () -> none(() -> model.stuck(loop, v)));
        }
        format();
        while (calls < MOST_CALLS) {
            call();
            if (random.nextInt(4) == 0) {
                same("state()", box::state, model::state);
                same("steps()", box::steps, model::steps);
            }
        }
    }

    private void call() {
        if (model.state() != 2 && random.nextInt(3) == 0) {
            mount();
            if (model.state() == 1) {
                format();
            }
            return;
        }
        int kind = random.nextInt(40 + appends + syncs + powerCuts);
        if (kind < 20) {
            fileCall(kind);
        } else if (kind < 34) {
            requestCall(kind);
        } else if (kind < 40) {
            rareCall();
        } else if (kind < 40 + appends) {
            append();
        } else if (kind < 40 + appends + syncs) {
            same("sync()", box::sync, model::sync);
        } else {
            power(random.nextInt(3) == 0 ? -1 : random.nextInt(50));
        }
    }

    private void fileCall(int kind) {
        int file = anyFile();
        int length = lengthOf(file);
        int i = between(length > 0 && random.nextInt(6) != 0 ? 0 : -1, Math.max(length, 0));
        if (kind < 5) {
            int name = between(0, 14);
            same("create(" + name + ")", () -> box.create(name), () -> model.create(name));
        } else if (kind < 6) {
            int name = between(0, 9);
            same("find(" + name + ")", () -> box.find(name), () -> model.find(name));
        } else if (kind < 7) {
            same("length(" + file + ")", () -> box.length(file), () -> model.length(file));
        } else if (kind < 13) {
            same("byteAt(" + file + ", " + i + ")", () -> box.byteAt(file, i),
                    () -> model.byteAt(file, i));
        } else if (kind < 15) {
            int least = random.nextInt(3) == 0 ? -1 : length - 9;
            int n = between(least, Math.max(length, 0) + random.nextInt(2));
            same("truncate(" + file + ", " + n + ")", () -> box.truncate(file, n),
                    () -> model.truncate(file, n));
        } else if (kind < 16) {
            int any = between(-1, 8);
            same("remove(" + any + ")", () -> box.remove(any), () -> model.remove(any));
        } else if (kind < 18) {
            same("free()", box::free, model::free);
        } else {
            int at = between(-1, (length + 7) / 8);
            same("pageOf(" + file + ", " + at + ")", () -> box.pageOf(file, at),
                    () -> model.pageOf(file, at));
        }
    }

    private void requestCall(int kind) {
        if (kind < 28) {
            int page = random.nextInt(3) == 0 ? between(-1, 101) : between(40, 48);
            boolean write = random.nextBoolean();
            long bits = random.nextLong();
            same("queue(" + page + ", " + write + ", " + bits + ")",
                    () -> box.queue(page, write, bits), () -> model.queue(page, write, bits));
        } else if (kind < 30) {
            same("serve()", box::serve, model::serve);
        } else {
            int i = between(-1, 6);
            same("served(" + i + ")", () -> box.served(i), () -> model.served(i));
        }
    }

    private void rareCall() {
        int kind = random.nextInt(30);
        if (kind == 0) {
            format();
        } else if (kind < 5) {
            mount();
        } else if (kind == 5) {
            int loop = between(-1, 69);
            same("stuck(" + loop + ", 0)", () -> none(() -> box.stuck(loop, 0)),
                    () -> none(() -> model.stuck(loop, 0)));
        } else if (kind < 9) {
            readImages();
        } else {
            append();
        }
    }

    private void readImages() {
        same("serve()", box::serve, model::serve);
        for (int page = 0; page < 40; page++) {
            read(page);
        }
    }

    private void read(int page) {
        same("queue(" + page + ")", () -> box.queue(page, false, 0),
                () -> model.queue(page, false, 0));
        same("serve()", box::serve, model::serve);
        same("served(0)", () -> box.served(0), () -> model.served(0));
    }

    private void append() {
        int file = anyFile();
        int b = random.nextInt();
        boolean goesOn = true;
        for (int n = random.nextInt(longest); n >= 0 && goesOn; n--) {
            goesOn = same("append(" + file + ", " + b + ")", () -> box.append(file, b),
                    () -> model.append(file, b));
        }
    }

    private void format() {
        same("format()", () -> box.format() ? 1 : 0, () -> model.format() ? 1 : 0);
    }

    private void mount() {
        same("mount()", () -> box.mount() ? 1 : 0, () -> model.mount() ? 1 : 0);
    }

    private void power(int n) {
        same("power(" + n + ")", () -> none(() -> box.power(n)), () -> none(() -> model.power(n)));
    }

    /** Mostly one that is there, if there is one. */
    private int anyFile() {
        int file = between(-1, 8);
        for (int n = 0; n < 9 && random.nextInt(20) != 0 && lengthOf(file) < 0; n++) {
            file = (file + 1) % 8;
        }
        return file;
    }

    /** Below 0 when there is no such file. */
    private int lengthOf(int file) {
        try {
            return model.length(file);
        } catch (RuntimeException e) {
            return -1;
        }
    }

    private int between(int least, int most) {
        return least + random.nextInt(most - least + 1);
    }

    private static long none(Runnable call) {
        call.run();
        return 0;
    }

    /** Whether the calls answered, rather than threw. */
    private boolean same(String call, LongSupplier ofBox, LongSupplier ofModel) {
        if (calls == MOST_CALLS) {
            return false;
        }
        calls++;
        String got = answer(ofBox);
        String want = answer(ofModel);
        CHECK.is("run " + seed + ": " + call, got, want);
        return !want.startsWith(THROWS);
    }

    private static String answer(LongSupplier call) {
        try {
            return Long.toString(call.getAsLong());
        } catch (RuntimeException e) {
            return THROWS + e.getClass().getSimpleName();
        }
    }
}
