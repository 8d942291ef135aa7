/** Counts answers that are not as due, and tells each. */
final class Check {
    interface Call {
        void run();
    }

    private int checked = 0;
    private int wrong = 0;

    void is(String what, long got, long want) {
        checked++;
        if (got != want) {
            tell(what + " answered " + got + ", due is " + want);
        }
    }

    void is(String what, boolean got, boolean want) {
        checked++;
        if (got != want) {
            tell(what + " answered " + got + ", due is " + want);
        }
    }

    void is(String what, String got, String want) {
        checked++;
        if (!got.equals(want)) {
            tell(what + " answered " + got + ", due is " + want);
        }
    }

    /** The very class: an ArrayIndexOutOfBoundsException is no IndexOutOfBoundsException here. */
    void fails(String what, Class<? extends RuntimeException> want, Call call) {
        checked++;
        Class<?> got = null;
        try {
            call.run();
        } catch (RuntimeException e) {
            got = e.getClass();
        }
        if (got != want) {
            String how = got == null ? "nothing" : got.getName();
            tell(what + " threw " + how + ", due is " + want.getName());
        }
    }

    void illegalState(String what, Call call) {
        fails(what, IllegalStateException.class, call);
    }

    void illegalArgument(String what, Call call) {
        fails(what, IllegalArgumentException.class, call);
    }

    void outOfBounds(String what, Call call) {
        fails(what, IndexOutOfBoundsException.class, call);
    }

    void unsupported(String what, Call call) {
        fails(what, UnsupportedOperationException.class, call);
    }

    void end() {
        System.out.println(checked + " answers looked at, " + wrong + " not as due");
        if (wrong != 0) {
            System.exit(1);
        }
    }

    private void tell(String text) {
        wrong++;
        System.out.println(text);
    }
}
