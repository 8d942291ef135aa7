import java.io.IOException;
import java.nio.file.Files;
import java.nio.file.Path;

/** Counts answers that are not as due, and tells each with the sentence that asks for it. */
final class Check {
    interface Call {
        void run();
    }

    private static final Path DOCUMENT = Path.of("../shared/DOC.md");

    private final String document = readDocument();
    private String sentence = "";
    private int sentences = 0;
    private int checked = 0;
    private int wrong = 0;

    /**
     * The words of the document that the answers from here on are looked at for. They must stand
     * there, so that no test is left behind that asks for what the document no longer says.
     */
    void sentence(String words) {
        sentence = words;
        sentences++;
        if (!document.isEmpty() && !document.contains(words)) {
            tell("the document does not say so");
        }
    }

    void is(String what, long got, long want) {
        checked++;
        if (got != want) {
            tell(what + " answered " + got + ", due is " + want);
        }
    }

    void is(String what, boolean got, boolean want) {
        checked++;
        if (got != want) {
            tell(what + " answered " + got + ", due is " + want);
        }
    }

    void is(String what, String got, String want) {
        checked++;
        if (!got.equals(want)) {
            tell(what + " answered " + got + ", due is " + want);
        }
    }

    /** The very class: an ArrayIndexOutOfBoundsException is no IndexOutOfBoundsException here. */
    void fails(String what, Class<? extends RuntimeException> want, Call call) {
        checked++;
        Class<?> got = null;
        try {
            call.run();
        } catch (RuntimeException e) {
            got = e.getClass();
        }
        if (got != want) {
            String how = got == null ? "nothing" : got.getName();
            tell(what + " threw " + how + ", due is " + want.getName());
        }
    }

    void illegalState(String what, Call call) {
        fails(what, IllegalStateException.class, call);
    }

    void illegalArgument(String what, Call call) {
        fails(what, IllegalArgumentException.class, call);
    }

    void outOfBounds(String what, Call call) {
        fails(what, IndexOutOfBoundsException.class, call);
    }

    void unsupported(String what, Call call) {
        fails(what, UnsupportedOperationException.class, call);
    }

    void end() {
        String forSentences = sentences == 0 ? "" : " for " + sentences + " sentences";
        System.out.println(checked + " answers looked at" + forSentences + ", " + wrong
                + " not as due");
        if (wrong != 0) {
            System.exit(1);
        }
    }

    private void tell(String text) {
        wrong++;
        System.out.println(sentence.isEmpty() ? text : text + " [" + sentence + "]");
    }

    /** Empty when it is not there: the answers can be looked at without it. */
    private static String readDocument() {
        if (!Files.exists(DOCUMENT)) {
            return "";
        }
        try {
            return Files.readString(DOCUMENT).replaceAll("\\s+", " ");
        } catch (IOException e) {
            return "";
        }
    }
}
