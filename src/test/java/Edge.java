import java.io.IOException;
import java.io.UncheckedIOException;
import java.nio.file.Files;
import java.nio.file.Path;

/** Boundary cases, each under the sentence of the document that names it. */
final class Edge {
    /** Looks at answers by Due. */
    interface Case {
        void run();
    }

    private static final String DOCUMENT = document();
    private static final boolean[] TOLD = new boolean[DOCUMENT.length()];

    private Edge() {
    }

    /** The sentence must stand in the document once, in these words; each case must hold. */
    static void of(String sentence, Case... cases) {
        int at = DOCUMENT.indexOf(sentence);
        Due.is("the document says once: " + sentence, at >= 0 && at == DOCUMENT.lastIndexOf(sentence), true);
        for (int k = 0; at >= 0 && k < sentence.length(); k++) {
            TOLD[at + k] = true;
        }
        for (Case one : cases) {
            int before = Due.wrong();
            hold(one);
            if (Due.wrong() != before) {
                System.out.println("  broken there: " + sentence);
            }
        }
    }

    /** An exception that no case looks for is a wrong answer as well, and the cases behind it are still run. */
    private static void hold(Case one) {
        try {
            one.run();
        } catch (RuntimeException e) {
            Due.is("a call", "throws." + e.getClass().getSimpleName(), "no exception");
        }
    }

    /** What the document says in its terms and promises, and no sentence above has. */
    static void everySentenceHasACase() {
        StringBuilder left = new StringBuilder();
        for (int k = 0; k < TOLD.length; k++) {
            left.append(TOLD[k] ? ' ' : DOCUMENT.charAt(k));
        }
        Due.is("sentences without a case:", left.toString().replaceAll("\\s+", " ").trim(), "");
    }

    /** Without its headings, its fences and the methods' heads, which FaceTest looks at. */
    private static String document() {
        try {
            String all = Files.readString(Path.of("../shared/DOC.md"));
            String told = all.substring(all.indexOf("An object is used"), all.indexOf("## The public face"))
                + all.substring(all.indexOf("## Terms"), all.indexOf("## Not promised"));
            return told.replaceAll("(?m)^(#|```).*$", "").replaceAll("`[^`]*`: ", "").replaceAll("\\s+", " ").trim();
        } catch (IOException e) {
            throw new UncheckedIOException(e);
        }
    }
}
