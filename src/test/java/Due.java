import java.io.IOException;
import java.nio.file.Files;
import java.nio.file.Path;

/** Holds answers against what is due, prints those that differ, and ends the test with exit code 1 if one did. */
final class Due {
    private static final long MOST_SECONDS = 120;
    private static final String DOCUMENT = documentInOneLine();
    private static boolean watched;
    private static volatile long answers;

    private int asked;
    private int wrong;
    private int sentences;
    private String sentence = "";

    Due() {
        watch();
    }

    /** A call that does not end is a fault too, and must not keep the other tests waiting for ever. */
    private static void watch() {
        if (watched) {
            return;
        }
        watched = true;
        Thread watcher = new Thread(Due::haltWithoutAnswers);
        watcher.setDaemon(true);
        watcher.start();
    }

    private static void haltWithoutAnswers() {
        long seen = -1;
        while (seen != answers) {
            seen = answers;
            try {
                Thread.sleep(1000 * MOST_SECONDS);
            } catch (InterruptedException e) {
                return;
            }
        }
        System.out.println("for " + MOST_SECONDS + " seconds no answer was looked at: a call does not end");
        Runtime.getRuntime().halt(1);
    }

    private static String documentInOneLine() {
        try {
            return Files.readString(Path.of("../shared/DOC.md")).replaceAll("\\s+", " ");
        } catch (IOException e) {
            return "";
        }
    }

    /** What is asked from here on tests these words; they must stand in the document, where it is at hand. */
    void sentence(String words) {
        sentences++;
        sentence = "";
        holds("the document says '" + words + "'", DOCUMENT.isEmpty() || DOCUMENT.contains(words));
        sentence = "'" + words + "': ";
    }

    void is(String call, long got, long want) {
        asked++;
        answers++;
        if (got != want) {
            wrong++;
            System.out.println(sentence + call + " answered " + got + ", due is " + want);
        }
    }

    /** An answer that is not refused leaves STATUS 0. */
    void made(SowingHouse house, String call, long got, long want) {
        is(call, got, want);
        is(call + ": status()", house.status(), 0);
    }

    /** A refused call answers BAD, and STATUS tells why. */
    void refused(SowingHouse house, String call, long got, int why) {
        is(call, got, SowingHouse.BAD);
        is(call + ": status()", house.status(), why);
    }

    /** Made with this answer if it is to be taken, refused with this reason if not. */
    void takenOrRefused(SowingHouse house, String call, long got, boolean taken, long want, int why) {
        if (taken) {
            made(house, call, got, want);
        } else {
            refused(house, call, got, why);
        }
    }

    /** The seeds of all PITS, in their order; -1: it LACKS. */
    void pits(SowingHouse house, String when, int columns, int... due) {
        for (int pit = 0; pit < due.length; pit++) {
            is(when + ": pit " + pit, house.pit(pit / columns, pit % columns), due[pit]);
        }
    }

    void holds(String what, boolean held) {
        asked++;
        answers++;
        if (!held) {
            wrong++;
            System.out.println(sentence + "does not hold: " + what);
        }
    }

    int wrong() {
        return wrong;
    }

    void end() {
        String told = sentences > 0 ? sentences + " sentences, " : "";
        System.out.println(told + asked + " answers looked at, " + wrong + " not as due");
        if (wrong > 0) {
            System.exit(1);
        }
    }
}
