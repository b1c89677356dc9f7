/** Counts the answers of a test that are not as due, and ends with exit code 1 if there was one. */
final class Check {
    private static final int MOST_SECONDS = 300;

    private final String name;
    private int asked = 0;
    private int wrong = 0;
    private int sentences = 0;

    Check(String name) {
        this.name = name;
        Thread watch = new Thread(this::endLate);
        watch.setDaemon(true);
        watch.start();
    }

    /** A call that fails to end must not keep the tests waiting for ever. */
    private void endLate() {
        try {
            Thread.sleep(MOST_SECONDS * 1000L);
        } catch (InterruptedException e) {
            return;
        }
        System.out.println(name + ": not at its end after " + MOST_SECONDS + " seconds");
        Runtime.getRuntime().halt(1);
    }

    /** A sentence of the document, named by its promise or term, whose boundary is tested next. */
    Sentence sentence(String where, String words) {
        sentences++;
        return new Sentence(this, where + " \"" + words + "\": ");
    }

    void due(String call, long got, long want) {
        asked++;
        if (got != want) {
            tell(call + " answered " + got + ", due is " + want);
        }
    }

    void due(String call, boolean got, boolean want) {
        asked++;
        if (got != want) {
            tell(call + " answered " + got + ", due is " + want);
        }
    }

    void due(String call, String got, String want) {
        asked++;
        if (!got.equals(want)) {
            tell(call + " answered '" + got + "', due is '" + want + "'");
        }
    }

    private void tell(String line) {
        wrong++;
        if (wrong <= 40) {
            System.out.println(name + ": " + line);
        }
    }

    void finish() {
        String told = sentences == 0 ? "" : sentences + " sentences, ";
        System.out.println(name + ": " + told + asked + " answers, " + wrong + " not as due");
        if (wrong != 0) {
            System.exit(1);
        }
    }
}
