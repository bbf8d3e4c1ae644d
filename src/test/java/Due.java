/** Counts the answers that are not as due, and writes lists onto tapes. */
final class Due {
    private static int wrong = 0;
    private static int looked = 0;

    private Due() {
    }

    static void same(String call, long got, long want) {
        looked++;
        if (got != want) {
            tell(call + " answered " + got + ", due is " + want);
        }
    }

    static void same(String call, double got, double want) {
        looked++;
        if (got != want) {
            tell(call + " answered " + got + ", due is " + want);
        }
    }

    static void same(String call, boolean got, boolean want) {
        looked++;
        if (got != want) {
            tell(call + " answered " + got + ", due is " + want);
        }
    }

    static void same(String call, String got, String want) {
        looked++;
        if (!got.equals(want)) {
            tell(call + " answered " + got + ", due is " + want);
        }
    }

    static void thrown(String call, Class<?> want, Runnable run) {
        looked++;
        Class<?> got = null;
        try {
            run.run();
        } catch (RuntimeException e) {
            got = e.getClass();
        }
        if (got != want) {
            tell(call + " threw " + got + ", due is " + want);
        }
    }

    private static void tell(String text) {
        wrong++;
        if (wrong <= 50) {
            System.out.println(text);
        }
    }

    static int wrongSoFar() {
        return wrong;
    }

    static void end() {
        System.out.println(looked + " answers, " + wrong + " of them not as due");
        if (wrong != 0) {
            System.exit(1);
        }
    }

    /** Puts just these signs (0 to 255) onto an empty tape. */
    static void write(BudgetJury jury, String text) {
        StringBuilder padded = new StringBuilder(text);
        while (padded.length() % 20 != 0) {
            padded.append(' ');
        }
        for (int i = 0; i < padded.length(); i += 20) {
            jury.feed(four(padded, i), four(padded, i + 4), four(padded, i + 8), four(padded, i + 12),
                four(padded, i + 16));
        }
        jury.trim(text.length());
    }

    private static int four(CharSequence text, int at) {
        return text.charAt(at) << 24 | text.charAt(at + 1) << 16 | text.charAt(at + 2) << 8 | text.charAt(at + 3);
    }

    static int teach(BudgetJury jury, String text) {
        write(jury, text);
        return jury.teach();
    }

    /** What teach and errorAt answer to a list, and that the tape is empty behind it. */
    static void error(String list, int error, int at) {
        BudgetJury jury = new BudgetJury();
        same("teach of " + list, teach(jury, list), error);
        same("errorAt of " + list, jury.errorAt(), at);
        same("the tape behind " + list, jury.count(11), 0);
    }

    static void right(String list) {
        error(list, 0, -1);
    }

    static String times(String text, int n) {
        StringBuilder all = new StringBuilder();
        for (int i = 0; i < n; i++) {
            all.append(text);
        }
        return all.toString();
    }

    static BudgetJury taught(String text) {
        BudgetJury jury = new BudgetJury();
        same("teach of " + text, teach(jury, text), 0);
        return jury;
    }
}
