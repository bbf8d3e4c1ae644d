import java.math.BigInteger;
import java.util.ArrayList;
import java.util.List;
import java.util.function.Consumer;

/**
 * Promises 1 to 24 (2 to 5 stand in LanguageEdgesTest), one after another: the last argument that is taken and
 * the first that is refused, what stands unchanged behind it, and the least and the most that can be answered.
 */
public final class PromiseEdgesTest {
    private static final Class<?> INDEX = IndexOutOfBoundsException.class;
    private static final Class<?> ARGUMENT = IllegalArgumentException.class;
    private static final Class<?> STATE = IllegalStateException.class;
    private static final int LEAST = Integer.MIN_VALUE;
    private static final int MOST = Integer.MAX_VALUE;

    public static void main(String[] args) {
        aNewJury();
        aNewJuryRefuses();
        refusedIndexes();
        refusedArguments();
        refusedOpen();
        refusedFeed();
        theFirstNamedException();
        whatOnlyTellsChangesNothing();
        countsFromNothingToAll();
        wards();
        projects();
        bannedNow();
        shares();
        voters();
        likes();
        envy();
        next();
        nextSeesStepOne();
        approve();
        give();
        setBudget();
        open();
        openedAgain();
        pass();
        untilUpTo60();
        foreseeUpTo60();
        adviseUpTo20();
        adviseMoreThanWithout();
        adviseTheSmallestNumber();
        spareUpTo20();
        spareTheSmallestNumber();
        spareCountsTheBuilt();
        mean();
        digestWrapsAround();
        the512thCall();
        Due.end();
    }

    // ---- a jury in the midst of its life

    private static final String LIVELY = "ward a cap 1;ward b cap 2;project p cost 10 in a grows 10;project q cost 7 in a grows 0;"
        + "project r cost 3 in b grows 50;project s cost 500 in b grows 1;voter u likes p s;voter v likes p q;voter w likes q;"
        + "budget 11;ban s when year=2 and pot>3;ban r when not built q;";

    /** p was bought, r built from the pot, q opened by hand, s is open; 20 bytes stand on the tape, and an error was told. */
    private static BudgetJury lively() {
        BudgetJury jury = Due.taught(LIVELY);
        jury.pass(4);
        jury.approve(2, 3, true);
        jury.give(0, 20);
        jury.setBudget(50);
        jury.open(1);
        Due.same("a wrong list", Due.teach(jury, "budget 5;budget 77777;"), 5);
        jury.feed(0x62756467, 0x65742037, 0x3b202020, 0x20202020, 0x20202020);
        return jury;
    }

    /** Whether two juries are the same, also in what will be, and in what stands on their tapes. */
    private static void alike(String call, BudgetJury got, BudgetJury want) {
        Due.same("all that is told behind " + call, Told.now(got), Told.now(want));
        Due.same("all that would be behind " + call, Told.later(got), Told.later(want));
        got.pass(2);
        want.pass(2);
        Due.same("all that is told two years behind " + call, Told.now(got), Told.now(want));
        Due.same("teach behind " + call, got.teach(), want.teach());
        Due.same("errorAt behind " + call, got.errorAt(), want.errorAt());
        Due.same("the budget behind " + call, got.count(5), want.count(5));
    }

    private static void refused(String call, Class<?> due, Consumer<BudgetJury> run) {
        BudgetJury jury = lively();
        Due.thrown(call, due, () -> run.accept(jury));
        alike(call, jury, lively());
    }

    private static void changesNothing(String call, Consumer<BudgetJury> run) {
        BudgetJury jury = lively();
        run.accept(jury);
        alike(call, jury, lively());
    }

    // ---- promise 1

    private static void aNewJury() {
        int[] due = {0, 0, 0, 0, 0, 100, 0, 0, 0, 0, 0, 0};
        BudgetJury jury = new BudgetJury();
        for (int what = 0; what < 12; what++) {
            Due.same("count(" + what + ") of a new jury", jury.count(what), due[what]);
        }
        Due.same("errorAt", jury.errorAt(), -1);
        Due.same("next", jury.next(), -1);
        Due.same("mean", jury.mean(), 0.0);
        Due.same("spare(1)", jury.spare(1), -1);
        Due.same("spare(20)", jury.spare(20), -1);
        Due.same("the pot behind 60 years", jury.foresee(60, 6), 6000);
        Due.same("setBudget", jury.setBudget(7), 100);
        Due.same("pass", jury.pass(60), 0);
        Due.same("the pot", jury.count(6), 420);
        Due.same("teach", jury.teach(), 0);
        Due.same("the budget behind an empty list", jury.count(5), 100);
        // What one jury is told, another one does not know.
        BudgetJury other = new BudgetJury();
        String before = Told.now(other);
        Due.taught(LIVELY).pass(3);
        Due.same("a second jury", Told.now(other), before);
        Due.same("a third jury", Told.now(new BudgetJury()), before);
    }

    private static void aNewJuryRefuses() {
        BudgetJury jury = new BudgetJury();
        Due.thrown("ward(0, 0)", INDEX, () -> jury.ward(0, 0));
        Due.thrown("project(0, 0)", INDEX, () -> jury.project(0, 0));
        Due.thrown("share(0)", INDEX, () -> jury.share(0));
        Due.thrown("voter(0, 0)", INDEX, () -> jury.voter(0, 0));
        Due.thrown("likes(0, 0)", INDEX, () -> jury.likes(0, 0));
        Due.thrown("envy(0, 0)", INDEX, () -> jury.envy(0, 0));
        Due.thrown("approve(0, 0)", INDEX, () -> jury.approve(0, 0, true));
        Due.thrown("give(0, 1)", INDEX, () -> jury.give(0, 1));
        Due.thrown("open(0)", INDEX, () -> jury.open(0));
        Due.thrown("until(0)", INDEX, () -> jury.until(0));
        Due.thrown("advise(0, 1)", INDEX, () -> jury.advise(0, 1));
        Due.same("all told", Told.now(jury), Told.now(new BudgetJury()));
        // Voters without projects, and projects without voters.
        BudgetJury voters = Due.taught("voter v;");
        Due.thrown("likes(0, 0)", INDEX, () -> voters.likes(0, 0));
        Due.thrown("approve(0, 0)", INDEX, () -> voters.approve(0, 0, true));
        Due.same("envy(0, 0)", voters.envy(0, 0), 0);
        Due.same("advise(0, 20)", voters.advise(0, 20), -1);
        BudgetJury projects = Due.taught("ward a cap 1;project p cost 1 in a grows 0;");
        Due.thrown("likes(0, 0)", INDEX, () -> projects.likes(0, 0));
        Due.thrown("approve(0, 0)", INDEX, () -> projects.approve(0, 0, true));
        Due.thrown("advise(0, 1)", INDEX, () -> projects.advise(0, 1));
        Due.same("share(0)", projects.share(0), -1);
        Due.same("next", projects.next(), -1);
    }

    // ---- refused calls

    /** lively() has 2 wards, 4 projects and 3 voters. */
    private static void refusedIndexes() {
        for (int n : new int[] {LEAST, -1, 2, 3, 5, 100, MOST}) {
            refused("ward(" + n + ", 0)", INDEX, x -> x.ward(n, 0));
        }
        for (int n : new int[] {LEAST, -1, 4, 5, 12, 100, MOST}) {
            refused("ward(0, " + n + ")", INDEX, x -> x.ward(0, n));
            refused("project(" + n + ", 0)", INDEX, x -> x.project(n, 0));
            refused("share(" + n + ")", INDEX, x -> x.share(n));
            refused("voter(0, " + n + ")", INDEX, x -> x.voter(0, n));
            refused("likes(0, " + n + ")", INDEX, x -> x.likes(0, n));
            refused("approve(0, " + n + ")", INDEX, x -> x.approve(0, n, true));
            refused("withdrawal of " + n, INDEX, x -> x.approve(0, n, false));
            refused("open(" + n + ")", INDEX, x -> x.open(n));
            refused("until(" + n + ")", INDEX, x -> x.until(n));
        }
        for (int n : new int[] {LEAST, -1, 3, 4, 12, 32, 100, MOST}) {
            refused("voter(" + n + ", 0)", INDEX, x -> x.voter(n, 0));
            refused("likes(" + n + ", 0)", INDEX, x -> x.likes(n, 0));
            refused("envy(" + n + ", 0)", INDEX, x -> x.envy(n, 0));
            refused("envy(0, " + n + ")", INDEX, x -> x.envy(0, n));
            refused("approve(" + n + ", 0)", INDEX, x -> x.approve(n, 0, true));
            refused("withdrawal by " + n, INDEX, x -> x.approve(n, 0, false));
            refused("give(" + n + ", 1)", INDEX, x -> x.give(n, 1));
            refused("advise(" + n + ", 1)", INDEX, x -> x.advise(n, 1));
        }
        for (int n : new int[] {LEAST, -1, 8, 9, MOST}) {
            refused("project(0, " + n + ")", INDEX, x -> x.project(0, n));
        }
        for (int n : new int[] {LEAST, -1, 12, 13, MOST}) {
            refused("count(" + n + ")", INDEX, x -> x.count(n));
        }
        for (int n : new int[] {LEAST, -1, 0, 1, 2, 3, 4, 5, 11, 12, MOST}) {
            refused("foresee(1, " + n + ")", INDEX, x -> x.foresee(1, n));
        }
    }

    private static void refusedArguments() {
        for (int n : new int[] {LEAST, -1, 21, 22, 2000, 2001, MOST}) {
            refused("trim(" + n + ")", ARGUMENT, x -> x.trim(n));
        }
        for (int n : new int[] {LEAST, -1, 0, 1000, 1001, MOST}) {
            refused("give(0, " + n + ")", ARGUMENT, x -> x.give(0, n));
        }
        for (int n : new int[] {LEAST, -1, 10000, 10001, MOST}) {
            refused("setBudget(" + n + ")", ARGUMENT, x -> x.setBudget(n));
        }
        for (int n : new int[] {LEAST, -1, 0, 61, 62, MOST}) {
            refused("pass(" + n + ")", ARGUMENT, x -> x.pass(n));
            refused("foresee(" + n + ", 6)", ARGUMENT, x -> x.foresee(n, 6));
        }
        for (int n : new int[] {LEAST, -1, 0, 21, 22, 60, 61, MOST}) {
            refused("advise(0, " + n + ")", ARGUMENT, x -> x.advise(0, n));
            refused("spare(" + n + ")", ARGUMENT, x -> x.spare(n));
        }
    }

    private static void refusedOpen() {
        BudgetJury jury = lively();
        for (int project = 0; project < 4; project++) {
            int open = project;
            if (jury.project(project, 4) == -1) {
                refused("open(" + project + ") of an open one", STATE, x -> x.open(open));
            }
        }
        Due.same("one is open", jury.project(3, 4), -1);
        BudgetJury twice = lively();
        twice.open(0);
        String before = Told.now(twice);
        Due.thrown("open again", STATE, () -> twice.open(0));
        Due.same("all told behind open again", Told.now(twice), before);
    }

    /** With 1981 to 2000 bytes; what stands on the tape is a list as before. */
    private static void refusedFeed() {
        for (int bytes = 1981; bytes <= 2000; bytes++) {
            BudgetJury jury = Due.taught(LIVELY);
            jury.pass(3);
            String list = "budget 8" + Due.times(" ", bytes - 9) + ";";
            Due.write(jury, list);
            String before = Told.now(jury);
            Due.thrown("feed with " + bytes, STATE, () -> jury.feed(-1, -1, -1, -1, -1));
            Due.same("all told behind a feed with " + bytes, Told.now(jury), before);
            Due.same("teach", jury.teach(), 0);
            Due.same("the list of " + bytes, jury.count(5), 8);
        }
    }

    private static void theFirstNamedException() {
        refused("give(3, 0)", INDEX, x -> x.give(3, 0));
        refused("give(-1, 1000)", INDEX, x -> x.give(-1, 1000));
        refused("foresee(0, 5)", ARGUMENT, x -> x.foresee(0, 5));
        refused("foresee(61, 11)", ARGUMENT, x -> x.foresee(61, 11));
        refused("advise(3, 0)", INDEX, x -> x.advise(3, 0));
        refused("advise(-1, 21)", INDEX, x -> x.advise(-1, 21));
        refused("open(4)", INDEX, x -> x.open(4));
        refused("ward(2, 4)", INDEX, x -> x.ward(2, 4));
        refused("project(4, 8)", INDEX, x -> x.project(4, 8));
        refused("voter(3, 4)", INDEX, x -> x.voter(3, 4));
        refused("likes(3, 4)", INDEX, x -> x.likes(3, 4));
        refused("envy(3, 3)", INDEX, x -> x.envy(3, 3));
        refused("approve(3, 4)", INDEX, x -> x.approve(3, 4, true));
    }

    private static void whatOnlyTellsChangesNothing() {
        changesNothing("next", x -> x.next());
        changesNothing("mean", x -> x.mean());
        changesNothing("digest", x -> x.digest());
        changesNothing("errorAt", x -> x.errorAt());
        changesNothing("count", x -> x.count(7));
        changesNothing("envy", x -> x.envy(0, 1));
        for (int n = 0; n < 4; n++) {
            int project = n;
            changesNothing("until", x -> x.until(project));
            changesNothing("share", x -> x.share(project));
            changesNothing("project", x -> x.project(project, 6));
            changesNothing("likes", x -> x.likes(0, project));
        }
        for (int years : new int[] {1, 2, 20}) {
            changesNothing("foresee", x -> x.foresee(years, 10));
            changesNothing("foresee(60)", x -> x.foresee(60, 6));
            changesNothing("spare", x -> x.spare(years));
            for (int n = 0; n < 3; n++) {
                int voter = n;
                changesNothing("advise", x -> x.advise(voter, years));
            }
        }
        // What was there already is no change.
        changesNothing("approve of what is liked", x -> Due.same("approve", x.approve(0, 0, true), true));
        changesNothing("withdrawal of what is not", x -> Due.same("approve", x.approve(0, 1, false), false));
        changesNothing("setBudget to what it is", x -> Due.same("setBudget", x.setBudget(50), 50));
        changesNothing("trim to all", x -> Due.same("trim", x.trim(20), 20));
    }

    // ---- promise 6

    private static String list(int wards, int projects, int voters, int bans) {
        StringBuilder list = new StringBuilder();
        StringBuilder names = new StringBuilder();
        for (int i = 0; i < wards; i++) {
            list.append("ward w").append(i).append(" cap ").append(12 - i).append(';');
        }
        for (int i = 0; i < projects; i++) {
            list.append("project p").append(i).append(" cost 1 in w0 grows 0;");
            names.append(" p").append(i);
        }
        for (int i = 0; i < voters; i++) {
            list.append("voter v").append(i).append(projects > 0 ? " likes" + names : "").append(';');
        }
        for (int i = 0; i < bans; i++) {
            list.append("ban p0 when 1=2;");
        }
        return list.toString();
    }

    /** All that there may be; with 12 rows of likes as well there would be more than 400 tokens. */
    private static final String ALL = list(4, 12, 11, 12) + "voter v11;budget 9999;";

    private static void countsFromNothingToAll() {
        BudgetJury all = Due.taught(ALL);
        int[] atFirst = {0, 4, 12, 12, 12, 9999, 0, 0, 0, 0, 0, 0};
        for (int what = 0; what < 12; what++) {
            Due.same("count(" + what + ") of all", all.count(what), atFirst[what]);
        }
        all.pass(60);
        for (int i = 0; i < 100; i++) {
            all.feed(0, 0, 0, 0, 0);
        }
        int[] then = {60, 4, 12, 12, 12, 9999, 180, 12 * 9999, 12, 12, 12, 2000};
        for (int what = 0; what < 12; what++) {
            Due.same("count(" + what + ") behind 60 years", all.count(what), then[what]);
        }
        BudgetJury some = Due.taught(list(1, 1, 1, 1) + "budget 0;");
        int[] one = {0, 1, 1, 1, 1, 0, 0, 0, 0, 0, 0, 0};
        for (int what = 0; what < 12; what++) {
            Due.same("count(" + what + ") of one", some.count(what), one[what]);
        }
        BudgetJury pot = Due.taught(list(1, 2, 0, 0) + "budget 9999;");
        pot.pass(2);
        int[] potDue = {2, 1, 2, 0, 0, 9999, 9999, 0, 2, 0, 2, 0};
        for (int what = 0; what < 12; what++) {
            Due.same("count(" + what + ") of the pot", pot.count(what), potDue[what]);
        }
    }

    // ---- promises 7 to 9

    private static void wards() {
        BudgetJury jury = Due.taught(list(4, 12, 0, 0) + "budget 5;");
        int[] caps = {12, 11, 10, 9};
        for (int ward = 0; ward < 4; ward++) {
            Due.same("cap", jury.ward(ward, 0), caps[ward]);
            Due.same("projects", jury.ward(ward, 1), ward == 0 ? 12 : 0);
            Due.same("built", jury.ward(ward, 2), 0);
            Due.same("costs", jury.ward(ward, 3), 0);
        }
        jury.pass(2);
        Due.same("built", jury.ward(0, 2), 10);
        Due.same("costs", jury.ward(0, 3), 10);
        jury.pass(1);
        Due.same("all built", jury.ward(0, 2), 12);
        Due.same("all costs", jury.ward(0, 3), 12);
        Due.thrown("ward(4, 0)", INDEX, () -> jury.ward(4, 0));
        // As they were paid: an opened one is no built one, and is paid anew.
        BudgetJury grown = Due.taught("ward a cap 9;ward b cap 9;project p cost 10 in a grows 50;project q cost 4 in a grows 0;project r cost 5 in b grows 0;budget 9;"
            + "ban q when year<2;ban r when year<3;");
        grown.pass(2);
        grown.setBudget(0);
        Due.same("p for 15", grown.ward(0, 3), 15);
        grown.pass(1);
        Due.same("nothing of b", grown.ward(1, 3), 0);
        grown.setBudget(9);
        grown.pass(1);
        Due.same("costs of a", grown.ward(0, 3), 19);
        Due.same("costs of b", grown.ward(1, 3), 5);
        grown.open(0);
        Due.same("projects of a", grown.ward(0, 1), 2);
        Due.same("built of a", grown.ward(0, 2), 1);
        Due.same("costs of a", grown.ward(0, 3), 4);
    }

    private static void projects() {
        BudgetJury jury = Due.taught("ward a cap 0;ward b cap 0;ward c cap 0;ward d cap 12;project p cost 999 in d grows 50;project q cost 1 in a grows 0;"
            + "voter u likes q;voter v likes q p;");
        int[][] due = {{999, 3, 50, 1, -1, 0, 0, 0}, {1, 0, 0, 2, -1, 0, 0, 0}};
        for (int project = 0; project < 2; project++) {
            for (int what = 0; what < 8; what++) {
                Due.same("project(" + project + ", " + what + ")", jury.project(project, what), due[project][what]);
            }
        }
        for (int i = 0; i < 3; i++) {
            jury.give(0, 999);
            jury.give(1, 999);
        }
        Due.same("coins of one fan", jury.project(0, 7), 2997);
        Due.same("coins of two fans", jury.project(1, 7), 5994);
        Due.same("next", jury.next(), 0);
        jury.pass(1);
        int[] then = {999, 3, 50, 1, 0, 1, 0, 2048};
        for (int what = 0; what < 8; what++) {
            Due.same("project(0, " + what + ") behind a year", jury.project(0, what), then[what]);
        }
        jury.approve(1, 0, false);
        Due.same("coins of no fan", jury.project(0, 7), 0);
        Due.same("fans of none", jury.project(0, 3), 0);
        Due.same("it was bought", jury.project(0, 5), 1);
        BudgetJury full = Due.taught(list(1, 1, 12, 0).replace("cap 12", "cap 0") + "budget 9999;");
        full.pass(60);
        Due.same("coins of 12 full purses", full.project(0, 7), 12 * 9999);
        Due.same("fans", full.project(0, 3), 12);
        BudgetJury pot = Due.taught(list(1, 1, 0, 0));
        pot.pass(1);
        Due.same("built in the year 0", pot.project(0, 4), 0);
        Due.same("not bought", pot.project(0, 5), 0);
        for (int i = 0; i < 10; i++) {
            pot.pass(60);
        }
        pot.open(0);
        pot.pass(1);
        Due.same("built in the year 601", pot.project(0, 4), 601);
    }

    /** By tests as all is now: a year behind, the year is another one, and the coins are those of now. */
    private static void bannedNow() {
        BudgetJury jury = Due.taught("ward a cap 1;project p cost 5 in a grows 0;project q cost 3 in a grows 0;voter v likes p;budget 5;"
            + "ban p when year=1;ban q when purse v=5;ban q when built p;");
        Due.same("p in the year 0", jury.project(0, 6), 0);
        Due.same("q ahead of step 1", jury.project(1, 6), 0);
        jury.give(0, 5);
        Due.same("q with 5 coins", jury.project(1, 6), 1);
        jury.give(0, 1);
        Due.same("q with 6 coins", jury.project(1, 6), 0);
        jury.pass(1);
        Due.same("p is built", jury.project(0, 4), 0);
        Due.same("p, built or not, in the year 1", jury.project(0, 6), 1);
        Due.same("q behind p", jury.project(1, 6), 1);
        jury.pass(1);
        Due.same("p in the year 2", jury.project(0, 6), 0);
        jury.open(0);
        Due.same("q, as p is open", jury.project(1, 6), 0);
    }

    private static void shares() {
        BudgetJury jury = Due.taught("ward a cap 0;ward b cap 1;project p cost 10 in a grows 0;project q cost 10 in b grows 0;voter u likes p q;voter v likes p q;"
            + "budget 0;ban p when 1=1;");
        jury.give(0, 3);
        jury.give(1, 6);
        Due.same("a coin short", jury.share(0), -1);
        jury.give(1, 1);
        Due.same("banned, and without a place", jury.share(0), 7);
        jury.give(0, 2);
        Due.same("5 each", jury.share(0), 5);
        jury.approve(0, 0, false);
        Due.same("one fan is short", jury.share(0), -1);
        jury.give(1, 3);
        Due.same("one fan pays all", jury.share(0), 10);
        jury.approve(1, 0, false);
        Due.same("no fan", jury.share(0), -1);
        jury.pass(1);
        Due.same("q is built", jury.project(1, 4), 0);
        Due.same("by the purses of now", jury.share(1), -1);
        jury.give(0, 5);
        jury.give(1, 3);
        Due.same("of a built one", jury.share(1), 5);
        // Not with the coins that the next year would bring.
        Due.same("without step 1", Due.taught(list(1, 1, 1, 0)).share(0), -1);
    }

    // ---- promises 10 to 12

    private static void voters() {
        BudgetJury jury = Due.taught(list(1, 12, 12, 0) + "budget 24;");
        for (int voter = 0; voter < 12; voter++) {
            int[] due = {0, 12, 0, 0};
            for (int what = 0; what < 4; what++) {
                Due.same("voter(" + voter + ", " + what + ")", jury.voter(voter, what), due[what]);
            }
        }
        // Each of the 12 projects takes a coin of the last one whose purse is not empty.
        jury.pass(1);
        int paid = 0;
        int held = 0;
        for (int voter = 0; voter < 12; voter++) {
            Due.same("built ones that are liked", jury.voter(voter, 2), 12);
            Due.same("a purse and what was paid", jury.voter(voter, 0) + jury.voter(voter, 3), 2);
            Due.same("paid by " + voter, jury.voter(voter, 3), voter < 6 ? 0 : 2);
            paid += jury.voter(voter, 3);
            held += jury.voter(voter, 0);
        }
        Due.same("paid by all", paid, 12);
        Due.same("held by all", held, jury.count(7));
        jury.open(11);
        Due.same("one less", jury.voter(0, 2), 11);
        jury.approve(0, 0, false);
        Due.same("two less", jury.voter(0, 2), 10);
        Due.same("likes one less", jury.voter(0, 1), 11);
        Due.same("of the last voter", jury.voter(11, 2), 11);
    }

    private static void likes() {
        for (int voter = 0; voter < 12; voter++) {
            for (int project = 0; project < 12; project++) {
                BudgetJury jury = Due.taught(list(1, 12, 12, 0));
                Due.same("withdrawal", jury.approve(voter, project, false), true);
                BudgetJury none = Due.taught(list(1, 12, 0, 0) + list(0, 0, 12, 0));
                Due.same("approval", none.approve(voter, project, true), false);
                int liked = 0;
                for (int v = 0; v < 12; v++) {
                    for (int p = 0; p < 12; p++) {
                        liked += jury.likes(v, p) ? 1 : 0;
                        Due.same("the only one", none.likes(v, p), v == voter && p == project);
                    }
                }
                Due.same("all but one", liked, 143);
                Due.same("the one", jury.likes(voter, project), false);
                Due.same("fans", jury.project(project, 3), 11);
                Due.same("liked", none.voter(voter, 1), 1);
            }
        }
    }

    private static void envy() {
        BudgetJury jury = Due.taught(list(1, 12, 1, 0) + "voter none;voter one likes p11;budget 99;");
        Due.same("nothing is built", jury.envy(0, 1), 0);
        jury.pass(1);
        int[] pleased = {12, 0, 1};
        for (int a = 0; a < 3; a++) {
            for (int b = 0; b < 3; b++) {
                Due.same("envy(" + a + ", " + b + ")", jury.envy(a, b), pleased[b] - pleased[a]);
            }
        }
        jury.open(11);
        Due.same("all but one", jury.envy(1, 0), 11);
        Due.same("fewer", jury.envy(0, 1), -11);
        Due.same("none each", jury.envy(1, 2), 0);
    }

    // ---- promise 13

    private static void next() {
        String list = "ward a cap 1;project p cost 10 in a grows 0;voter v likes p;voter w;budget ";
        Due.same("just enough", Due.taught(list + "20;").next(), 0);
        Due.same("a coin short", Due.taught(list + "19;").next(), -1);
        BudgetJury given = Due.taught(list + "19;");
        given.give(0, 1);
        Due.same("with a coin given", given.next(), 0);
        Due.same("it is not bought", given.count(8), 0);
        given.pass(1);
        Due.same("none is left", given.next(), -1);
        Due.same("a place for none", Due.taught(list.replace("cap 1", "cap 0") + "20;").next(), -1);
        Due.same("the pot is none", Due.taught("ward a cap 1;project p cost 1 in a grows 0;").next(), -1);
        Due.same("no projects", Due.taught("voter v;").next(), -1);
        // Places of the year that is over do not count.
        BudgetJury two = Due.taught(list(1, 2, 1, 0).replace("cap 12", "cap 1"));
        Due.same("the first", two.next(), 0);
        two.pass(1);
        Due.same("the second", two.next(), 1);
        two.pass(1);
        Due.same("none", two.next(), -1);
        Due.same("the 12th", Due.taught(list(1, 12, 1, 0).replace("p11 cost 1", "p11 cost 9").replace("likes p0 p1 p2 p3 p4 p5 p6 p7 p8 p9 p10", "likes")).next(), 11);
    }

    private static void nextSeesStepOne() {
        String list = "ward a cap 1;project p cost 5 in a grows 0;voter v likes p;voter w;budget 21;ban p when ";
        String[] then = {"purse v=10", "purse w>=10", "pot=1", "pot>0", "year=0"};
        String[] not = {"purse v=0", "purse v>10", "pot=0", "pot>1", "year=1"};
        for (int i = 0; i < 5; i++) {
            Due.same("next with " + then[i], Due.taught(list + then[i] + ";").next(), -1);
            Due.same("next with " + not[i], Due.taught(list + not[i] + ";").next(), 0);
        }
        // A purse that is full takes no more.
        BudgetJury full = Due.taught("ward a cap 1;project p cost 999 in a grows 50;voter v likes p;budget 9;ban p when year<7;");
        full.pass(6);
        full.setBudget(9999);
        full.pass(1);
        Due.same("9999 of a full purse", full.next(), 0);
        full.pass(1);
        Due.same("paid", full.voter(0, 3), 9999);
    }

    // ---- promises 14 to 16

    private static void approve() {
        BudgetJury jury = Due.taught(LIVELY);
        Due.same("anew", jury.approve(2, 3, true), false);
        Due.same("again", jury.approve(2, 3, true), true);
        Due.same("withdrawn", jury.approve(2, 3, false), true);
        Due.same("withdrawn again", jury.approve(2, 3, false), false);
        Due.same("all as at first", Told.now(jury), Told.now(Due.taught(LIVELY)));
        // Of a built one it counts at once.
        jury.pass(4);
        Due.same("p is built", jury.project(0, 4) >= 0, true);
        int pleased = jury.voter(2, 2);
        jury.approve(2, 0, true);
        Due.same("one more", jury.voter(2, 2), pleased + 1);
        Due.same("nobody pays for it", jury.voter(2, 3), 4);
        Due.same("fans", jury.project(0, 3), 3);
    }

    private static void give() {
        int[][] rows = {{1, 1, 2}, {1, 999, 1000}, {999, 999, 1998}, {9998, 1, 9999}, {9998, 2, 9999}, {9998, 999, 9999}, {9999, 1, 9999}, {9999, 999, 9999},
            {9000, 998, 9998}, {9000, 999, 9999}, {9001, 998, 9999}, {9001, 999, 9999}};
        for (int[] row : rows) {
            BudgetJury jury = Due.taught("voter u;voter v;voter w;");
            for (int left = row[0]; left > 0; left -= 999) {
                jury.give(1, Math.min(999, left));
            }
            Due.same("purse", jury.voter(1, 0), row[0]);
            Due.same("give " + row[1] + " to " + row[0], jury.give(1, row[1]), row[2]);
            Due.same("purse", jury.voter(1, 0), row[2]);
            Due.same("no other purse", jury.count(7), row[2]);
            Due.same("nothing was paid", jury.voter(1, 3), 0);
        }
        BudgetJury last = Due.taught(list(0, 0, 12, 0));
        Due.same("the last voter", last.give(11, 1), 1);
        Due.thrown("give(12, 1)", INDEX, () -> last.give(12, 1));
    }

    private static void setBudget() {
        BudgetJury jury = Due.taught("voter v;budget 3;");
        int before = 3;
        for (int budget : new int[] {0, 1, 9998, 9999, 9999, 0}) {
            Due.same("the one before", jury.setBudget(budget), before);
            Due.same("the budget", jury.count(5), budget);
            Due.same("what it brings", jury.foresee(1, 7), budget);
            before = budget;
        }
        jury.setBudget(40);
        jury.pass(2);
        Due.same("from now on", jury.voter(0, 0), 80);
        Due.same("it stays", jury.count(5), 40);
    }

    // ---- promise 17

    private static void open() {
        BudgetJury jury = Due.taught("ward a cap 1;project p cost 10 in a grows 50;project q cost 99 in a grows 0;voter v likes p;voter w likes p;budget 8;");
        Due.thrown("open of an open one", STATE, () -> jury.open(0));
        jury.pass(3);
        // Shares: 5 of 4 in the year 0 (none), 8 of 8 in the year 1; then 4 more each.
        Due.same("built in the year 1", jury.project(0, 4), 1);
        Due.same("cost", jury.project(0, 0), 15);
        Due.same("the year of it", jury.open(0), 1);
        int[] due = {15, 0, 50, 2, -1, 0, 0, 9};
        for (int what = 0; what < 8; what++) {
            Due.same("project(0, " + what + ") behind open", jury.project(0, what), due[what]);
        }
        int[] counts = {3, 1, 2, 2, 0, 8, 0, 9, 0, 0, 15, 0};
        for (int what = 0; what < 12; what++) {
            Due.same("count(" + what + ") behind open", jury.count(what), counts[what]);
        }
        Due.same("nobody gets coins back", jury.voter(0, 0) + jury.voter(1, 0), 9);
        Due.same("what was paid stays", jury.voter(0, 3) + jury.voter(1, 3), 15);
        Due.same("pleased", jury.voter(0, 2), 0);
        Due.same("of the ward", jury.ward(0, 3), 0);
        BudgetJury first = Due.taught(list(1, 1, 0, 0));
        first.pass(1);
        Due.same("built in the year 0", first.open(0), 0);
        Due.same("the pot gets nothing", first.count(6), 99);
        Due.same("paid stays", first.count(10), 1);
        BudgetJury last = Due.taught(list(1, 12, 1, 0));
        last.pass(1);
        Due.same("the last project", last.open(11), 0);
        Due.same("11 of 12", last.count(8), 11);
        Due.same("11 of 12 bought", last.count(9), 11);
    }

    private static void openedAgain() {
        // Bought, opened, and built from the pot: it is not bought then.
        BudgetJury jury = Due.taught("ward a cap 1;project p cost 10 in a grows 0;voter v likes p;voter w;budget 20;");
        jury.pass(1);
        Due.same("bought", jury.project(0, 5), 1);
        jury.open(0);
        jury.approve(0, 0, false);
        jury.setBudget(1);
        Due.same("10 years of the pot", jury.pass(10), 1);
        int[] due = {10, 0, 0, 0, 10, 0, 0, 0};
        for (int what = 0; what < 8; what++) {
            Due.same("project(0, " + what + ")", jury.project(0, what), due[what]);
        }
        Due.same("built", jury.count(8), 1);
        Due.same("none bought", jury.count(9), 0);
        Due.same("paid twice", jury.count(10), 20);
        Due.same("by v once", jury.voter(0, 3), 10);
        Due.same("the costs of now", jury.ward(0, 3), 10);
        Due.same("open again", jury.open(0), 10);
        // The pot, empty again, needs 10 years more.
        Due.same("until", jury.until(0), 10);
    }

    // ---- promises 18 to 20

    private static void pass() {
        for (int years : new int[] {1, 2, 59, 60}) {
            BudgetJury jury = Due.taught(LIVELY);
            BudgetJury single = Due.taught(LIVELY);
            int built = 0;
            for (int i = 0; i < years; i++) {
                built += single.pass(1);
            }
            Due.same("built in " + years, jury.pass(years), built);
            Due.same("the year", jury.count(0), years);
            Due.same("year by year", Told.now(jury), Told.now(single));
        }
        BudgetJury all = Due.taught(list(1, 12, 1, 0));
        Due.same("all of them", all.pass(60), 12);
        Due.same("none of them", all.pass(60), 0);
        all.open(3);
        Due.same("one of them", all.pass(1), 1);
        BudgetJury none = Due.taught(list(1, 12, 1, 0) + "budget 0;");
        Due.same("none without coins", none.pass(60), 0);
    }

    private static void untilUpTo60() {
        String list = "ward a cap 1;project p cost 5 in a grows 0;budget 5;ban p when year<";
        for (int from : new int[] {0, 7}) {
            for (int years = 1; years <= 62; years++) {
                BudgetJury jury = Due.taught(list + (from + years - 1) + ";");
                if (from > 0) {
                    jury.pass(from);
                }
                Due.same("until from " + from, jury.until(0), years <= 60 ? years : -1);
                for (int foreseen : new int[] {years - 1, years, years + 1}) {
                    if (foreseen >= 1 && foreseen <= 60) {
                        Due.same("foresee(" + foreseen + ", 8)", jury.foresee(foreseen, 8), foreseen < years ? 0 : 1);
                    }
                }
                Due.same("it is open still", jury.project(0, 4), -1);
            }
        }
        BudgetJury built = Due.taught(list + "0;");
        Due.same("a year", built.until(0), 1);
        built.pass(1);
        Due.same("now", built.until(0), 0);
        built.setBudget(0);
        built.open(0);
        Due.same("never", built.until(0), -1);
        BudgetJury last = Due.taught(list(1, 12, 1, 0).replace("cap 12", "cap 1"));
        for (int project = 0; project < 12; project++) {
            Due.same("one a year", last.until(project), project + 1);
        }
    }

    private static void foreseeUpTo60() {
        for (int years : new int[] {1, 2, 3, 10, 59, 60}) {
            BudgetJury then = lively();
            then.pass(years);
            BudgetJury now = lively();
            for (int what = 6; what <= 10; what++) {
                Due.same("foresee(" + years + ", " + what + ")", now.foresee(years, what), then.count(what));
            }
        }
        BudgetJury full = Due.taught(list(1, 1, 12, 0) + "budget 9999;");
        Due.same("the pot", full.foresee(60, 6), 180);
        Due.same("full purses", full.foresee(60, 7), 12 * 9999);
        Due.same("built", full.foresee(60, 8), 1);
        Due.same("bought", full.foresee(60, 9), 1);
        Due.same("paid", full.foresee(60, 10), 1);
        Due.same("a full pot", Due.taught("budget 167;").foresee(60, 6), 9999);
        Due.same("a pot of 60 years", Due.taught("budget 166;").foresee(60, 6), 9960);
        Due.same("the year of now", full.count(0), 0);
    }

    // ---- promise 21

    private static void adviseUpTo20() {
        // v likes nothing; with p it is bought behind just so many years.
        String list = "ward a cap 1;project p cost 5 in a grows 0;voter v;budget 5;ban p when year<";
        for (int years = 1; years <= 20; years++) {
            Due.same("advise(0, " + years + ")", Due.taught(list + (years - 1) + ";").advise(0, years), 0);
            Due.same("a year less", Due.taught(list + years + ";").advise(0, years), -1);
        }
        BudgetJury last = Due.taught(list(1, 12, 0, 0) + list(0, 0, 12, 0));
        Due.same("the last voter", last.advise(11, 20), 0);
        Due.same("no project", Due.taught("voter v;").advise(0, 20), -1);
        Due.same("all are liked", Due.taught(list(1, 12, 1, 0)).advise(0, 20), -1);
        BudgetJury built = Due.taught(list(1, 12, 0, 0) + "voter v;voter w;budget 24;");
        Due.same("they are built by the pot only", built.advise(0, 1), 0);
        Due.same("still none is liked", built.voter(0, 1), 0);
        // What is built already is none to be liked now.
        BudgetJury pot = Due.taught(list(1, 12, 0, 0) + "voter v;voter w;budget 1;");
        pot.pass(12);
        Due.same("all are built", pot.count(8), 12);
        Due.same("none is open", pot.advise(0, 20), -1);
    }

    private static void adviseMoreThanWithout() {
        // q costs all that v has, and p is lost for it: as many as without.
        BudgetJury one = Due.taught("ward a cap 1;project p cost 9 in a grows 0;project q cost 1 in a grows 0;voter v likes p;budget 9;");
        Due.same("as many as without", one.advise(0, 1), -1);
        Due.same("one more", one.advise(0, 2), 1);
        // q takes the coins for p and r: fewer than without.
        BudgetJury fewer = Due.taught("ward a cap 9;project p cost 5 in a grows 0;project r cost 5 in a grows 0;project q cost 20 in a grows 0;voter v likes p r;voter w likes q;budget 20;");
        Due.same("p and r without", fewer.foresee(1, 8), 2);
        Due.same("no more with q", fewer.advise(0, 1), -1);
        // What is liked and built already counts on both sides.
        BudgetJury both = Due.taught("ward a cap 9;project p cost 5 in a grows 0;project q cost 5 in a grows 0;project r cost 99 in a grows 0;voter v likes p;budget 5;");
        both.pass(1);
        Due.same("p is built, and q would be", both.advise(0, 1), 1);
        Due.same("r would be too, but behind more years", both.advise(0, 20), 1);
        // What others build anyhow is one more, as soon as it is liked.
        BudgetJury others = Due.taught("ward a cap 9;project p cost 5 in a grows 0;voter v;voter w likes p;budget 10;");
        Due.same("liked with others", others.advise(0, 1), 0);
        Due.same("w likes it", others.advise(1, 1), -1);
        BudgetJury never = Due.taught("ward a cap 0;project p cost 5 in a grows 0;voter v;budget 10;");
        Due.same("never built", never.advise(0, 20), -1);
        BudgetJury banned = Due.taught("ward a cap 9;project p cost 5 in a grows 0;voter v;budget 10;ban p when likes v p;");
        Due.same("banned, if it is liked", banned.advise(0, 20), -1);
    }

    private static void adviseTheSmallestNumber() {
        String list = "ward a cap 9;project p cost 9 in a grows 0;project q cost 5 in a grows 0;project r cost 4 in a grows 0;voter v;budget 9;";
        Due.same("one each", Due.taught(list).advise(0, 1), 0);
        BudgetJury first = Due.taught(list + "ban p when 1=1;");
        Due.same("the next number", first.advise(0, 1), 1);
        // With r both are built, as it ends the ban of q; with p one is.
        BudgetJury most = Due.taught("ward a cap 9;project p cost 9 in a grows 0;project q cost 5 in a grows 0;project r cost 4 in a grows 0;"
            + "voter v likes q;budget 9;ban q when not built r;");
        Due.same("the most", most.advise(0, 1), 2);
        most.approve(0, 1, false);
        Due.same("one each", most.advise(0, 1), 0);
        BudgetJury all = Due.taught(list(1, 12, 0, 0) + "voter v likes p0;");
        Due.same("not the one that is liked", all.advise(0, 1), 1);
        BudgetJury last = Due.taught(list(1, 12, 1, 0));
        last.approve(0, 11, false);
        Due.same("the last one", last.advise(0, 1), 11);
    }

    // ---- promise 22

    private static void spareUpTo20() {
        String list = "ward a cap 9;project p cost 1 in a grows 0;project q cost 1 in a grows 0;project r cost 1 in a grows 0;budget 9;"
            + "ban p when year<";
        for (int years = 1; years <= 20; years++) {
            String now = list + (years - 1) + ";ban q when not built p;ban r when not built p;";
            String later = list + years + ";ban q when not built p;ban r when not built p;";
            // Without p nothing is built, without q p and r are; ahead of that year nothing is, without whichever.
            Due.same("spare(" + years + ")", Due.taught(now).spare(years), 1);
            Due.same("a year less", Due.taught(later).spare(years), 0);
        }
        Due.same("no projects", Due.taught("").spare(20), -1);
        BudgetJury all = Due.taught(list(1, 12, 1, 0));
        Due.same("as many without each", all.spare(20), 0);
        all.pass(1);
        Due.same("none is open", all.spare(20), -1);
        Due.same("none is open", all.spare(1), -1);
        all.open(11);
        Due.same("the only one", all.spare(20), 11);
    }

    private static void spareTheSmallestNumber() {
        // A place for one a year: without any, one is built.
        Due.same("all the same", Due.taught(list(1, 12, 1, 0).replace("cap 12", "cap 1")).spare(1), 0);
        // 10 coins: q takes all of them; without it p and r are built.
        BudgetJury dear = Due.taught("ward a cap 9;project p cost 5 in a grows 0;project q cost 10 in a grows 0;project r cost 5 in a grows 0;voter v likes q;voter w;"
            + "budget 1;ban p when year<9;ban q when year<9;ban r when year<9;");
        dear.pass(9);
        Due.same("next", dear.next(), -1);
        Due.same("without q", dear.spare(1), 1);
        Due.same("the year", dear.count(0), 9);
        dear.pass(1);
        years(dear, -1, 9, -1);
        Due.same("p or r", dear.spare(20), 0);
        BudgetJury last = Due.taught("ward a cap 12;" + list(0, 12, 0, 0).replace("w0", "a").replace("p11 cost 1", "p11 cost 11") + "voter v likes p11;voter w;budget 1;"
            + bannedUpTo(10));
        last.pass(10);
        Due.same("the last one takes all", last.spare(1), 11);
    }

    private static String bannedUpTo(int year) {
        StringBuilder bans = new StringBuilder();
        for (int i = 0; i < 12; i++) {
            bans.append("ban p").append(i).append(" when year<").append(year).append(';');
        }
        return bans.toString();
    }

    private static void years(BudgetJury jury, int... due) {
        for (int project = 0; project < due.length; project++) {
            Due.same("year of " + project, jury.project(project, 4), due[project]);
        }
    }

    private static void spareCountsTheBuilt() {
        BudgetJury jury = Due.taught(list(1, 3, 0, 0) + "budget 1;");
        jury.pass(1);
        years(jury, 0, -1, -1);
        // Without p1 p2 is built, and the other way round: two with p0 each.
        Due.same("of the open ones", jury.spare(1), 1);
        jury.open(0);
        Due.same("of all of them", jury.spare(1), 0);
        // It can never be chosen, but it is seen by tests, and its cost grows.
        BudgetJury seen = Due.taught("ward a cap 9;project p cost 10 in a grows 10;project q cost 1 in a grows 0;budget 11;ban q when not cost p>10;");
        Due.same("behind a year", seen.spare(1), 1);
        Due.same("behind two years", seen.spare(2), 0);
        BudgetJury fans = Due.taught("ward a cap 9;project p cost 10 in a grows 0;project q cost 1 in a grows 0;voter v likes p;budget 0;ban q when fans p=0;");
        fans.give(0, 10);
        Due.same("p is the only one", fans.spare(1), 1);
    }

    // ---- promises 23 and 24

    private static void mean() {
        Due.same("no voters", Due.taught(list(1, 12, 0, 0)).mean(), 0.0);
        BudgetJury pot = Due.taught(list(1, 12, 0, 0));
        pot.pass(1);
        Due.same("all built, no voters", pot.mean(), 0.0);
        for (int voters = 1; voters <= 12; voters++) {
            BudgetJury jury = Due.taught(list(1, 12, voters, 0) + "budget 9999;");
            Due.same("none built", jury.mean(), 0.0);
            jury.pass(1);
            Due.same("all built and liked", jury.mean(), 12.0);
            jury.approve(voters - 1, 11, false);
            Due.same("all but one", jury.mean(), (12.0 * voters - 1) / voters);
            jury.open(0);
            Due.same("one is open", jury.mean(), (11.0 * voters - 1) / voters);
            for (int voter = 0; voter < voters; voter++) {
                for (int project = 0; project < 12; project++) {
                    jury.approve(voter, project, voter == 0 && project == 5);
                }
            }
            Due.same("one of all", jury.mean(), 1.0 / voters);
        }
    }

    private static long digestOf(BudgetJury jury) {
        List<Integer> all = new ArrayList<>();
        for (int what = 0; what <= 11; what++) {
            all.add(jury.count(what));
        }
        for (int ward = 0; ward < jury.count(1); ward++) {
            for (int what = 0; what <= 3; what++) {
                all.add(jury.ward(ward, what));
            }
        }
        for (int project = 0; project < jury.count(2); project++) {
            for (int what = 0; what <= 7; what++) {
                all.add(jury.project(project, what));
            }
            all.add(jury.share(project));
        }
        for (int voter = 0; voter < jury.count(3); voter++) {
            for (int what = 0; what <= 3; what++) {
                all.add(jury.voter(voter, what));
            }
        }
        all.add(jury.next());
        BigInteger d = BigInteger.valueOf(881);
        for (int x : all) {
            d = d.multiply(BigInteger.valueOf(31)).add(BigInteger.valueOf(x));
        }
        return d.longValue();
    }

    private static void digestWrapsAround() {
        long d = 881;
        for (int x : new int[] {0, 0, 0, 0, 0, 100, 0, 0, 0, 0, 0, 0, -1}) {
            d = d * 31 + x;
        }
        // 881 * 31^13 is more than 64 bits hold.
        Due.same("of a new jury", new BudgetJury().digest(), d);
        for (String list : new String[] {"", "ward a cap 1;", "voter v;", LIVELY, ALL, list(4, 12, 0, 0), list(1, 1, 12, 0) + "budget 9999;"}) {
            BudgetJury jury = Due.taught(list);
            for (int year = 0; year < 4; year++) {
                Due.same("in the year " + year + " of " + list, jury.digest(), digestOf(jury));
                jury.pass(1);
                jury.feed(year, year, year, year, year);
            }
        }
        BudgetJury lively = lively();
        Due.same("of a lively one", lively.digest(), digestOf(lively));
    }

    /** Up to the last call that is promised, the answers are the same as ever. */
    private static void the512thCall() {
        BudgetJury jury = new BudgetJury();
        for (int call = 1; call <= 511; call++) {
            Due.same("pass " + call, jury.pass(60), 0);
        }
        Due.same("the 512th call", jury.count(0), 511 * 60);
        BudgetJury lively = lively();
        String first = Told.now(lively);
        for (int i = 0; i < 5; i++) {
            Due.same("told again", Told.now(lively), first);
        }
    }
}
