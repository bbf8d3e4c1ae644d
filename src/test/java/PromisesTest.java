/** The promises of the document, reckoned by hand: one method or more for each. */
public final class PromisesTest {
    private static final Class<?> INDEX = IndexOutOfBoundsException.class;
    private static final Class<?> ARGUMENT = IllegalArgumentException.class;
    private static final Class<?> STATE = IllegalStateException.class;
    private static final int[] FAR = {Integer.MIN_VALUE, -1, 99, Integer.MAX_VALUE};

    /**
     * In the year 0 nobody can pay. In the year 1 the purses are 6, 6, 6; q takes 4 of v and w each, one coin
     * too much, which v gets back.
     */
    private static final String PAIR = "ward a cap 2; ward b cap 1; project p cost 10 in a grows 10;"
        + "project q cost 7 in a grows 0; voter u likes p; voter v likes p q; voter w likes q; budget 10;";

    public static void main(String[] args) {
        promise1();
        promises2To5();
        promise6And18();
        promise7();
        promise8();
        promise8Bans();
        promise9();
        promise10And11And12();
        promise13();
        promise14And15And16();
        promise17();
        stepOne();
        stepTwo();
        givenBack();
        stepThree();
        stepFour();
        bansOfAYear();
        promise18();
        promise19();
        promise20();
        promise21();
        promise22();
        promise23();
        promise24();
        whatWouldBeLater();
        fullSize();
        Due.end();
    }

    private static void counts(String when, BudgetJury jury, int... due) {
        for (int what = 0; what < due.length; what++) {
            Due.same("count(" + what + ") " + when, jury.count(what), due[what]);
        }
    }

    private static void purses(String when, BudgetJury jury, int... due) {
        for (int voter = 0; voter < due.length; voter++) {
            Due.same("purse " + voter + " " + when, jury.voter(voter, 0), due[voter]);
        }
    }

    private static void promise1() {
        BudgetJury jury = new BudgetJury();
        counts("of a new jury", jury, 0, 0, 0, 0, 0, 100, 0, 0, 0, 0, 0, 0);
        Due.same("errorAt", jury.errorAt(), -1);
        Due.same("next", jury.next(), -1);
        Due.same("mean", jury.mean(), 0.0);
        Due.same("spare(1)", jury.spare(1), -1);
        Due.thrown("ward(0, 0)", INDEX, () -> jury.ward(0, 0));
        Due.thrown("project(0, 0)", INDEX, () -> jury.project(0, 0));
        Due.thrown("voter(0, 0)", INDEX, () -> jury.voter(0, 0));
        Due.thrown("share(0)", INDEX, () -> jury.share(0));
        Due.thrown("open(0)", INDEX, () -> jury.open(0));
        Due.thrown("until(0)", INDEX, () -> jury.until(0));
        Due.thrown("give(0, 1)", INDEX, () -> jury.give(0, 1));
        Due.thrown("approve(0, 0)", INDEX, () -> jury.approve(0, 0, true));
        Due.thrown("advise(0, 1)", INDEX, () -> jury.advise(0, 1));
        Due.same("pass(3)", jury.pass(3), 0);
        counts("behind three years", jury, 3, 0, 0, 0, 0, 100, 300, 0, 0, 0, 0, 0);
    }

    /** LanguageTest looks at them closely. */
    private static void promises2To5() {
        BudgetJury jury = new BudgetJury();
        Due.same("feed", jury.feed(0x62756467, 0x65742037, 0x3b20ffff, 0, 0), 20);
        Due.same("trim", jury.trim(10), 10);
        Due.same("teach", jury.teach(), 0);
        Due.same("the budget", jury.count(5), 7);
        Due.same("a wrong list", Due.teach(jury, "budget 7"), 1);
        Due.same("errorAt", jury.errorAt(), 8);
    }

    private static void promise6And18() {
        BudgetJury jury = Due.taught(PAIR + "ban p when year > 99;");
        counts("at first", jury, 0, 2, 2, 3, 1, 10, 0, 0, 0, 0, 0, 0);
        Due.same("pass(1)", jury.pass(1), 0);
        counts("in the year 1", jury, 1, 2, 2, 3, 1, 10, 1, 9, 0, 0, 0, 0);
        Due.same("pass(1)", jury.pass(1), 1);
        counts("in the year 2", jury, 2, 2, 2, 3, 1, 10, 2, 11, 1, 1, 7, 0);
        purses("in the year 2", jury, 6, 3, 2);
        // Year 2: purses 9, 6, 5; p costs 12 and takes 6 of u and v.
        Due.same("pass(1)", jury.pass(1), 1);
        counts("in the year 3", jury, 3, 2, 2, 3, 1, 10, 3, 8, 2, 2, 19, 0);
        purses("in the year 3", jury, 3, 0, 5);
        jury.feed(0, 0, 0, 0, 0);
        Due.same("count(11)", jury.count(11), 20);
        for (int what : new int[] {-1, 12, Integer.MIN_VALUE, Integer.MAX_VALUE}) {
            Due.thrown("count(" + what + ")", INDEX, () -> jury.count(what));
        }
    }

    private static void promise7() {
        BudgetJury jury = Due.taught("ward a cap 3; ward b cap 0; ward c cap 2; project p cost 5 in c grows 50;"
            + "project q cost 6 in a grows 0; project r cost 7 in c grows 0; project s cost 900 in c grows 0; budget 6;");
        jury.pass(2);
        // No voters: the pot gets 6 a year; p (the cheapest) in the year 0, q in the year 1.
        int[][] due = {{3, 1, 1, 6}, {0, 0, 0, 0}, {2, 3, 1, 5}};
        for (int ward = 0; ward < 3; ward++) {
            for (int what = 0; what < 4; what++) {
                Due.same("ward(" + ward + ", " + what + ")", jury.ward(ward, what), due[ward][what]);
            }
        }
        jury.open(0);
        Due.same("built ones of c behind open", jury.ward(2, 2), 0);
        Due.same("their costs behind open", jury.ward(2, 3), 0);
        for (int wrong : FAR) {
            Due.thrown("ward(" + wrong + ", 0)", INDEX, () -> jury.ward(wrong, 0));
            Due.thrown("ward(0, " + wrong + ")", INDEX, () -> jury.ward(0, wrong));
        }
        Due.thrown("ward(3, 0)", INDEX, () -> jury.ward(3, 0));
        Due.thrown("ward(0, 4)", INDEX, () -> jury.ward(0, 4));
    }

    private static void promise8() {
        BudgetJury jury = Due.taught(PAIR.replace("cost 7 in a", "cost 7 in b") + "ban p when built q; ban q when year = 5;");
        int[][] first = {{10, 0, 10, 2, -1, 0, 0, 0}, {7, 1, 0, 2, -1, 0, 0, 0}};
        projects("at first", jury, first);
        jury.give(1, 4);
        Due.same("coins of the fans of p", jury.project(0, 7), 4);
        Due.same("coins of the fans of q", jury.project(1, 7), 4);
        jury.pass(2);
        // Year 0: purses 3, 7, 3; both shares are 4 for q and 7 for p; q takes 4 and 3 of v and w.
        int[][] then = {{12, 0, 10, 2, -1, 0, 1, 12}, {7, 1, 0, 2, 0, 1, 0, 9}};
        projects("in the year 2", jury, then);
        jury.pass(3);
        Due.same("a built one is banned as well", jury.project(1, 6), 1);
        for (int wrong : FAR) {
            Due.thrown("project(" + wrong + ", 0)", INDEX, () -> jury.project(wrong, 0));
            Due.thrown("project(0, " + wrong + ")", INDEX, () -> jury.project(0, wrong));
        }
        Due.thrown("project(2, 0)", INDEX, () -> jury.project(2, 0));
        Due.thrown("project(0, 8)", INDEX, () -> jury.project(0, 8));
    }

    private static void projects(String when, BudgetJury jury, int[][] due) {
        for (int project = 0; project < due.length; project++) {
            for (int what = 0; what < due[project].length; what++) {
                Due.same("project(" + project + ", " + what + ") " + when, jury.project(project, what), due[project][what]);
            }
        }
    }

    private static void bannedBy(String test, boolean due) {
        BudgetJury jury = Due.taught("ward a cap 1; project p cost 30 in a grows 50; project q cost 5 in a grows 0;"
            + "voter u likes p; voter v likes p q; voter w; budget 11; ban p when " + test + ";");
        jury.pass(2);
        // Year 0: purses 3, 3, 3, pot 2. Year 1: 6, 6, 6, pot 4; q is bought by v. Then p costs 67, year 2.
        Due.same("banned by " + test, jury.project(0, 6), due ? 1 : 0);
    }

    private static void promise8Bans() {
        String[] hold = {"year = 2", "pot = 4", "cost p = 67", "cost q = 5", "fans p = 2", "fans q = 1", "purse u = 6",
            "purse v = 1", "purse w = 6", "pleased v = 1", "pleased u = 0", "built q", "not built p", "likes v q",
            "likes u p", "not likes u q", "not likes w p", "1 < 2", "not 2 < 2", "2 > 1", "not 2 > 2", "2 = 2",
            "not 2 = 3", "2 <= 2", "1 <= 2", "not 3 <= 2", "2 >= 2", "3 >= 2", "not 1 >= 2", "7 / 2 = 3", "-7 / 2 = -3",
            "7 / -2 = -3", "7 / 0 = 0", "-7 / (1 - 1) = 0", "65536 * 32768 < 0", "65536 * 32768 / -1 = 65536 * 32768",
            "-(65536 * 32768) = 65536 * 32768", "65536 * 32768 - 1 > 0", "65536 * 32768 - 1 + 1 < 0",
            "65536 * 65536 = 0", "999999 * 999999 = -729 * 1000 * 1000 - 379967", "2 + 3 * 4 = 14", "(2 + 3) * 4 = 20",
            "10 - 3 - 2 = 5", "10 - 3 + 2 = 9", "24 / 4 / 2 = 3", "24 / 4 * 2 = 12", "-2 * 3 = -6", "--3 = 3",
            "- 2 + 5 = 3", "min(2, 3) = 2", "min(3, 2) = 2", "max(2, 3) = 3", "max(3, 2) = 3", "min(-1, 1) = -1",
            "max(min(1, 2), min(4, 3)) = 3", "min(1 + 1, 2 * 2) + 1 = 3", "1 = 1 or 1 = 2 and 1 = 2",
            "[1 = 1 or 1 = 2] and 1 = 1", "1 = 2 and 1 = 2 or 1 = 1", "not 1 = 2 and 1 = 1", "not 1 = 2 or 1 = 2",
            "not [1 = 1 and 1 = 2]", "not not 1 = 1", "1 = 2 or 1 = 2 or 1 = 1", "1 = 1 and 2 = 2 and 3 = 3"};
        for (String test : hold) {
            bannedBy(test, true);
            bannedBy("not [" + test + "]", false);
        }
        bannedBy("not 1 = 1 and 1 = 2", false);
        bannedBy("not 1 = 1 or 1 = 2", false);
        bannedBy("1 = 2 and [1 = 1 or 1 = 1]", false);
        bannedBy("1 = 2; ban p when 1 = 1; ban p when 1 = 3", true);
        bannedBy("1 = 2; ban q when 1 = 1 + 1; ban p when 1 = 3", false);
    }

    private static BudgetJury withPurses(int cost, int... purses) {
        StringBuilder list = new StringBuilder("ward a cap 1; project x cost 1 in a grows 0; project p cost ")
            .append(cost).append(" in a grows 0;");
        for (int i = 0; i < purses.length; i++) {
            list.append("voter v").append(i).append(" likes p;");
        }
        BudgetJury jury = Due.taught(list + "voter rich likes x; budget 0;");
        for (int i = 0; i < purses.length; i++) {
            if (purses[i] > 0) {
                jury.give(i, purses[i]);
            }
        }
        jury.give(purses.length, 999);
        return jury;
    }

    private static void promise9() {
        Due.same("share of even purses", withPurses(9, 5, 5, 5).share(1), 3);
        Due.same("share that is cut", withPurses(10, 5, 5, 5).share(1), 4);
        Due.same("share with a small purse", withPurses(10, 1, 9, 9).share(1), 5);
        Due.same("share with two small purses", withPurses(20, 1, 3, 99).share(1), 16);
        Due.same("share that finds another small purse", withPurses(30, 2, 10, 11, 99).share(1), 10);
        Due.same("share that finds another small purse", withPurses(34, 2, 10, 11, 99).share(1), 11);
        Due.same("share that finds all but one", withPurses(36, 2, 10, 11, 99).share(1), 13);
        Due.same("share of all that they hold", withPurses(15, 5, 5, 5).share(1), 5);
        Due.same("share of all, uneven", withPurses(15, 1, 5, 9).share(1), 9);
        Due.same("no share, one coin short", withPurses(16, 5, 5, 5).share(1), -1);
        Due.same("share of 1", withPurses(1, 5, 5, 5).share(1), 1);
        Due.same("share with empty purses", withPurses(7, 0, 0, 8).share(1), 7);
        Due.same("no share without fans", withPurses(7).share(1), -1);
        Due.same("no share without coins", withPurses(1, 0, 0).share(1), -1);
        BudgetJury jury = Due.taught("ward a cap 0; project p cost 8 in a grows 0; voter v likes p; ban p when 1 = 1;");
        jury.give(0, 9);
        Due.same("share of what can't be chosen", jury.share(0), 8);
        BudgetJury built = Due.taught("ward a cap 1; project p cost 8 in a grows 50; voter v likes p; budget 10;");
        built.pass(1);
        Due.same("share of a built one by the purses of now", built.share(0), -1);
        built.pass(1);
        Due.same("share of a built one", built.share(0), 8);
        for (int wrong : FAR) {
            Due.thrown("share(" + wrong + ")", INDEX, () -> jury.share(wrong));
        }
        Due.thrown("share(1)", INDEX, () -> jury.share(1));
    }

    private static void promise10And11And12() {
        BudgetJury jury = Due.taught(PAIR);
        jury.pass(2);
        int[][] due = {{6, 1, 0, 0}, {3, 2, 1, 3}, {2, 1, 1, 4}};
        for (int voter = 0; voter < 3; voter++) {
            for (int what = 0; what < 4; what++) {
                Due.same("voter(" + voter + ", " + what + ")", jury.voter(voter, what), due[voter][what]);
            }
        }
        boolean[][] likes = {{true, false}, {true, true}, {false, true}};
        for (int voter = 0; voter < 3; voter++) {
            for (int project = 0; project < 2; project++) {
                Due.same("likes(" + voter + ", " + project + ")", jury.likes(voter, project), likes[voter][project]);
            }
        }
        Due.same("envy(0, 1)", jury.envy(0, 1), 1);
        Due.same("envy(1, 0)", jury.envy(1, 0), -1);
        Due.same("envy(1, 2)", jury.envy(1, 2), 0);
        Due.same("envy(1, 1)", jury.envy(1, 1), 0);
        jury.pass(1);
        // p is built too, so v likes two that are built, and u and w one each.
        Due.same("envy(0, 1) in the year 3", jury.envy(0, 1), 1);
        Due.same("envy(0, 2) in the year 3", jury.envy(0, 2), 0);
        Due.same("paid by u", jury.voter(0, 3), 6);
        Due.same("paid by v", jury.voter(1, 3), 9);
        for (int wrong : new int[] {-1, 3, 99, Integer.MAX_VALUE, Integer.MIN_VALUE}) {
            Due.thrown("voter(" + wrong + ", 0)", INDEX, () -> jury.voter(wrong, 0));
            Due.thrown("voter(0, " + (wrong == 3 ? 4 : wrong) + ")", INDEX, () -> jury.voter(0, wrong == 3 ? 4 : wrong));
            Due.thrown("likes(" + wrong + ", 0)", INDEX, () -> jury.likes(wrong, 0));
            Due.thrown("likes(0, " + wrong + ")", INDEX, () -> jury.likes(0, wrong));
            Due.thrown("envy(" + wrong + ", 0)", INDEX, () -> jury.envy(wrong, 0));
            Due.thrown("envy(0, " + wrong + ")", INDEX, () -> jury.envy(0, wrong));
        }
        Due.thrown("likes(0, 2)", INDEX, () -> jury.likes(0, 2));
    }

    private static void promise13() {
        BudgetJury jury = Due.taught(PAIR);
        Due.same("next in the year 0", jury.next(), -1);
        jury.pass(1);
        long before = jury.digest();
        // With the coins of step 1 the purses are 6, 6, 6.
        Due.same("next in the year 1", jury.next(), 1);
        Due.same("nothing is changed", jury.digest(), before);
        jury.pass(1);
        Due.same("next in the year 2", jury.next(), 0);
        jury.pass(1);
        Due.same("next in the year 3", jury.next(), -1);
        // Only step 2 counts: from the pot p would be built.
        Due.same("next without voters", Due.taught("ward a cap 1; project p cost 5 in a grows 0;").next(), -1);
        // The tests see the purses and the pot of step 1, and the year of now.
        String list = "ward a cap 1; project p cost 5 in a grows 0; voter v likes p; voter w; budget 21; ban p when ";
        Due.same("banned by a purse", Due.taught(list + "purse v = 10;").next(), -1);
        Due.same("banned by the pot", Due.taught(list + "pot = 1;").next(), -1);
        Due.same("not banned by the purse of before", Due.taught(list + "purse v = 0 or pot = 0 or year = 1;").next(), 0);
        // A ward's places of the year are all free at its beginning.
        BudgetJury again = Due.taught("ward a cap 1; project p cost 5 in a grows 0; project q cost 5 in a grows 0; voter v likes p q; budget 30;");
        Due.same("next of two", again.next(), 0);
        again.pass(1);
        Due.same("next of one", again.next(), 1);
        Due.same("cap 0", Due.taught("ward a cap 0; project p cost 5 in a grows 0; voter v likes p;").next(), -1);
    }

    private static void promise14And15And16() {
        BudgetJury jury = Due.taught(PAIR);
        Due.same("approve anew", jury.approve(0, 1, true), false);
        Due.same("approve again", jury.approve(0, 1, true), true);
        Due.same("likes", jury.likes(0, 1), true);
        Due.same("fans", jury.project(1, 3), 3);
        Due.same("withdraw", jury.approve(1, 0, false), true);
        Due.same("withdraw again", jury.approve(1, 0, false), false);
        Due.same("likes", jury.likes(1, 0), false);
        Due.same("others stay", jury.likes(0, 0) && jury.likes(1, 1) && jury.likes(2, 1), true);
        Due.same("likes of u", jury.voter(0, 1), 2);
        Due.thrown("approve(3, 0)", INDEX, () -> jury.approve(3, 0, true));
        Due.thrown("approve(0, 2)", INDEX, () -> jury.approve(0, 2, true));
        Due.thrown("approve(-1, 0)", INDEX, () -> jury.approve(-1, 0, false));
        Due.thrown("approve(0, -1)", INDEX, () -> jury.approve(0, -1, false));
        Due.same("give(2, 1)", jury.give(2, 1), 1);
        Due.same("give(2, 999)", jury.give(2, 999), 1000);
        for (int i = 0; i < 9; i++) {
            jury.give(2, 999);
        }
        Due.same("give(2, 7)", jury.give(2, 7), 9998);
        Due.same("give(2, 1)", jury.give(2, 1), 9999);
        Due.same("give to a full purse", jury.give(2, 999), 9999);
        purses("behind giving", jury, 0, 0, 9999);
        Due.thrown("give(0, 0)", ARGUMENT, () -> jury.give(0, 0));
        Due.thrown("give(0, 1000)", ARGUMENT, () -> jury.give(0, 1000));
        Due.thrown("give(0, -5)", ARGUMENT, () -> jury.give(0, -5));
        Due.thrown("give(3, 1)", INDEX, () -> jury.give(3, 1));
        Due.thrown("give(-1, 0): the first one", INDEX, () -> jury.give(-1, 0));
        purses("behind wrong giving", jury, 0, 0, 9999);
        Due.same("setBudget(0)", jury.setBudget(0), 10);
        Due.same("setBudget(9999)", jury.setBudget(9999), 0);
        Due.thrown("setBudget(10000)", ARGUMENT, () -> jury.setBudget(10000));
        Due.thrown("setBudget(-1)", ARGUMENT, () -> jury.setBudget(-1));
        Due.same("count(5)", jury.count(5), 9999);
        Due.same("teach", Due.teach(jury, "ward a cap 1;"), 0);
        Due.same("a list without a budget", jury.count(5), 100);
    }

    private static void promise17() {
        BudgetJury jury = Due.taught("ward a cap 1; project p cost 10 in a grows 50; voter v likes p; budget 12;");
        Due.thrown("open of an open one", STATE, () -> jury.open(0));
        jury.pass(3);
        Due.same("open(0)", jury.open(0), 0);
        Due.thrown("open again", STATE, () -> jury.open(0));
        // What was paid in all stays; the cost did not grow while it was built.
        int[][] due = {{10, 0, 50, 1, -1, 0, 0, 26}};
        projects("behind open", jury, due);
        counts("behind open", jury, 3, 1, 1, 1, 0, 12, 0, 26, 0, 0, 10, 0);
        Due.same("paid by v", jury.voter(0, 3), 10);
        Due.same("pleased v", jury.voter(0, 2), 0);
        jury.approve(0, 0, false);
        jury.pass(1);
        Due.same("its cost grows again", jury.project(0, 0), 15);
        jury.approve(0, 0, true);
        jury.pass(1);
        Due.same("it is bought again", jury.project(0, 4), 4);
        Due.same("paid in all", jury.count(10), 25);
        Due.same("paid by v in all", jury.voter(0, 3), 25);
        Due.same("costs of the built ones", jury.ward(0, 3), 15);
        for (int wrong : FAR) {
            Due.thrown("open(" + wrong + ")", INDEX, () -> jury.open(wrong));
        }
        Due.thrown("open(1)", INDEX, () -> jury.open(1));
        BudgetJury pot = Due.taught("ward a cap 1; project p cost 10 in a grows 50; budget 12;");
        pot.pass(1);
        Due.same("built, but not bought", pot.project(0, 5), 0);
        Due.same("open(0) of the pot's", pot.open(0), 0);
        Due.same("the pot gets nothing back", pot.count(6), 2);
    }

    private static void stepOne() {
        BudgetJury jury = Due.taught("voter u; voter v; voter w; budget 101;");
        jury.pass(1);
        purses("of 101", jury, 33, 33, 33);
        Due.same("the pot of 101", jury.count(6), 2);
        jury.setBudget(2);
        jury.pass(1);
        purses("of 2", jury, 33, 33, 33);
        Due.same("the pot of 2", jury.count(6), 4);
        jury.setBudget(9999);
        jury.pass(4);
        purses("that are full", jury, 9999, 9999, 9999);
        Due.same("the pot of 9999", jury.count(6), 4);
        jury.setBudget(9998);
        jury.pass(60);
        Due.same("purses in all", jury.count(7), 29997);
        Due.same("the pot behind 60 years", jury.count(6), 124);
        BudgetJury none = Due.taught("budget 5000;");
        none.pass(1);
        Due.same("all of it into the pot", none.count(6), 5000);
        none.pass(1);
        Due.same("a full pot", none.count(6), 9999);
    }

    private static void stepTwo() {
        // Shares: p 6 (two fans), q 6 (one fan), r 5.
        String list = "ward a cap 9; project q cost 6 in a grows 0; project p cost 12 in a grows 0; project r cost 5 in a grows 0;"
            + "voter u likes q; voter v likes p; voter w likes p; voter x likes r; budget 40;";
        BudgetJury least = Due.taught(list);
        Due.same("the least share", least.next(), 2);
        least.approve(3, 2, false);
        Due.same("of several the most fans", least.next(), 1);
        least.approve(2, 1, false);
        least.approve(3, 2, true);
        // p costs 12 and v holds 10, so only q (6) and r (5) are left.
        Due.same("r again", least.next(), 2);
        BudgetJury same = Due.taught("ward a cap 9; project p cost 6 in a grows 0; project q cost 6 in a grows 0; voter u likes q; voter v likes p; budget 40;");
        Due.same("of several the smallest number", same.next(), 0);
        // A cheaper one by number behind, with the same share and as many fans, is not ahead.
        BudgetJury cheaper = Due.taught("ward a cap 9; project p cost 6 in a grows 0; project q cost 5 in a grows 0; voter u likes p q; voter v likes p q; budget 40;");
        Due.same("the cost itself counts nothing", cheaper.next(), 0);
        // All are looked at anew: u pays for p, and then q has no share any more.
        BudgetJury anew = Due.taught("ward a cap 9; project p cost 6 in a grows 0; project q cost 7 in a grows 0; project r cost 3 in a grows 0;"
            + "voter u likes p q r; budget 10;");
        Due.same("pass(1)", anew.pass(1), 2);
        Due.same("p", anew.project(0, 4), 0);
        Due.same("q", anew.project(1, 4), -1);
        Due.same("r", anew.project(2, 4), 0);
        // The cap of a ward is for one year.
        BudgetJury cap = Due.taught("ward a cap 1; ward b cap 2; project p cost 1 in a grows 0; project q cost 2 in a grows 0; project r cost 3 in b grows 0;"
            + "project s cost 4 in b grows 0; project t cost 5 in b grows 0; voter u likes p q r s t; budget 90;");
        Due.same("built in the year 0", cap.pass(1), 3);
        int[] years = {0, 1, 0, 0, 1};
        Due.same("built in the year 1", cap.pass(1), 2);
        for (int project = 0; project < 5; project++) {
            Due.same("year of " + project, cap.project(project, 4), years[project]);
        }
    }

    private static void givenBack() {
        // Share 4: the purses 4, 4, 3 pay 11, one too much; the first paid all that it held.
        BudgetJury jury = withPurses(10, 4, 4, 3);
        Due.same("the share", jury.share(1), 4);
        jury.approve(3, 0, false);
        jury.pass(1);
        purses("behind 11 for 10", jury, 1, 0, 0, 999);
        Due.same("paid by the first", jury.voter(0, 3), 3);
        Due.same("paid by the second", jury.voter(1, 3), 4);
        Due.same("paid by the third", jury.voter(2, 3), 3);
        Due.same("paid in all", jury.count(10), 10);
        // Share 4: 2 and three times 4 are 14, two too much; who paid less than the share gets nothing.
        BudgetJury other = withPurses(12, 2, 9, 9, 9);
        other.approve(4, 0, false);
        other.pass(1);
        purses("behind 14 for 12", other, 0, 6, 6, 5);
    }

    private static void stepThree() {
        // No voters; the pot gets 20 a year.
        String wards = "ward a cap 9; ward b cap 1; budget 20; ";
        BudgetJury cheapest = Due.taught(wards + "project p cost 12 in a grows 0; project q cost 11 in a grows 0; project r cost 11 in a grows 0;");
        Due.same("pass(1)", cheapest.pass(1), 1);
        Due.same("the cheapest with the smallest number", cheapest.project(1, 4), 0);
        Due.same("the pot", cheapest.count(6), 9);
        Due.same("paid", cheapest.count(10), 11);
        Due.same("bought", cheapest.count(9), 0);
        BudgetJury more = Due.taught(wards + "project p cost 12 in a grows 0; project q cost 8 in a grows 0;");
        Due.same("both for 20", more.pass(1), 2);
        Due.same("the pot is empty", more.count(6), 0);
        BudgetJury cap = Due.taught(wards + "project p cost 2 in b grows 0; project q cost 3 in b grows 0; project r cost 4 in a grows 0;");
        Due.same("one in b", cap.pass(1), 2);
        Due.same("q waits", cap.project(1, 4), -1);
        Due.same("q in the next year", cap.pass(1), 1);
        // With voters who hold too little: the pot gets 2 of 20 a year, and most fans come first.
        BudgetJury fans = Due.taught("ward a cap 1; project p cost 2 in a grows 0; project q cost 50 in a grows 0; project r cost 9 in a grows 0;"
            + "voter u likes q; voter v likes q; voter w likes r; budget 0; ban r when year < 1; ban q when year < 1;");
        fans.setBudget(2);
        Due.same("p without fans", fans.pass(1), 1);
        Due.same("it was built in step 3", fans.project(0, 5), 0);
        BudgetJury most = Due.taught("ward a cap 1; project p cost 20 in a grows 0; project q cost 30 in a grows 0; voter u; voter v likes q; voter w;"
            + "budget 2; ban p when year < 20; ban q when year < 20;");
        most.pass(20);
        Due.same("the pot of 20 years", most.count(6), 40);
        Due.same("pass(1)", most.pass(1), 1);
        Due.same("the most fans, though dearer", most.project(1, 4), 20);
        Due.same("nobody paid", most.voter(1, 3), 0);
        // The cap counts what was bought in step 2 too.
        BudgetJury both = Due.taught("ward a cap 1; project p cost 2 in a grows 0; project q cost 2 in a grows 0; voter u likes p; voter v; voter w; budget 8;");
        Due.same("only p", both.pass(1), 1);
        Due.same("p was bought", both.project(0, 5), 1);
        Due.same("then q", both.pass(1), 1);
        Due.same("q was not", both.project(1, 5), 0);
        Due.same("q was built", both.project(1, 4), 1);
    }

    private static void stepFour() {
        BudgetJury jury = Due.taught("ward a cap 0; project p cost 999 in a grows 50; project q cost 99 in a grows 1; project r cost 100 in a grows 1; project s cost 7 in a grows 0;");
        jury.pass(1);
        int[] once = {1498, 99, 101, 7};
        for (int project = 0; project < 4; project++) {
            Due.same("cost of " + project, jury.project(project, 0), once[project]);
        }
        jury.pass(4);
        // 1498, 2247, 3370, 5055, 7582
        Due.same("cost of p in the year 5", jury.project(0, 0), 7582);
        jury.pass(1);
        Due.same("cost of p in the year 6", jury.project(0, 0), 9999);
        jury.pass(60);
        Due.same("cost of p in the year 66", jury.project(0, 0), 9999);
        Due.same("the year", jury.count(0), 66);
    }

    private static void bansOfAYear() {
        String list = "ward a cap 9; project p cost 3 in a grows 0; project q cost 4 in a grows 0; voter u likes p q; voter v; budget 20; ban q when ";
        // u holds 10, then 7 behind p: looked at anew each time.
        for (String test : new String[] {"built p", "purse u < 8", "pleased u > 0", "not year > 0"}) {
            BudgetJury jury = Due.taught(list + test + ";");
            Due.same("built with " + test, jury.pass(1), 1);
            Due.same("q with " + test, jury.project(1, 4), -1);
        }
        for (String test : new String[] {"1 = 2", "built q", "purse u > 11", "year > 0"}) {
            BudgetJury jury = Due.taught(list + test + ";");
            Due.same("built with " + test, jury.pass(1), 2);
            Due.same("q with " + test, jury.project(1, 4), 0);
        }
        // A ban that ends when p is built lets q follow in the same year.
        Due.same("q follows p", Due.taught(list + "not built p;").pass(1), 2);
        // In step 3 the pot is seen as it is then.
        BudgetJury pot = Due.taught("ward a cap 9; project p cost 3 in a grows 0; project q cost 4 in a grows 0; budget 20; ban q when pot < 20;");
        Due.same("q is banned behind p", pot.pass(1), 1);
        Due.same("with more in the pot it is not", pot.pass(1), 1);
    }

    private static void promise18() {
        BudgetJury jury = Due.taught(PAIR);
        Due.same("pass(3)", jury.pass(3), 2);
        Due.same("the year", jury.count(0), 3);
        Due.same("pass(60)", jury.pass(60), 0);
        Due.same("the year", jury.count(0), 63);
        jury.open(0);
        Due.same("built again", jury.pass(1), 1);
        for (int wrong : new int[] {0, 61, -1, Integer.MIN_VALUE, Integer.MAX_VALUE}) {
            Due.thrown("pass(" + wrong + ")", ARGUMENT, () -> jury.pass(wrong));
        }
        Due.same("the year", jury.count(0), 64);
    }

    private static void promise19() {
        BudgetJury jury = Due.taught(PAIR);
        long before = jury.digest();
        Due.same("until(0)", jury.until(0), 3);
        Due.same("until(1)", jury.until(1), 2);
        Due.same("nothing is changed", jury.digest(), before);
        jury.pass(2);
        Due.same("until(0)", jury.until(0), 1);
        Due.same("until(1)", jury.until(1), 0);
        String list = "ward a cap 1; project p cost 5 in a grows 0; budget 5; ban p when year < ";
        Due.same("the 60th year", Due.taught(list + "59;").until(0), 60);
        Due.same("the 61st year", Due.taught(list + "60;").until(0), -1);
        Due.same("never", Due.taught("ward a cap 0; project p cost 5 in a grows 0;").until(0), -1);
        for (int wrong : FAR) {
            Due.thrown("until(" + wrong + ")", INDEX, () -> jury.until(wrong));
        }
        Due.thrown("until(2)", INDEX, () -> jury.until(2));
    }

    private static void promise20() {
        BudgetJury jury = Due.taught(PAIR);
        long before = jury.digest();
        int[][] due = {{1, 9, 0, 0, 0}, {2, 11, 1, 1, 7}, {3, 8, 2, 2, 19}};
        for (int years = 1; years <= 3; years++) {
            for (int what = 6; what <= 10; what++) {
                Due.same("foresee(" + years + ", " + what + ")", jury.foresee(years, what), due[years - 1][what - 6]);
            }
        }
        Due.same("foresee(60, 6)", jury.foresee(60, 6), 60);
        Due.same("nothing is changed", jury.digest(), before);
        Due.thrown("foresee(0, 6)", ARGUMENT, () -> jury.foresee(0, 6));
        Due.thrown("foresee(61, 6)", ARGUMENT, () -> jury.foresee(61, 6));
        Due.thrown("foresee(1, 5)", INDEX, () -> jury.foresee(1, 5));
        Due.thrown("foresee(1, 11)", INDEX, () -> jury.foresee(1, 11));
        Due.thrown("foresee(0, 5): the first one", ARGUMENT, () -> jury.foresee(0, 5));
        Due.thrown("foresee(-1, -1)", ARGUMENT, () -> jury.foresee(-1, -1));
    }

    private static void promise21() {
        // Each year 5 coins for u, v and w. p needs another fan; q is bought by w alone; r can't be built.
        String list = "ward a cap 9; ward b cap 0; project q cost 5 in a grows 0; project p cost 10 in a grows 50; project r cost 1 in b grows 0;"
            + "voter u; voter v likes p; voter w likes q; budget 15;";
        BudgetJury jury = Due.taught(list);
        long before = jury.digest();
        // u would have q or p built in the year 0 (one each); q is the one with the smallest number.
        Due.same("advise(0, 1)", jury.advise(0, 1), 0);
        jury.approve(0, 0, true);
        jury.setBudget(30);
        // Now q is built with u and w in the year 0, 3 and 2 coins; p, at 10, with the 7 coins of u and the 10 of v too.
        Due.same("advise(0, 1) for a second one", jury.advise(0, 1), 1);
        jury.approve(0, 1, true);
        Due.same("r is none", jury.advise(0, 20), -1);
        Due.same("one that likes all", everything().advise(0, 3), -1);
        Due.same("a fresh one is not changed", Due.taught(list).digest(), before);
        // A like that brings one and loses another is not more than without.
        BudgetJury lose = Due.taught("ward a cap 1; project p cost 9 in a grows 0; project q cost 1 in a grows 0; voter v likes p; budget 9;");
        Due.same("advise(0, 1) gains nothing", lose.advise(0, 1), -1);
        Due.same("advise(0, 2) gains q", lose.advise(0, 2), 1);
        // The project itself is counted, and q is paid by v behind p.
        BudgetJury open = Due.taught("ward a cap 9; project p cost 2 in a grows 0; project q cost 4 in a grows 0; voter v likes p; budget 9;");
        Due.same("advise(0, 1) of an open one", open.advise(0, 1), 1);
        open.pass(1);
        long stays = open.digest();
        open.advise(0, 20);
        Due.same("nothing is changed", open.digest(), stays);
        // A built one is not looked for, though liking it would be one more at once.
        BudgetJury built = Due.taught("ward a cap 9; project p cost 2 in a grows 0; voter v; voter w likes p; budget 8;");
        built.pass(1);
        Due.same("advise(0, 1) of a built one", built.advise(0, 1), -1);
        Due.thrown("advise(3, 1)", INDEX, () -> jury.advise(3, 1));
        Due.thrown("advise(-1, 0): the first one", INDEX, () -> jury.advise(-1, 0));
        Due.thrown("advise(0, 0)", ARGUMENT, () -> jury.advise(0, 0));
        Due.thrown("advise(0, 21)", ARGUMENT, () -> jury.advise(0, 21));
    }

    private static BudgetJury everything() {
        return Due.taught("ward a cap 9; project p cost 2 in a grows 0; project q cost 4 in a grows 0; voter v likes p q; budget 9;");
    }

    private static void promise22() {
        BudgetJury jury = Due.taught("ward a cap 9; project p cost 20 in a grows 0; project q cost 8 in a grows 0; project r cost 8 in a grows 0;"
            + "voter u likes p q; voter v likes p r; budget 20;");
        // Year 0: purses 10, 10; q (share 8) and r (share 8) are bought ahead of p (share 10).
        long before = jury.digest();
        Due.same("spare(1)", jury.spare(1), 0);
        Due.same("r is not left out behind spare", jury.until(2), 1);
        Due.same("nothing is changed", jury.digest(), before);
        // So 2 without p; without q, r takes 8, and p lacks 8 of its 20, so 1.
        jury.approve(0, 1, false);
        jury.approve(1, 2, false);
        // Nobody likes q and r; p is bought, and nothing else is. Without p nothing is, without q p is.
        Due.same("spare(1) again", jury.spare(1), 1);
        jury.pass(1);
        Due.same("p is built", jury.project(0, 4), 0);
        Due.same("spare(20) of those that are open", jury.spare(20), 1);
        // It is left out for all the years, but the tests still see it.
        BudgetJury tests = Due.taught("ward a cap 9; project p cost 5 in a grows 50; project q cost 5 in a grows 0; voter v likes p q; budget 9;"
            + "ban q when not cost p > 10;");
        Due.same("spare(1)", tests.spare(1), 1);
        // Without p the cost of p grows: 5, 7, 10, 15; q follows in the year 3. Without q p alone.
        Due.same("spare(3)", tests.spare(3), 1);
        Due.same("spare(4), both one", tests.spare(4), 0);
        Due.same("spare of nothing", Due.taught("ward a cap 9;").spare(20), -1);
        BudgetJury all = everything();
        all.pass(2);
        Due.same("spare of built ones", all.spare(20), -1);
        for (int wrong : new int[] {0, 21, -1, Integer.MIN_VALUE, Integer.MAX_VALUE}) {
            Due.thrown("spare(" + wrong + ")", ARGUMENT, () -> jury.spare(wrong));
        }
    }

    private static void promise23() {
        BudgetJury jury = Due.taught(PAIR);
        Due.same("mean in the year 0", jury.mean(), 0.0);
        jury.pass(2);
        Due.same("mean in the year 2", jury.mean(), 2.0 / 3);
        jury.pass(1);
        Due.same("mean in the year 3", jury.mean(), 4.0 / 3);
        jury.approve(0, 1, true);
        Due.same("mean with another like", jury.mean(), 5.0 / 3);
        BudgetJury none = Due.taught("ward a cap 1; project p cost 1 in a grows 0;");
        none.pass(1);
        Due.same("mean without voters", none.mean(), 0.0);
    }

    private static long digestOf(int... numbers) {
        long d = 881;
        for (int x : numbers) {
            d = d * 31 + x;
        }
        return d;
    }

    /** Of fullSize() in the year 6. */
    private static long fullDigest() {
        long d = digestOf(6, 4, 12, 12, 12, 156, 0, 12 * 78 - 78, 12, 12, 78, 0);
        int[] wards = {0, 0, 0, 0, 12, 0, 0, 0, 3, 0, 0, 0, 2, 12, 12, 78};
        for (int x : wards) {
            d = d * 31 + x;
        }
        for (int i = 0; i < 12; i++) {
            int[] project = {i + 1, 3, 0, 1, i / 2, 1, 0, 77 - i, i + 1};
            for (int x : project) {
                d = d * 31 + x;
            }
        }
        for (int i = 0; i < 12; i++) {
            int[] voter = {77 - i, 1, 1, i + 1};
            for (int x : voter) {
                d = d * 31 + x;
            }
        }
        return d * 31 - 1;
    }

    private static void promise24() {
        Due.same("digest of a new jury", new BudgetJury().digest(), digestOf(0, 0, 0, 0, 0, 100, 0, 0, 0, 0, 0, 0, -1));
        BudgetJury jury = Due.taught(PAIR);
        jury.pass(2);
        jury.feed(1, 2, 3, 4, 5);
        Due.same("digest in the year 2", jury.digest(), digestOf(
            2, 2, 2, 3, 0, 10, 2, 11, 1, 1, 7, 20,
            2, 2, 1, 7, 1, 0, 0, 0,
            12, 0, 10, 2, -1, 0, 0, 9, -1, 7, 0, 0, 2, 1, 1, 0, 5, -1,
            6, 1, 0, 0, 3, 2, 1, 3, 2, 1, 1, 4,
            0));
    }

    /** What would be begins with all as it is, whatever was asked ahead of it. */
    private static void whatWouldBeLater() {
        BudgetJury jury = Due.taught("ward a cap 9; project p cost 5 in a grows 0; project q cost 7 in a grows 50; voter v likes p q; voter w; budget 10;"
            + "ban q when year < 12;");
        jury.pass(3);
        Due.same("p is bought", jury.project(0, 5), 1);
        jury.setBudget(6);
        Due.same("bought behind a year", jury.foresee(1, 9), 1);
        Due.same("paid behind a year", jury.foresee(1, 10), 5);
        Due.same("purses behind a year", jury.foresee(1, 7), 31);
        jury.pass(8);
        // The year is 11; q is free in the year 12.
        Due.same("until(1)", jury.until(1), -1);
        jury.open(0);
        jury.approve(0, 1, false);
        jury.approve(0, 0, false);
        Due.same("spare(1)", jury.spare(1), 0);
        Due.same("next", jury.next(), -1);
        jury.approve(0, 0, true);
        Due.same("spare(1)", jury.spare(1), 1);
        Due.same("next behind spare", jury.next(), 0);
        Due.same("until(0) behind spare", jury.until(0), 1);
        Due.same("spare(2)", jury.spare(2), 1);
        Due.same("advise(1, 1)", jury.advise(1, 1), 0);
        Due.same("advise(1, 1) again", jury.advise(1, 1), 0);
        Due.same("w likes nothing", jury.voter(1, 1), 0);
        BudgetJury year = Due.taught("ward a cap 1; project p cost 5 in a grows 0; budget 5; ban p when not year = 12;");
        year.pass(10);
        Due.same("until(0) from the year 10", year.until(0), 3);
        Due.same("foresee(2, 8)", year.foresee(2, 8), 0);
        Due.same("foresee(3, 8)", year.foresee(3, 8), 1);
    }

    /** 4 wards, 12 projects, voters and bans: the last ones count as all others. */
    private static void fullSize() {
        StringBuilder list = new StringBuilder("ward a cap 0; ward b cap 12; ward c cap 3; ward d cap 2;");
        for (int i = 0; i < 12; i++) {
            list.append("project p").append(i).append(" cost ").append(i + 1).append(" in d grows 0;");
        }
        for (int i = 0; i < 12; i++) {
            list.append("voter v").append(i).append(" likes p").append(i).append(';');
        }
        for (int i = 0; i < 12; i++) {
            list.append("ban p").append(i).append(" when year < ").append(i / 2).append(';');
        }
        String all = list + "budget 156;";
        BudgetJury jury = Due.taught(all);
        counts("of a full list", jury, 0, 4, 12, 12, 12, 156);
        Due.same("until(11)", jury.until(11), 6);
        for (int year = 0; year < 6; year++) {
            Due.same("next in the year " + year, jury.next(), 2 * year);
            Due.same("banned in the year " + year, jury.project(11, 6), year < 5 ? 1 : 0);
            Due.same("built in the year " + year, jury.pass(1), 2);
        }
        for (int i = 0; i < 12; i++) {
            Due.same("the year of " + i, jury.project(i, 4), i / 2);
            Due.same("the purse of " + i, jury.voter(i, 0), 6 * 13 - i - 1);
        }
        Due.same("purses behind 60 years", jury.foresee(60, 7), 12 * 66 * 13 - 78);
        Due.same("until(11) of the built one", jury.until(11), 0);
        Due.same("what 12 projects cost", jury.ward(3, 3), 78);
        Due.same("mean", jury.mean(), 1.0);
        // A digest asks for all that is told, up to the last project and voter.
        Due.same("digest", jury.digest(), fullDigest());
        Due.same("teach anew", Due.teach(jury, all.replace("d cap 2", "d cap 12").replace("year <", "year > 1 -")), 0);
        Due.same("the purse of the last one", jury.voter(11, 0), 0);
        Due.same("what the last one paid", jury.voter(11, 3), 0);
        Due.same("the last project", jury.project(11, 4), -1);
        BudgetJury once = Due.taught(all.replace("d cap 2", "d cap 12").replace("year <", "year <= 0 - 1 -"));
        Due.same("12 in a year", once.pass(1), 12);
        BudgetJury pot = Due.taught(all.replace("d cap 2", "d cap 12").replace("year <", "year <= 0 - 1 -").replaceAll("voter v[0-9]* likes p[0-9]*;", ""));
        Due.same("12 in a year from the pot", pot.pass(1), 12);
        Due.same("the pot", pot.count(6), 156 - 78);
    }
}
