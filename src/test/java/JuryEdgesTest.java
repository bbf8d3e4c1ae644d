/**
 * '2. The jury' of the document, in its order: for each sentence that names an edge, the last that still counts
 * and the first that does not, on both sides.
 */
public final class JuryEdgesTest {
    public static void main(String[] args) {
        nothingAtFirst();
        capsOfPurses();
        capsOfThePot();
        capsOfBoth();
        capsOfOtherWards();
        capsOfOtherYears();
        openedOnesAndTheCap();
        oneBanOfMany();
        bansAsTheyAreLookedAt();
        shares();
        sharesOfFullPurses();
        buying();
        givenBack();
        budgetsDivided();
        fullPurses();
        fullPot();
        fullPotOfWhatIsLeft();
        theLeastShare();
        theMostFansOfTheSameShare();
        theSmallestNumberOfTheSame();
        lookedAtAnew();
        asMuchAsThePotHolds();
        aFullPotForTheDearest();
        theMostFansThenTheCheapest();
        asLongAsThereIsOne();
        whatIsBoughtLeavesThePot();
        costsAreCut();
        costsGrowTo9999();
        openOnesGrowAlone();
        wordsOfTests();
        Due.end();
    }

    private static String projects(int n, int cost) {
        StringBuilder list = new StringBuilder();
        for (int i = 0; i < n; i++) {
            list.append("project p").append(i).append(" cost ").append(cost).append(" in a grows 0;");
        }
        return list.toString();
    }

    private static String names(int n) {
        StringBuilder list = new StringBuilder();
        for (int i = 0; i < n; i++) {
            list.append(" p").append(i);
        }
        return list.toString();
    }

    private static String voters(int n, String likes) {
        StringBuilder list = new StringBuilder();
        for (int i = 0; i < n; i++) {
            list.append("voter v").append(i).append(likes).append(';');
        }
        return list.toString();
    }

    private static void put(BudgetJury jury, int voter, int coins) {
        for (int left = coins; left > 0; left -= 999) {
            jury.give(voter, Math.min(999, left));
        }
    }

    private static void purses(String when, BudgetJury jury, int... due) {
        for (int voter = 0; voter < due.length; voter++) {
            Due.same("purse " + voter + " " + when, jury.voter(voter, 0), due[voter]);
        }
    }

    private static void years(String when, BudgetJury jury, int... due) {
        for (int project = 0; project < due.length; project++) {
            Due.same("year of " + project + " " + when, jury.project(project, 4), due[project]);
        }
    }

    private static void costs(String when, BudgetJury jury, int... due) {
        for (int project = 0; project < due.length; project++) {
            Due.same("cost of " + project + " " + when, jury.project(project, 0), due[project]);
        }
    }

    private static void nothingAtFirst() {
        BudgetJury jury = Due.taught("ward a cap 12;" + projects(12, 1) + voters(12, names(0)) + "budget 9999;");
        for (int i = 0; i < 12; i++) {
            Due.same("purse", jury.voter(i, 0), 0);
            Due.same("paid", jury.voter(i, 3), 0);
            Due.same("open", jury.project(i, 4), -1);
            Due.same("bought", jury.project(i, 5), 0);
        }
        Due.same("pot", jury.count(6), 0);
        Due.same("purses", jury.count(7), 0);
    }

    // ---- when a project can be chosen

    /** How many are built in each year, if the cap alone stops them. */
    private static void capped(String kind, BudgetJury jury, int cap, boolean bought) {
        int built = 0;
        for (int year = 0; year < 14; year++) {
            int due = Math.min(cap, 12 - built);
            Due.same("next of " + kind + " with the cap " + cap, jury.next(), bought && due > 0 ? built : -1);
            Due.same("built of " + kind + " with the cap " + cap + " in the year " + year, jury.pass(1), due);
            built += due;
            Due.same("built in all", jury.count(8), built);
            Due.same("bought in all", jury.count(9), bought ? built : 0);
            Due.same("built of the ward", jury.ward(0, 2), built);
        }
        for (int i = 0; i < 12; i++) {
            Due.same("year of " + i, jury.project(i, 4), cap == 0 ? -1 : i / cap);
        }
    }

    private static void capsOfPurses() {
        for (int cap = 0; cap <= 12; cap++) {
            capped("purses", Due.taught("ward a cap " + cap + ";" + projects(12, 1) + "voter v likes" + names(12) + ";"), cap, true);
        }
    }

    private static void capsOfThePot() {
        for (int cap = 0; cap <= 12; cap++) {
            capped("the pot", Due.taught("ward a cap " + cap + ";" + projects(12, 1)), cap, false);
        }
    }

    /** v0 buys p0 with its coin, and the 11 coins of the pot build the others. */
    private static void capsOfBoth() {
        for (int cap = 0; cap <= 12; cap++) {
            BudgetJury jury = Due.taught("ward a cap " + cap + ";" + projects(12, 1) + "voter v likes p11;" + voters(11, "") + "budget 23;");
            Due.same("built of both with the cap " + cap, jury.pass(1), cap);
            Due.same("bought", jury.count(9), Math.min(cap, 1));
            Due.same("p11", jury.project(11, 5), Math.min(cap, 1));
            Due.same("pot", jury.count(6), 11 - Math.max(0, cap - 1));
        }
    }

    private static void capsOfOtherWards() {
        String list = "ward a cap 2;ward b cap 1;ward c cap 0;ward d cap 3;project p cost 1 in b grows 0;project q cost 1 in b grows 0;"
            + "project r cost 1 in a grows 0;project s cost 1 in a grows 0;project t cost 1 in a grows 0;project u cost 1 in c grows 0;"
            + "project v cost 1 in d grows 0;";
        for (String voters : new String[] {"", "voter x likes p q r s t u v;"}) {
            BudgetJury jury = Due.taught(list + voters);
            Due.same("built in the year 0", jury.pass(1), 4);
            Due.same("built in the year 1", jury.pass(1), 2);
            Due.same("built in 60 years", jury.pass(60), 0);
            years("by the caps of their wards", jury, 0, 1, 0, 0, 1, -1, 0);
        }
    }

    /** The caps of a year count what was built in it alone; what was built ahead takes no place. */
    private static void capsOfOtherYears() {
        BudgetJury jury = Due.taught("ward a cap 1;" + projects(12, 1) + "voter v likes" + names(12) + ";");
        for (int year = 0; year < 12; year++) {
            Due.same("until(" + year + ")", jury.until(11), 12 - year);
            Due.same("one a year", jury.pass(1), 1);
        }
        Due.same("none is left", jury.pass(1), 0);
    }

    private static void openedOnesAndTheCap() {
        BudgetJury jury = Due.taught("ward a cap 1;" + projects(2, 1) + "voter v likes p0 p1;");
        jury.pass(2);
        years("at first", jury, 0, 1);
        jury.open(0);
        jury.open(1);
        Due.same("next", jury.next(), 0);
        Due.same("one a year", jury.pass(1), 1);
        Due.same("one a year", jury.pass(1), 1);
        years("again", jury, 2, 3);
    }

    private static void oneBanOfMany() {
        String list = "ward a cap 12;project p0 cost 1 in a grows 0;project p1 cost 1 in a grows 0;";
        for (String voters : new String[] {"", "voter v likes p0 p1;"}) {
            for (int holds = -1; holds < 12; holds++) {
                StringBuilder bans = new StringBuilder();
                for (int i = 0; i < 12; i++) {
                    bans.append("ban p1 when 1=").append(i == holds ? 1 : 2).append(';');
                }
                BudgetJury jury = Due.taught(list + voters + bans);
                Due.same("banned by the ban " + holds, jury.project(1, 6), holds < 0 ? 0 : 1);
                Due.same("not banned", jury.project(0, 6), 0);
                Due.same("built with the ban " + holds, jury.pass(1), holds < 0 ? 2 : 1);
                years("with the ban " + holds, jury, 0, holds < 0 ? 0 : -1);
            }
        }
        // Without any ban, and with one for the other project alone.
        Due.same("no ban", Due.taught(list).pass(1), 2);
        Due.same("all banned", Due.taught(list + "ban p0 when 1=1;ban p1 when 1=1;").pass(60), 0);
    }

    private static void looked(String list, int... due) {
        BudgetJury jury = Due.taught("ward a cap 12;" + list);
        jury.pass(1);
        years("with " + list, jury, due);
    }

    private static void bansAsTheyAreLookedAt() {
        String one = "project p cost 3 in a grows 0;project q cost 4 in a grows 0;voter v likes p q;voter w;budget 20;ban q when ";
        // v holds 10 ahead of p and 7 behind it.
        looked(one + "purse v<=7;", 0, -1);
        looked(one + "purse v<7;", 0, 0);
        looked(one + "purse v>=11;", 0, 0);
        looked(one + "not built p;", 0, 0);
        looked(one + "built p;", 0, -1);
        looked(one + "pleased v>=1;", 0, -1);
        looked(one + "pleased v>=2;", 0, 0);
        looked(one + "not year=0;", 0, 0);
        looked(one + "year=0;", 0, -1);
        // A ban that ends in step 3 comes too late for step 2, and the pot holds no more.
        BudgetJury later = Due.taught("ward a cap 12;project p cost 3 in a grows 0;project q cost 1 in a grows 0;voter v likes p;voter w;budget 21;"
            + "ban p when not built q;");
        later.pass(1);
        years("p waits for q", later, -1, 0);
        later.pass(1);
        years("p is bought", later, 1, 0);
        Due.same("bought", later.project(0, 5), 1);
        String pot = "project p cost 3 in a grows 0;project q cost 4 in a grows 0;budget 20;ban q when ";
        looked(pot + "pot<=17;", 0, -1);
        looked(pot + "pot<17;", 0, 0);
        looked(pot + "pot=20;", 0, 0);
        looked(pot + "built p;", 0, -1);
        looked(pot + "not built p;", 0, 0);
    }

    // ---- shares, and buying

    private static BudgetJury fans(int cost, int... purses) {
        BudgetJury jury = Due.taught("ward a cap 1;project p0 cost " + cost + " in a grows 0;" + voters(purses.length, " likes p0")
            + "budget 0;");
        for (int i = 0; i < purses.length; i++) {
            put(jury, i, purses[i]);
        }
        return jury;
    }

    private static final int[][] PURSES = {{}, {0}, {1}, {7}, {0, 0}, {0, 5}, {5, 0}, {5, 5}, {1, 9}, {9, 1}, {5, 5, 5}, {0, 7, 7, 9}, {1, 2, 3, 4},
        {4, 3, 2, 1}, {2, 10, 11, 30}, {0, 0, 0, 0, 0, 0, 0, 0, 0, 0, 0, 40}, {1, 1, 1, 1, 1, 1, 1, 1, 1, 1, 1, 1},
        {1, 2, 3, 4, 5, 6, 7, 8, 9, 10, 11, 12}, {9, 9, 9, 9, 9, 9, 9, 9, 9, 9, 9, 9}};

    private static int paying(int[] purses, int each) {
        int coins = 0;
        for (int purse : purses) {
            coins += Math.min(purse, each);
        }
        return coins;
    }

    /** The least number, found by trying each. */
    private static int least(int cost, int[] purses) {
        for (int each = 1; each <= 9999; each++) {
            if (paying(purses, each) >= cost) {
                return each;
            }
        }
        return -1;
    }

    /** From a cost of 1 to all that the purses hold, and one coin more. */
    private static void shares() {
        for (int[] purses : PURSES) {
            int all = paying(purses, 9999);
            for (int cost = 1; cost <= all + 2; cost++) {
                BudgetJury jury = fans(cost, purses);
                int share = least(cost, purses);
                Due.same("there is none", share == -1, cost > all);
                Due.same("share of " + cost + " of " + all, jury.share(0), share);
                Due.same("next", jury.next(), share == -1 ? -1 : 0);
                Due.same("what they hold", jury.project(0, 7), all);
            }
        }
        Due.same("1 or more", fans(1, 5, 5, 5, 5, 5, 5, 5, 5, 5, 5, 5, 5).share(0), 1);
        Due.same("all that they hold", fans(15, 1, 5, 9).share(0), 9);
        Due.same("a coin less", fans(14, 1, 5, 9).share(0), 8);
        Due.same("a coin more", fans(16, 1, 5, 9).share(0), -1);
    }

    /** A project that costs 9999, once it has fans. */
    private static BudgetJury dearest(int... purses) {
        BudgetJury jury = Due.taught("ward a cap 1;project p cost 999 in a grows 50;" + voters(purses.length, "") + "budget 0;");
        jury.pass(6);
        for (int i = 0; i < purses.length; i++) {
            put(jury, i, purses[i]);
            jury.approve(i, 0, true);
        }
        Due.same("the cost", jury.project(0, 0), 9999);
        return jury;
    }

    private static void sharesOfFullPurses() {
        Due.same("a full purse", dearest(9999).share(0), 9999);
        Due.same("a purse less a coin", dearest(9998).share(0), -1);
        Due.same("two purses", dearest(9999, 9999).share(0), 5000);
        Due.same("three purses", dearest(9999, 9999, 9999).share(0), 3333);
        Due.same("a coin and a full purse", dearest(1, 9999).share(0), 9998);
        Due.same("a coin and a purse less a coin", dearest(1, 9998).share(0), 9998);
        Due.same("a coin short", dearest(1, 9997).share(0), -1);
        BudgetJury one = dearest(9999);
        Due.same("bought", one.pass(1), 1);
        purses("behind 9999", one, 0);
        Due.same("paid", one.voter(0, 3), 9999);
        Due.same("paid in all", one.count(10), 9999);
        Due.same("costs of the ward", one.ward(0, 3), 9999);
        BudgetJury two = dearest(9999, 9999);
        Due.same("bought", two.pass(1), 1);
        purses("behind 5000 each", two, 5000, 4999);
        Due.same("not bought", dearest(9998).pass(60), 0);
    }

    /** Whoever paid just the share gets a coin back, by numbers, as long as there are coins too much. */
    private static int[] behindBuying(int cost, int[] purses) {
        int share = least(cost, purses);
        int[] left = purses.clone();
        int tooMuch = paying(purses, share) - cost;
        for (int i = 0; i < left.length; i++) {
            left[i] -= Math.min(share, purses[i]);
            if (purses[i] >= share && tooMuch > 0) {
                left[i]++;
                tooMuch--;
            }
        }
        Due.same("coins too much are given back", tooMuch, 0);
        return left;
    }

    private static void buying() {
        for (int[] purses : PURSES) {
            int all = paying(purses, 9999);
            for (int cost = 1; cost <= all; cost++) {
                BudgetJury jury = fans(cost, purses);
                Due.same("bought for " + cost, jury.pass(1), 1);
                int[] due = behindBuying(cost, purses);
                purses("behind " + cost, jury, due);
                for (int i = 0; i < due.length; i++) {
                    Due.same("paid by " + i, jury.voter(i, 3), purses[i] - due[i]);
                }
                Due.same("paid in all", jury.count(10), cost);
                Due.same("all purses", jury.count(7), all - cost);
            }
            Due.same("not bought", fans(all + 1, purses).pass(1), 0);
        }
    }

    private static void buys(int cost, int[] purses, int... due) {
        BudgetJury jury = fans(cost, purses);
        jury.pass(1);
        purses("behind " + cost, jury, due);
    }

    private static void givenBack() {
        // 12 fans pay 12 coins for 1; the last one alone pays in the end.
        buys(1, new int[] {1, 1, 1, 1, 1, 1, 1, 1, 1, 1, 1, 1}, 1, 1, 1, 1, 1, 1, 1, 1, 1, 1, 1, 0);
        buys(11, new int[] {1, 1, 1, 1, 1, 1, 1, 1, 1, 1, 1, 1}, 1, 0, 0, 0, 0, 0, 0, 0, 0, 0, 0, 0);
        buys(12, new int[] {1, 1, 1, 1, 1, 1, 1, 1, 1, 1, 1, 1}, 0, 0, 0, 0, 0, 0, 0, 0, 0, 0, 0, 0);
        // The share is 4: nothing, one and two coins too much.
        buys(12, new int[] {4, 9, 4}, 0, 5, 0);
        buys(11, new int[] {4, 9, 4}, 1, 5, 0);
        buys(10, new int[] {4, 9, 4}, 1, 6, 0);
        // Who held less than the share gets nothing back, and neither does an empty purse.
        buys(10, new int[] {3, 4, 4}, 0, 1, 0);
        buys(10, new int[] {0, 3, 9, 9}, 0, 0, 6, 5);
        buys(7, new int[] {0, 0, 4, 4}, 0, 0, 1, 0);
        // Who is no fan pays nothing and gets nothing.
        BudgetJury jury = fans(10, 4, 4, 4, 4);
        jury.approve(0, 0, false);
        Due.same("the share of three", jury.share(0), 4);
        jury.pass(1);
        purses("of three fans", jury, 4, 1, 1, 0);
    }

    // ---- step 1

    private static void budgetsDivided() {
        int[][] rows = {{0, 0, 0}, {1, 0, 1}, {11, 0, 11}, {12, 1, 0}, {13, 1, 1}, {23, 1, 11}, {24, 2, 0}, {9998, 833, 2}, {9999, 833, 3}};
        for (int[] row : rows) {
            BudgetJury jury = Due.taught(voters(12, "") + "budget " + row[0] + ";");
            jury.pass(1);
            for (int i = 0; i < 12; i++) {
                Due.same("purse of " + row[0], jury.voter(i, 0), row[1]);
            }
            Due.same("all purses of " + row[0], jury.count(7), 12 * row[1]);
            Due.same("pot of " + row[0], jury.count(6), row[2]);
        }
        for (int budget : new int[] {0, 1, 9998, 9999}) {
            BudgetJury none = Due.taught("budget " + budget + ";");
            none.pass(1);
            Due.same("all of it into the pot", none.count(6), budget);
            BudgetJury one = Due.taught("voter v;budget " + budget + ";");
            one.pass(1);
            Due.same("all of it into the purse", one.voter(0, 0), budget);
            Due.same("nothing into the pot", one.count(6), 0);
        }
    }

    private static void fullPurses() {
        int[][] rows = {{9990, 8, 9998}, {9990, 9, 9999}, {9990, 10, 9999}, {9998, 1, 9999}, {9998, 2, 9999}, {9999, 0, 9999}, {9999, 1, 9999},
            {1, 9998, 9999}, {1, 9999, 9999}, {0, 9999, 9999}, {9999, 9999, 9999}};
        for (int[] row : rows) {
            BudgetJury jury = Due.taught("voter v;budget " + row[1] + ";");
            put(jury, 0, row[0]);
            Due.same("purse", jury.voter(0, 0), row[0]);
            jury.pass(1);
            Due.same("purse of " + row[0] + " and " + row[1], jury.voter(0, 0), row[2]);
            // What is more is lost, not left over.
            Due.same("pot", jury.count(6), 0);
        }
        BudgetJury two = Due.taught("voter v;voter w;budget 7;");
        put(two, 0, 9998);
        two.pass(1);
        purses("one of them full", two, 9999, 3);
        Due.same("pot", two.count(6), 1);
        BudgetJury all = Due.taught(voters(12, "") + "budget 9999;");
        all.pass(60);
        Due.same("all purses full", all.count(7), 12 * 9999);
    }

    private static void fullPot() {
        int[][] rows = {{9998, 0, 9998}, {9998, 1, 9999}, {9998, 2, 9999}, {9999, 0, 9999}, {9999, 1, 9999}, {9999, 9999, 9999}, {0, 9999, 9999},
            {1, 9998, 9999}, {5000, 4998, 9998}, {5000, 5000, 9999}};
        for (int[] row : rows) {
            BudgetJury jury = Due.taught("budget " + row[0] + ";");
            jury.pass(1);
            jury.setBudget(row[1]);
            jury.pass(1);
            Due.same("pot of " + row[0] + " and " + row[1], jury.count(6), row[2]);
        }
    }

    private static void fullPotOfWhatIsLeft() {
        BudgetJury jury = Due.taught(voters(12, "") + "budget 11;");
        for (int i = 0; i < 15; i++) {
            jury.pass(60);
        }
        Due.same("pot of 900 years", jury.count(6), 9900);
        jury.pass(8);
        Due.same("pot of 908 years", jury.count(6), 9988);
        jury.pass(1);
        Due.same("pot of 909 years", jury.count(6), 9999);
        jury.pass(1);
        Due.same("pot of 910 years", jury.count(6), 9999);
        Due.same("purses", jury.count(7), 0);
    }

    // ---- step 2

    /** Which one is bought first, with a place for one alone. */
    private static void chosen(String why, BudgetJury jury, int due) {
        Due.same("next: " + why, jury.next(), due);
        Due.same("built: " + why, jury.pass(1), 1);
        Due.same("year: " + why, jury.project(due, 4), 0);
        Due.same("bought: " + why, jury.project(due, 5), 1);
    }

    private static void theLeastShare() {
        String list = "ward a cap 1;project p cost 12 in a grows 0;project q cost ";
        String voters = " in a grows 0;voter u likes p;voter v likes p;voter w likes q;budget 30;";
        chosen("5 is less than 6", Due.taught(list + 5 + voters), 1);
        chosen("6 is as much, and has fewer fans", Due.taught(list + 6 + voters), 0);
        chosen("7 is more", Due.taught(list + 7 + voters), 0);
        chosen("10 is all that a purse holds", Due.taught(list.replace("12", "21") + 10 + voters), 1);
        BudgetJury none = Due.taught(list.replace("12", "21") + 11 + voters);
        Due.same("none has a share", none.next(), -1);
        Due.same("none is bought", none.pass(1), 0);
        Due.same("they are in the next year", none.next(), 0);
    }

    private static void theMostFansOfTheSameShare() {
        String list = "ward a cap 1;project q cost 6 in a grows 0;project p cost 12 in a grows 0;voter u likes p;voter v likes p;voter w likes q;budget 30;";
        chosen("two fans", Due.taught(list), 1);
        BudgetJury empty = Due.taught("ward a cap 1;project q cost 6 in a grows 0;project p cost 6 in a grows 0;voter u likes p;voter v likes p;"
            + "voter w likes q;budget 0;");
        empty.give(1, 10);
        empty.give(2, 10);
        // A fan with an empty purse is a fan.
        chosen("two fans, one of them without coins", empty, 1);
        BudgetJury same = Due.taught("ward a cap 1;project q cost 6 in a grows 0;project p cost 6 in a grows 0;voter u;voter v likes p;voter w likes q;budget 0;");
        same.give(1, 10);
        same.give(2, 10);
        chosen("one fan each", same, 0);
        chosen("12 fans and 11", Due.taught("ward a cap 1;" + projects(2, 1) + voters(11, " likes p0 p1") + "voter z likes p1;budget 12;"), 1);
        chosen("11 fans each", Due.taught("ward a cap 1;" + projects(2, 1) + voters(11, " likes p0 p1") + "voter z;budget 12;"), 0);
    }

    private static void theSmallestNumberOfTheSame() {
        chosen("all the same", Due.taught("ward a cap 1;" + projects(12, 5) + "voter v likes" + names(12) + ";"), 0);
        // The cost counts nothing in step 2: 6 and 5 of two fans are both a share of 3.
        chosen("the cheaper one is not ahead", Due.taught("ward a cap 1;project p cost 6 in a grows 0;project q cost 5 in a grows 0;"
            + "voter u likes p q;voter v likes p q;budget 20;"), 0);
        BudgetJury banned = Due.taught("ward a cap 1;" + projects(12, 5) + "voter v likes" + names(12) + ";ban p0 when year=0;ban p1 when year=0;");
        chosen("the first that is not banned", banned, 2);
    }

    private static void lookedAtAnew() {
        // p takes 5 of u; then q, which was ahead of r with a share of 7, has one of 9 and r one of 8.
        BudgetJury jury = Due.taught("ward a cap 9;project q cost 14 in a grows 0;project p cost 5 in a grows 0;project r cost 8 in a grows 0;"
            + "voter u likes p q;voter v likes q r;budget 20;");
        Due.same("built", jury.pass(1), 2);
        years("p, then r", jury, -1, 0, 0);
        purses("behind p and r", jury, 5, 2);
        // 12 of them in one year, each for a coin more.
        StringBuilder list = new StringBuilder("ward a cap 12;");
        for (int i = 12; i > 0; i--) {
            list.append("project p").append(12 - i).append(" cost ").append(i).append(" in a grows 0;");
        }
        BudgetJury all = Due.taught(list + "voter v likes" + names(12) + ";budget 78;");
        Due.same("as long as there is one", all.pass(1), 12);
        purses("behind 12", all, 0);
        BudgetJury less = Due.taught(list + "voter v likes" + names(12) + ";budget 77;");
        Due.same("all but the dearest", less.pass(1), 11);
        years("all but the dearest", less, -1, 0, 0, 0, 0, 0, 0, 0, 0, 0, 0, 0);
        purses("behind 11", less, 11);
    }

    // ---- step 3

    private static void asMuchAsThePotHolds() {
        for (int cost = 18; cost <= 22; cost++) {
            BudgetJury jury = Due.taught("ward a cap 1;" + projects(1, cost) + "budget 20;");
            Due.same("built for " + cost, jury.pass(1), cost <= 20 ? 1 : 0);
            Due.same("pot behind " + cost, jury.count(6), cost <= 20 ? 20 - cost : 20);
            Due.same("paid in all", jury.count(10), cost <= 20 ? cost : 0);
            Due.same("not bought", jury.count(9), 0);
        }
        BudgetJury empty = Due.taught("ward a cap 1;" + projects(1, 1) + "budget 0;");
        Due.same("an empty pot", empty.pass(60), 0);
        empty.setBudget(1);
        Due.same("a coin", empty.pass(1), 1);
        Due.same("an empty pot again", empty.count(6), 0);
    }

    private static void aFullPotForTheDearest() {
        String list = "ward a cap 1;project p cost 999 in a grows 50;ban p when year<6;budget ";
        BudgetJury full = Due.taught(list + "9999;");
        Due.same("not ahead of the year 6", full.pass(6), 0);
        Due.same("built for 9999", full.pass(1), 1);
        Due.same("pot", full.count(6), 0);
        Due.same("paid", full.count(10), 9999);
        BudgetJury less = Due.taught(list + "0;");
        less.pass(6);
        less.setBudget(9998);
        Due.same("a coin short", less.pass(1), 0);
        less.setBudget(1);
        Due.same("no coin short", less.pass(1), 1);
        years("in the year 7", less, 7);
    }

    private static void theMostFansThenTheCheapest() {
        // 12 voters get nothing of 11 coins, which fill the pot.
        BudgetJury jury = Due.taught("ward a cap 1;project p cost 3 in a grows 0;project q cost 11 in a grows 0;project r cost 10 in a grows 0;"
            + "project s cost 9 in a grows 0;project t cost 9 in a grows 0;voter u likes q r s t;voter v likes r s t;" + voters(10, "") + "budget 11;");
        Due.same("one a year", jury.pass(5), 5);
        years("by fans, cost and number", jury, 4, 3, 2, 0, 1);
        Due.same("pot", jury.count(6), 55 - 42);
        Due.same("purses", jury.count(7), 0);
        Due.same("bought", jury.count(9), 0);
        // What most approve of, but is too dear, does not stop the others.
        BudgetJury dear = Due.taught("ward a cap 1;project p cost 12 in a grows 0;project q cost 11 in a grows 0;voter u likes p;" + voters(11, "") + "budget 11;");
        Due.same("next", dear.next(), -1);
        dear.pass(1);
        years("q alone", dear, -1, 0);
    }

    private static void asLongAsThereIsOne() {
        String list = "ward a cap 9;project p cost 6 in a grows 0;project q cost 6 in a grows 0;project r cost 5 in a grows 0;voter u likes p q;voter v likes p;"
            + voters(10, "") + "budget 11;";
        BudgetJury jury = Due.taught(list);
        Due.same("p and r", jury.pass(1), 2);
        years("p and r", jury, 0, -1, 0);
        Due.same("pot", jury.count(6), 0);
        BudgetJury all = Due.taught("ward a cap 12;" + projects(12, 7) + "budget 84;");
        Due.same("12 of them", all.pass(1), 12);
        BudgetJury less = Due.taught("ward a cap 12;" + projects(12, 7) + "budget 83;");
        Due.same("11 of them", less.pass(1), 11);
        years("the last one waits", less, 0, 0, 0, 0, 0, 0, 0, 0, 0, 0, 0, -1);
        Due.same("pot", less.count(6), 6);
    }

    private static void whatIsBoughtLeavesThePot() {
        BudgetJury jury = Due.taught("ward a cap 9;project p cost 5 in a grows 0;project q cost 6 in a grows 0;voter v likes p q;" + voters(5, "") + "budget 35;");
        // v holds 5 of 35, and the pot the other 5: p is bought, and q waits for the pot.
        Due.same("p", jury.pass(1), 1);
        Due.same("bought", jury.project(0, 5), 1);
        Due.same("pot", jury.count(6), 5);
        jury.setBudget(1);
        Due.same("q", jury.pass(1), 1);
        Due.same("not bought", jury.project(1, 5), 0);
        Due.same("pot", jury.count(6), 0);
        Due.same("paid by v", jury.voter(0, 3), 5);
        Due.same("paid in all", jury.count(10), 11);
    }

    // ---- step 4

    private static void costsAreCut() {
        int[][] rows = {{1, 50, 1}, {2, 49, 2}, {2, 50, 3}, {3, 33, 3}, {3, 34, 4}, {4, 25, 5}, {9, 11, 9}, {10, 10, 11}, {99, 1, 99}, {100, 1, 101},
            {199, 1, 200}, {200, 1, 202}, {999, 50, 1498}, {999, 0, 999}, {1, 0, 1}, {998, 50, 1497}};
        for (int[] row : rows) {
            BudgetJury jury = Due.taught("ward a cap 0;project p cost " + row[0] + " in a grows " + row[1] + ";");
            jury.pass(1);
            Due.same("cost of " + row[0] + " that grows " + row[1], jury.project(0, 0), row[2]);
        }
    }

    private static void costsGrowTo9999() {
        // Each of them comes next to the limit: 9998, just 9999, and 10000.
        int[][] rows = {{908, 35, 8, 9998}, {963, 34, 8, 9999}, {915, 49, 6, 9999}, {999, 50, 6, 9999}};
        for (int[] row : rows) {
            BudgetJury jury = Due.taught("ward a cap 0;project p cost " + row[0] + " in a grows " + row[1] + ";");
            jury.pass(row[2] - 1);
            Due.same("less than the limit", jury.project(0, 0) < 9998, true);
            jury.pass(1);
            Due.same("cost of " + row[0] + " in the year " + row[2], jury.project(0, 0), row[3]);
            jury.pass(1);
            Due.same("a year behind", jury.project(0, 0), 9999);
            jury.pass(60);
            Due.same("60 years behind", jury.project(0, 0), 9999);
        }
        BudgetJury slow = Due.taught("ward a cap 0;project p cost 999 in a grows 0;project q cost 99 in a grows 1;");
        slow.pass(60);
        costs("that never grow", slow, 999, 99);
    }

    private static void openOnesGrowAlone() {
        // p is bought in the year 0; q is banned, r has no place, and both grow.
        BudgetJury jury = Due.taught("ward a cap 1;ward b cap 0;project p cost 100 in a grows 50;project q cost 100 in a grows 50;project r cost 100 in b grows 50;"
            + "voter v likes p q r;budget 100;ban q when 1=1;");
        jury.pass(1);
        costs("in the year 1", jury, 100, 150, 150);
        jury.pass(1);
        costs("in the year 2", jury, 100, 225, 225);
        jury.open(0);
        jury.setBudget(0);
        jury.approve(0, 0, false);
        jury.pass(1);
        costs("in the year 3", jury, 150, 337, 337);
        Due.same("the year", jury.count(0), 3);
        for (int i = 1; i <= 3; i++) {
            jury.pass(60);
            Due.same("the year", jury.count(0), 3 + 60 * i);
        }
        // What the pot builds does not grow either.
        BudgetJury pot = Due.taught("ward a cap 1;project p cost 100 in a grows 50;");
        pot.pass(2);
        costs("of the pot", pot, 100);
    }

    // ---- tests and sums

    /** Words of sums, with what they are at first, and behind 60 years. */
    private static final String[][] WORDS = {{"year", "0", "60"}, {"pot", "0", "180"}, {"cost p0", "999", "9999"}, {"cost p1", "1", "1"},
        {"cost p11", "1", "1"}, {"fans p0", "0", "0"}, {"fans p1", "11", "12"}, {"fans p11", "11", "11"}, {"purse v0", "0", "9999"},
        {"purse v11", "0", "9999"}, {"pleased v0", "0", "11"}, {"pleased v10", "0", "11"}, {"pleased v11", "0", "1"}};
    private static final String[][] SINGLES = {{"built p0", "0", "0"}, {"built p1", "0", "1"}, {"built p11", "0", "1"}, {"likes v0 p0", "0", "0"},
        {"likes v0 p1", "1", "1"}, {"likes v10 p11", "1", "1"}, {"likes v11 p1", "0", "1"}, {"likes v11 p11", "0", "0"}};

    private static void wordsOfTests() {
        for (String[] word : WORDS) {
            word(word[0] + "=" + word[1], true, word[1].equals(word[2]));
            word(word[0] + "=" + word[2], word[1].equals(word[2]), true);
            word(word[0] + "<" + word[2], !word[1].equals(word[2]), false);
            word(word[0] + ">" + word[1], false, !word[1].equals(word[2]));
        }
        for (String[] single : SINGLES) {
            word(single[0], single[1].equals("1"), single[2].equals("1"));
            word("not " + single[0], single[1].equals("0"), single[2].equals("0"));
        }
    }

    /** p0 has no place in its ward and grows to 9999; the others are bought in the year 0. */
    private static void word(String test, boolean atFirst, boolean then) {
        BudgetJury jury = Due.taught("ward b cap 0;ward a cap 12;" + projects(12, 1).replace("p0 cost 1 in a grows 0", "p0 cost 999 in b grows 50")
            + voters(11, " likes" + names(12).replace(" p0", "")) + "voter v11;budget 9999;ban p0 when " + test + ";");
        Due.same(test + " at first", jury.project(0, 6), atFirst ? 1 : 0);
        jury.pass(60);
        jury.approve(11, 1, true);
        Due.same(test + " behind 60 years", jury.project(0, 6), then ? 1 : 0);
    }
}
