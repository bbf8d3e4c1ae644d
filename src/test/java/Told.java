/** All that a jury tells, as one text, so that two juries can be held side by side. */
final class Told {
    private static final int[] YEARS = {1, 2, 20, 60};

    private Told() {
    }

    static String now(BudgetJury x) {
        StringBuilder all = new StringBuilder("counts");
        for (int what = 0; what <= 11; what++) {
            put(all, x.count(what));
        }
        for (int ward = 0; ward < x.count(1); ward++) {
            all.append("; ward");
            for (int what = 0; what <= 3; what++) {
                put(all, x.ward(ward, what));
            }
        }
        projects(x, all);
        voters(x, all);
        all.append("; error at ").append(x.errorAt()).append(", next ").append(x.next());
        return all.append(", mean ").append(x.mean()).append(", digest ").append(x.digest()).toString();
    }

    private static void projects(BudgetJury x, StringBuilder all) {
        for (int project = 0; project < x.count(2); project++) {
            all.append("; project");
            for (int what = 0; what <= 7; what++) {
                put(all, x.project(project, what));
            }
            put(all, x.share(project));
        }
    }

    private static void voters(BudgetJury x, StringBuilder all) {
        for (int voter = 0; voter < x.count(3); voter++) {
            all.append("; voter");
            for (int what = 0; what <= 3; what++) {
                put(all, x.voter(voter, what));
            }
            for (int project = 0; project < x.count(2); project++) {
                put(all, x.likes(voter, project) ? 1 : 0);
            }
            put(all, x.envy(0, voter));
        }
    }

    static String later(BudgetJury x) {
        StringBuilder all = new StringBuilder("until");
        for (int project = 0; project < x.count(2); project++) {
            put(all, x.until(project));
        }
        for (int years : YEARS) {
            all.append("; behind ").append(years);
            for (int what = 6; what <= 10; what++) {
                put(all, x.foresee(years, what));
            }
        }
        all.append("; advised");
        for (int voter = 0; voter < x.count(3); voter++) {
            put(all, x.advise(voter, 1));
            put(all, x.advise(voter, 20));
        }
        return all.append("; spared ").append(x.spare(1)).append(' ').append(x.spare(20)).toString();
    }

    private static void put(StringBuilder all, int number) {
        all.append(' ').append(number);
    }
}
