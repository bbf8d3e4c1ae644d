/** Long runs of calls from seeds, each answer beside that of PlainJury. */
public final class AgainstPlainTest {
    private static final int RUNS = 200;
    private static final int CALLS = 180;
    private static final int SPOILED = 2500;

    private interface Call {
        long answer();
    }

    public static void main(String[] args) {
        for (int seed = 1; seed <= RUNS && Due.wrongSoFar() < 50; seed++) {
            run(seed);
        }
        spoiledLists();
        Due.end();
    }

    private static void spoiledLists() {
        RandomLists random = new RandomLists(77);
        int[] errors = new int[6];
        for (int i = 0; i < SPOILED; i++) {
            BudgetJury jury = new BudgetJury();
            PlainJury plain = new PlainJury();
            errors[teachBoth("spoiled " + i, random.spoiled(), jury, plain)]++;
        }
        for (int error = 0; error <= 5; error++) {
            Due.same("spoiled lists with the error " + error + " were met", errors[error] > 0, true);
        }
    }

    private static int teachBoth(String run, String text, BudgetJury jury, PlainJury plain) {
        jury.trim(0);
        plain.trim(0);
        Due.write(jury, text);
        StringBuilder padded = new StringBuilder(text);
        while (padded.length() % 20 != 0) {
            padded.append(' ');
        }
        for (int i = 0; i < padded.length(); i += 4) {
            int four = 0;
            for (int k = 0; k < 4; k++) {
                four = four << 8 | padded.charAt(i + k);
            }
            plain.feedFour(four);
        }
        plain.trim(text.length());
        int error = plain.teach();
        Due.same(run + ": teach of " + text, jury.teach(), error);
        Due.same(run + ": errorAt of " + text, jury.errorAt(), plain.errorAt());
        Due.same(run + ": digest behind teach", jury.digest(), plain.digest());
        return error;
    }

    private static void both(String call, Call got, Call want) {
        String due;
        try {
            due = "" + want.answer();
        } catch (PlainJury.Wrong e) {
            due = e.name;
        }
        String answer;
        try {
            answer = "" + got.answer();
        } catch (RuntimeException e) {
            answer = e.getClass().getSimpleName();
        }
        if (!answer.equals(due)) {
            System.out.println(call + ": " + answer + ", due is " + due);
        }
        Due.same(call + " agrees", answer.equals(due), true);
    }

    private static void run(int seed) {
        RandomLists random = new RandomLists(seed);
        BudgetJury jury = new BudgetJury();
        PlainJury plain = new PlainJury();
        teachBoth("run " + seed, random.list(), jury, plain);
        for (int i = 0; i < CALLS; i++) {
            call("run " + seed + ", call " + i + " ", random, jury, plain);
        }
        both("run " + seed + " digest", jury::digest, plain::digest);
    }

    private static int near(RandomLists random, int size) {
        return random.oneIn(25) ? random.below(size + 4) - 2 : random.below(size);
    }

    private static void call(String at, RandomLists random, BudgetJury x, PlainJury y) {
        int p = near(random, Math.max(1, y.count(2)));
        int v = near(random, Math.max(1, y.count(3)));
        int w = near(random, Math.max(1, y.count(1)));
        int years = random.oneIn(15) ? random.below(64) - 1 : 1 + random.below(5);
        int what = near(random, 8);
        int four = near(random, 4);
        int kind = random.below(24);
        if (kind == 0 && random.oneIn(3)) {
            teachBoth(at, random.oneIn(2) ? random.list() : random.spoiled(), x, y);
            return;
        }
        someCall(at, random, x, y, kind, new int[] {p, v, w, years, what, four});
    }

    private static void someCall(String at, RandomLists random, BudgetJury x, PlainJury y, int kind, int[] n) {
        int p = n[0];
        int v = n[1];
        switch (kind) {
            case 0:
                int b = random.below(1000000) * 4321;
                both(at + "feed", () -> x.feed(b, b + 1, b * 2, b * 3, ~b), () -> y.feed(b, b + 1, b * 2, b * 3, ~b));
                break;
            case 1:
                both(at + "trim " + n[3], () -> x.trim(n[3]), () -> y.trim(n[3]));
                break;
            case 2:
                int what = near(random, 12);
                both(at + "count " + what, () -> x.count(what), () -> y.count(what));
                break;
            case 3:
                both(at + "ward " + n[2] + " " + n[5], () -> x.ward(n[2], n[5]), () -> y.ward(n[2], n[5]));
                break;
            case 4:
                both(at + "project " + p + " " + n[4], () -> x.project(p, n[4]), () -> y.project(p, n[4]));
                break;
            case 5:
                both(at + "share " + p, () -> x.share(p), () -> y.share(p));
                break;
            case 6:
                both(at + "voter " + v + " " + n[5], () -> x.voter(v, n[5]), () -> y.voter(v, n[5]));
                break;
            case 7:
                both(at + "likes", () -> x.likes(v, p) ? 1 : 0, () -> y.likes(v, p) ? 1 : 0);
                break;
            case 8:
                both(at + "envy", () -> x.envy(v, n[2]), () -> y.envy(v, n[2]));
                break;
            case 9:
                both(at + "next", x::next, y::next);
                break;
            case 10:
            case 11:
                boolean does = random.oneIn(2);
                both(at + "approve", () -> x.approve(v, p, does) ? 1 : 0, () -> y.approve(v, p, does) ? 1 : 0);
                break;
            case 12:
            case 13:
                int coins = random.oneIn(6) ? random.below(1002) - 1 : random.below(60);
                both(at + "give " + coins, () -> x.give(v, coins), () -> y.give(v, coins));
                break;
            case 14:
                int budget = random.oneIn(6) ? random.below(10003) - 1 : random.below(150);
                both(at + "setBudget " + budget, () -> x.setBudget(budget), () -> y.setBudget(budget));
                break;
            case 15:
            case 16:
                both(at + "open " + p, () -> x.open(p), () -> y.open(p));
                break;
            default:
                years(at, random, x, y, kind, n);
        }
    }

    private static void years(String at, RandomLists random, BudgetJury x, PlainJury y, int kind, int[] n) {
        int years = n[3];
        switch (kind) {
            case 17:
            case 18:
                both(at + "pass " + years, () -> x.pass(years), () -> y.pass(years));
                break;
            case 19:
                both(at + "until", () -> x.until(n[0]), () -> y.until(n[0]));
                break;
            case 20:
                int what = random.oneIn(9) ? random.below(13) : 6 + random.below(5);
                both(at + "foresee " + what, () -> x.foresee(years, what), () -> y.foresee(years, what));
                break;
            case 21:
                both(at + "advise", () -> x.advise(n[1], years), () -> y.advise(n[1], years));
                break;
            case 22:
                both(at + "spare", () -> x.spare(years), () -> y.spare(years));
                break;
            default:
                Due.same(at + "mean", x.mean(), y.mean());
                both(at + "digest", x::digest, y::digest);
        }
    }
}
