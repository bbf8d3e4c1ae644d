import java.util.ArrayList;
import java.util.Arrays;
import java.util.List;
import java.util.function.IntSupplier;

/**
 * The document's words once more, in the slowest and plainest way, written apart from the class under
 * test: the shares are tried one by one, the tests are trees of functions, and what would be is tried on a
 * jury that is taught and led to the same state anew. Throws the exceptions' names as Wrong.
 */
final class PlainJury {
    static final class Wrong extends RuntimeException {
        private static final long serialVersionUID = 1;
        final String name;

        Wrong(String name) {
            super(name);
            this.name = name;
        }
    }

    private static final class ListError extends RuntimeException {
        private static final long serialVersionUID = 1;
        final int error;
        final int at;

        ListError(int error, int at) {
            super("" + error);
            this.error = error;
            this.at = at;
        }
    }

    private static final class Project {
        String name;
        int cost;
        int ward;
        int grows;
        int year = -1;
        boolean bought;
        boolean left;
        final List<Integer> fans = new ArrayList<>();
    }

    private static final class Voter {
        String name;
        int purse;
        int paid;
    }

    private static final class Ward {
        String name;
        int cap;
        int built;
    }

    private static final class Ban {
        int project;
        IntSupplier test;
    }

    private static final class Token {
        String text;
        int at;
    }

    private static final List<String> KEYWORDS = Arrays.asList("ward", "cap", "project", "cost", "in", "grows",
        "voter", "likes", "budget", "ban", "when", "year", "pot", "purse", "fans", "built", "pleased", "not", "and",
        "or", "min", "max");

    private final StringBuilder tape = new StringBuilder();
    private String list = "";
    private int errorAt = -1;
    private int year;
    private int pot;
    private int paidInAll;
    private int budget = 100;
    private List<Ward> wards = new ArrayList<>();
    private List<Project> projects = new ArrayList<>();
    private List<Voter> voters = new ArrayList<>();
    private List<Ban> bans = new ArrayList<>();

    // ---- the language

    int feed(int... numbers) {
        if (tape.length() + 20 > 2000) {
            throw new Wrong("IllegalStateException");
        }
        for (int number : numbers) {
            feedFour(number);
        }
        return tape.length();
    }

    void feedFour(int number) {
        tape.append((char) (number >>> 24)).append((char) (number >>> 16 & 255));
        tape.append((char) (number >>> 8 & 255)).append((char) (number & 255));
    }

    int trim(int n) {
        if (n < 0 || n > tape.length()) {
            throw new Wrong("IllegalArgumentException");
        }
        tape.setLength(n);
        return n;
    }

    int teach() {
        String text = tape.toString();
        tape.setLength(0);
        errorAt = -1;
        PlainJury other = new PlainJury();
        try {
            other.learn(text);
        } catch (ListError e) {
            errorAt = e.at;
            return e.error;
        }
        learn(text);
        return 0;
    }

    int errorAt() {
        return errorAt;
    }

    private void learn(String text) {
        new Reading(text, true).list();
        wards = new ArrayList<>();
        projects = new ArrayList<>();
        voters = new ArrayList<>();
        bans = new ArrayList<>();
        budget = 100;
        pot = 0;
        paidInAll = 0;
        list = text;
        new Reading(text, false).list();
    }

    /** Reads a list: at first only its grammar, and the second time what it says. */
    private final class Reading {
        private final String text;
        private final boolean only;
        private final List<Token> tokens = new ArrayList<>();
        private int next;

        Reading(String text, boolean only) {
            this.text = text;
            this.only = only;
            cut();
        }

        private void cut() {
            int at = 0;
            while (true) {
                while (at < text.length() && (text.charAt(at) == ' ' || text.charAt(at) == '\n')) {
                    at++;
                }
                Token token = new Token();
                token.at = at;
                tokens.add(token);
                if (at == text.length()) {
                    token.text = "\u0000end";
                    return;
                }
                String rest = text.substring(at);
                String found = rest.replaceFirst("(?s)^([a-z][a-z0-9]*|[0-9]+|<=|>=|[()\\[\\];,+*/<>=-]).*$", "$1");
                boolean token1 = rest.matches("(?s)^([a-z]|[0-9]|[()\\[\\];,+*/<>=-]).*$");
                boolean tooLong = token1 && (Character.isLetter(found.charAt(0)) && found.length() > 10
                    || Character.isDigit(found.charAt(0)) && found.length() > 6);
                if (!token1 || tooLong || tokens.size() == 401) {
                    token.text = "\u0000bad";
                    return;
                }
                token.text = found;
                at += found.length();
            }
        }

        private String see() {
            return tokens.get(next).text;
        }

        private int where() {
            return tokens.get(next).at;
        }

        private ListError stop(int error) {
            return new ListError(error, where());
        }

        private void take(String text) {
            if (!see().equals(text)) {
                throw stop(1);
            }
            next++;
        }

        private boolean tookIf(String text) {
            boolean is = see().equals(text);
            next += is ? 1 : 0;
            return is;
        }

        private boolean atName() {
            return see().matches("[a-z].*") && !KEYWORDS.contains(see());
        }

        private String seeName() {
            if (!atName()) {
                throw stop(1);
            }
            return see();
        }

        private int number(int least, int most) {
            if (!see().matches("[0-9]+")) {
                throw stop(1);
            }
            int number = Integer.parseInt(see());
            if (!only && (number < least || number > most)) {
                throw stop(5);
            }
            next++;
            return number;
        }

        private int newName(List<String> told, int most) {
            String name = seeName();
            if (!only && told.contains(name)) {
                throw stop(2);
            }
            if (!only && told.size() == most) {
                throw stop(4);
            }
            next++;
            return 0;
        }

        private int oldName(List<String> told) {
            String name = seeName();
            if (!only && !told.contains(name)) {
                throw stop(3);
            }
            next++;
            return told.indexOf(name);
        }

        private List<String> wardNames() {
            List<String> names = new ArrayList<>();
            wards.forEach(w -> names.add(w.name));
            return names;
        }

        private List<String> projectNames() {
            List<String> names = new ArrayList<>();
            projects.forEach(p -> names.add(p.name));
            return names;
        }

        private List<String> voterNames() {
            List<String> names = new ArrayList<>();
            voters.forEach(v -> names.add(v.name));
            return names;
        }

        void list() {
            while (!see().equals("\u0000end")) {
                line();
                take(";");
            }
        }

        private void line() {
            String word = see();
            if (word.equals("ward")) {
                next++;
                Ward ward = new Ward();
                ward.name = see();
                newName(wardNames(), 4);
                take("cap");
                ward.cap = number(0, 12);
                if (!only) {
                    wards.add(ward);
                }
            } else if (word.equals("project")) {
                next++;
                Project project = new Project();
                project.name = see();
                newName(projectNames(), 12);
                take("cost");
                project.cost = number(1, 999);
                take("in");
                project.ward = oldName(wardNames());
                take("grows");
                project.grows = number(0, 50);
                if (!only) {
                    projects.add(project);
                }
            } else if (word.equals("voter")) {
                next++;
                voter();
            } else if (word.equals("budget")) {
                next++;
                int told = number(0, 9999);
                if (!only) {
                    budget = told;
                }
            } else if (word.equals("ban")) {
                if (!only && bans.size() == 12) {
                    throw stop(4);
                }
                next++;
                Ban ban = new Ban();
                ban.project = oldName(projectNames());
                take("when");
                ban.test = test(0);
                if (!only) {
                    bans.add(ban);
                }
            } else {
                throw stop(1);
            }
        }

        private void voter() {
            Voter voter = new Voter();
            voter.name = see();
            newName(voterNames(), 12);
            int number = voters.size();
            if (!only) {
                voters.add(voter);
            }
            if (!tookIf("likes")) {
                return;
            }
            List<String> liked = new ArrayList<>();
            do {
                String name = seeName();
                if (!only && !projectNames().contains(name)) {
                    throw stop(3);
                }
                if (!only && liked.contains(name)) {
                    throw stop(5);
                }
                next++;
                liked.add(name);
                if (!only) {
                    projects.get(projectNames().indexOf(name)).fans.add(number);
                }
            } while (atName());
        }

        private IntSupplier test(int depth) {
            IntSupplier left = both(depth);
            while (tookIf("or")) {
                IntSupplier a = left;
                IntSupplier b = both(depth);
                left = () -> a.getAsInt() + b.getAsInt() > 0 ? 1 : 0;
            }
            return left;
        }

        private IntSupplier both(int depth) {
            IntSupplier left = single(depth);
            while (tookIf("and")) {
                IntSupplier a = left;
                IntSupplier b = single(depth);
                left = () -> a.getAsInt() * b.getAsInt();
            }
            return left;
        }

        private int deeper(int depth) {
            if (depth == 8) {
                throw stop(1);
            }
            next++;
            return depth + 1;
        }

        private IntSupplier single(int depth) {
            if (see().equals("not")) {
                IntSupplier turned = single(deeper(depth));
                return () -> 1 - turned.getAsInt();
            }
            if (see().equals("[")) {
                IntSupplier inside = test(deeper(depth));
                take("]");
                return inside;
            }
            if (tookIf("built")) {
                int project = oldName(projectNames());
                return () -> projects.get(project).year >= 0 ? 1 : 0;
            }
            if (tookIf("likes")) {
                int voter = oldName(voterNames());
                int project = oldName(projectNames());
                return () -> projects.get(project).fans.contains(voter) ? 1 : 0;
            }
            IntSupplier a = sum(depth);
            String sign = see();
            if (!Arrays.asList("<", ">", "=", "<=", ">=").contains(sign)) {
                throw stop(1);
            }
            next++;
            IntSupplier b = sum(depth);
            return () -> {
                int difference = Integer.compare(a.getAsInt(), b.getAsInt());
                return (difference < 0 && sign.contains("<") || difference > 0 && sign.contains(">")
                    || difference == 0 && sign.contains("=")) ? 1 : 0;
            };
        }

        private IntSupplier sum(int depth) {
            IntSupplier left = product(depth);
            while (see().equals("+") || see().equals("-")) {
                int sign = see().equals("+") ? 1 : -1;
                next++;
                IntSupplier a = left;
                IntSupplier b = product(depth);
                left = () -> (int) (a.getAsInt() + (long) sign * b.getAsInt());
            }
            return left;
        }

        private IntSupplier product(int depth) {
            IntSupplier left = value(depth);
            while (see().equals("*") || see().equals("/")) {
                boolean times = see().equals("*");
                next++;
                IntSupplier a = left;
                IntSupplier b = value(depth);
                left = () -> {
                    long x = a.getAsInt();
                    long y = b.getAsInt();
                    return (int) (times ? x * y : y == 0 ? 0 : x / y);
                };
            }
            return left;
        }

        private IntSupplier value(int depth) {
            String word = see();
            switch (word) {
                case "year":
                    next++;
                    return () -> year;
                case "pot":
                    next++;
                    return () -> pot;
                case "cost":
                case "fans":
                    next++;
                    int project = oldName(projectNames());
                    return () -> word.equals("cost") ? projects.get(project).cost : projects.get(project).fans.size();
                case "purse":
                case "pleased":
                    next++;
                    int voter = oldName(voterNames());
                    return () -> word.equals("purse") ? voters.get(voter).purse : pleased(voter);
                case "-":
                    IntSupplier turned = value(deeper(depth));
                    return () -> (int) -(long) turned.getAsInt();
                case "(":
                    IntSupplier inside = sum(deeper(depth));
                    take(")");
                    return inside;
                case "min":
                case "max":
                    next++;
                    if (!see().equals("(")) {
                        throw stop(1);
                    }
                    int below = deeper(depth);
                    IntSupplier a = sum(below);
                    take(",");
                    IntSupplier b = sum(below);
                    take(")");
                    return () -> {
                        int x = a.getAsInt();
                        int y = b.getAsInt();
                        return word.equals("min") == x < y ? x : y;
                    };
                default:
                    int number = number(0, 999999);
                    return () -> number;
            }
        }
    }

    // ---- what there is

    private static void need(boolean is, String name) {
        if (!is) {
            throw new Wrong(name);
        }
    }

    private void needProject(int project) {
        need(project >= 0 && project < projects.size(), "IndexOutOfBoundsException");
    }

    private void needVoter(int voter) {
        need(voter >= 0 && voter < voters.size(), "IndexOutOfBoundsException");
    }

    int count(int what) {
        need(what >= 0 && what <= 11, "IndexOutOfBoundsException");
        int[] all = {year, wards.size(), projects.size(), voters.size(), bans.size(), budget, pot,
            voters.stream().mapToInt(v -> v.purse).sum(), built(),
            (int) projects.stream().filter(p -> p.bought).count(), paidInAll, tape.length()};
        return all[what];
    }

    private int built() {
        return (int) projects.stream().filter(p -> p.year >= 0).count();
    }

    int ward(int ward, int what) {
        need(ward >= 0 && ward < wards.size() && what >= 0 && what <= 3, "IndexOutOfBoundsException");
        int[] all = {wards.get(ward).cap, 0, 0, 0};
        for (Project p : projects) {
            if (p.ward == ward) {
                all[1]++;
                all[2] += p.year >= 0 ? 1 : 0;
                all[3] += p.year >= 0 ? p.cost : 0;
            }
        }
        return all[what];
    }

    int project(int project, int what) {
        needProject(project);
        need(what >= 0 && what <= 7, "IndexOutOfBoundsException");
        Project p = projects.get(project);
        int[] all = {p.cost, p.ward, p.grows, p.fans.size(), p.year, p.bought ? 1 : 0, banned(project) ? 1 : 0,
            paying(p, 9999)};
        return all[what];
    }

    private boolean banned(int project) {
        boolean is = false;
        for (Ban ban : bans) {
            is |= ban.project == project && ban.test.getAsInt() != 0;
        }
        return is;
    }

    private int paying(Project p, int each) {
        int coins = 0;
        for (int fan : p.fans) {
            coins += Math.min(each, voters.get(fan).purse);
        }
        return coins;
    }

    private int shareOf(Project p) {
        for (int each = 1; each <= 9999; each++) {
            if (paying(p, each) >= p.cost) {
                return each;
            }
        }
        return -1;
    }

    int share(int project) {
        needProject(project);
        return shareOf(projects.get(project));
    }

    private int pleased(int voter) {
        return (int) projects.stream().filter(p -> p.year >= 0 && p.fans.contains(voter)).count();
    }

    int voter(int voter, int what) {
        needVoter(voter);
        need(what >= 0 && what <= 3, "IndexOutOfBoundsException");
        int[] all = {voters.get(voter).purse, (int) projects.stream().filter(p -> p.fans.contains(voter)).count(),
            pleased(voter), voters.get(voter).paid};
        return all[what];
    }

    boolean likes(int voter, int project) {
        needVoter(voter);
        needProject(project);
        return projects.get(project).fans.contains(voter);
    }

    int envy(int a, int b) {
        needVoter(a);
        needVoter(b);
        return pleased(b) - pleased(a);
    }

    int next() {
        PlainJury other = twin();
        other.stepOne();
        return other.choice();
    }

    // ---- by hand

    boolean approve(int voter, int project, boolean does) {
        boolean did = likes(voter, project);
        List<Integer> fans = projects.get(project).fans;
        fans.remove((Integer) voter);
        if (does) {
            fans.add(voter);
            fans.sort(null);
        }
        return did;
    }

    int give(int voter, int coins) {
        needVoter(voter);
        need(coins >= 1 && coins <= 999, "IllegalArgumentException");
        Voter v = voters.get(voter);
        v.purse = Math.min(9999, v.purse + coins);
        return v.purse;
    }

    int setBudget(int coins) {
        need(coins >= 0 && coins <= 9999, "IllegalArgumentException");
        int before = budget;
        budget = coins;
        return before;
    }

    int open(int project) {
        needProject(project);
        Project p = projects.get(project);
        need(p.year >= 0, "IllegalStateException");
        int was = p.year;
        p.year = -1;
        p.bought = false;
        return was;
    }

    // ---- years

    int pass(int years) {
        need(years >= 1 && years <= 60, "IllegalArgumentException");
        int before = built();
        for (int i = 0; i < years; i++) {
            goOn();
        }
        return built() - before;
    }

    private void goOn() {
        stepOne();
        for (int p = choice(); p >= 0; p = choice()) {
            buy(projects.get(p));
        }
        for (int p = potChoice(); p >= 0; p = potChoice()) {
            pot -= projects.get(p).cost;
            build(projects.get(p));
        }
        for (Project p : projects) {
            if (p.year < 0) {
                p.cost = Math.min(9999, p.cost + p.cost * p.grows / 100);
            }
        }
        year++;
    }

    private void stepOne() {
        wards.forEach(w -> w.built = 0);
        int rest = budget;
        for (Voter v : voters) {
            v.purse = Math.min(9999, v.purse + budget / voters.size());
            rest -= budget / voters.size();
        }
        pot = Math.min(9999, pot + rest);
    }

    private boolean choosable(int project) {
        Project p = projects.get(project);
        return p.year < 0 && !p.left && wards.get(p.ward).built < wards.get(p.ward).cap && !banned(project);
    }

    private int choice() {
        int found = -1;
        long least = Long.MAX_VALUE;
        for (int i = 0; i < projects.size(); i++) {
            Project p = projects.get(i);
            if (choosable(i) && shareOf(p) > 0) {
                long rank = (shareOf(p) * 100L + 99 - p.fans.size()) * 100 + i;
                if (rank < least) {
                    least = rank;
                    found = i;
                }
            }
        }
        return found;
    }

    private void buy(Project p) {
        int share = shareOf(p);
        int[] pays = new int[voters.size()];
        int over = -p.cost;
        for (int fan : p.fans) {
            pays[fan] = Math.min(share, voters.get(fan).purse);
            over += pays[fan];
        }
        for (int fan = 0; over > 0; fan++) {
            if (pays[fan] == share) {
                pays[fan]--;
                over--;
            }
        }
        for (int v = 0; v < pays.length; v++) {
            voters.get(v).purse -= pays[v];
            voters.get(v).paid += pays[v];
        }
        p.bought = true;
        build(p);
    }

    private void build(Project p) {
        p.year = year;
        wards.get(p.ward).built++;
        paidInAll += p.cost;
    }

    private int potChoice() {
        int found = -1;
        long least = Long.MAX_VALUE;
        for (int i = 0; i < projects.size(); i++) {
            Project p = projects.get(i);
            if (choosable(i) && p.cost <= pot) {
                long rank = ((99 - p.fans.size()) * 10000L + p.cost) * 100 + i;
                if (rank < least) {
                    least = rank;
                    found = i;
                }
            }
        }
        return found;
    }

    // ---- what would be

    private PlainJury twin() {
        PlainJury other = new PlainJury();
        other.learn(list);
        other.year = year;
        other.pot = pot;
        other.budget = budget;
        other.paidInAll = paidInAll;
        for (int i = 0; i < voters.size(); i++) {
            other.voters.get(i).purse = voters.get(i).purse;
            other.voters.get(i).paid = voters.get(i).paid;
        }
        for (int i = 0; i < projects.size(); i++) {
            Project to = other.projects.get(i);
            Project from = projects.get(i);
            to.cost = from.cost;
            to.year = from.year;
            to.bought = from.bought;
            to.fans.clear();
            to.fans.addAll(from.fans);
        }
        return other;
    }

    int until(int project) {
        needProject(project);
        PlainJury other = twin();
        int years = 0;
        while (other.projects.get(project).year < 0) {
            if (years == 60) {
                return -1;
            }
            other.pass(1);
            years++;
        }
        return years;
    }

    int foresee(int years, int what) {
        need(years >= 1 && years <= 60, "IllegalArgumentException");
        need(what >= 6 && what <= 10, "IndexOutOfBoundsException");
        PlainJury other = twin();
        other.pass(years);
        return other.count(what);
    }

    int advise(int voter, int years) {
        needVoter(voter);
        need(years >= 1 && years <= 20, "IllegalArgumentException");
        PlainJury without = twin();
        without.pass(years);
        int[] after = new int[projects.size()];
        int most = without.pleased(voter);
        for (int i = 0; i < after.length; i++) {
            after[i] = -1;
            if (projects.get(i).year < 0 && !likes(voter, i)) {
                PlainJury other = twin();
                other.approve(voter, i, true);
                other.pass(years);
                after[i] = other.pleased(voter);
                most = Math.max(most, after[i]);
            }
        }
        if (most == without.pleased(voter)) {
            return -1;
        }
        int found = 0;
        while (after[found] != most) {
            found++;
        }
        return found;
    }

    int spare(int years) {
        need(years >= 1 && years <= 20, "IllegalArgumentException");
        int found = -1;
        int most = -1;
        for (int i = projects.size() - 1; i >= 0; i--) {
            if (projects.get(i).year < 0) {
                PlainJury other = twin();
                other.projects.get(i).left = true;
                other.pass(years);
                if (other.built() >= most) {
                    most = other.built();
                    found = i;
                }
            }
        }
        return found;
    }

    double mean() {
        int sum = 0;
        for (int v = 0; v < voters.size(); v++) {
            sum += pleased(v);
        }
        return voters.isEmpty() ? 0 : (double) sum / voters.size();
    }

    long digest() {
        List<Integer> all = new ArrayList<>();
        for (int what = 0; what < 12; what++) {
            all.add(count(what));
        }
        for (int i = 0; i < wards.size() * 4; i++) {
            all.add(ward(i / 4, i % 4));
        }
        for (int i = 0; i < projects.size() * 9; i++) {
            all.add(i % 9 == 8 ? share(i / 9) : project(i / 9, i % 9));
        }
        for (int i = 0; i < voters.size() * 4; i++) {
            all.add(voter(i / 4, i % 4));
        }
        all.add(next());
        long d = 881;
        for (int x : all) {
            d = d * 31 + x;
        }
        return d;
    }
}
