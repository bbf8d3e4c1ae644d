/** Makes lists and numbers from a seed, always the same ones. */
final class RandomLists {
    private static final String[] RELATIONS = {"<", ">", "=", "<=", ">="};
    private static final String[] SIGNS = {" + ", " - ", " * ", " / ", "-", "+", "*", "/"};
    private long seed;
    private int wards;
    private int projects;
    private int voters;

    RandomLists(long seed) {
        this.seed = seed * 2654435761L + 12345;
    }

    int below(int n) {
        seed = seed * 6364136223846793005L + 1442695040888963407L;
        return (int) ((seed >>> 33) % n);
    }

    boolean oneIn(int n) {
        return below(n) == 0;
    }

    /** A list that is mostly right; at times of any number of lines. */
    String list() {
        StringBuilder text = new StringBuilder();
        wards = 1 + below(oneIn(20) ? 5 : 4);
        projects = below(oneIn(20) ? 14 : 13);
        voters = oneIn(8) ? 0 : 1 + below(oneIn(20) ? 13 : 12);
        for (int i = 0; i < wards; i++) {
            text.append("ward ").append(ward(i)).append(" cap ").append(oneIn(40) ? below(15) : below(4)).append(';').append(gap());
        }
        for (int i = 0; i < projects; i++) {
            int cost = oneIn(60) ? below(1100) : 1 + below(oneIn(4) ? 999 : 90);
            text.append("project ").append(project(i)).append(" cost ").append(cost).append(" in ")
                .append(ward(below(wards))).append(" grows ").append(oneIn(80) ? below(60) : oneIn(3) ? 0 : below(51)).append(';').append(gap());
        }
        int density = 1 + below(4);
        for (int i = 0; i < voters; i++) {
            text.append("voter ").append(voter(i));
            String before = " likes ";
            for (int p = 0; p < projects; p++) {
                if (below(5) < density) {
                    text.append(before).append(project(p));
                    before = " ";
                }
            }
            text.append(';').append(gap());
        }
        if (!oneIn(4)) {
            text.append("budget ").append(oneIn(40) ? below(12000) : below(oneIn(5) ? 10000 : 200)).append(';');
        }
        int bans = projects == 0 ? 0 : below(oneIn(5) ? 14 : 5);
        for (int i = 0; i < bans; i++) {
            text.append("ban ").append(project(below(projects))).append(" when ").append(test(0)).append(';').append(gap());
        }
        return text.length() > 2000 ? text.substring(0, 2000) : text.toString();
    }

    /** A list in which something is changed. */
    String spoiled() {
        StringBuilder text = new StringBuilder(list());
        int changes = 1 + below(2);
        for (int i = 0; i < changes && text.length() > 0; i++) {
            int at = below(text.length());
            int kind = below(5);
            String any = "();[],+-*/<>= \n019az _A\t\u00ff\u0080p1w0";
            if (kind == 0) {
                text.setCharAt(at, any.charAt(below(any.length())));
            } else if (kind == 1) {
                text.deleteCharAt(at);
            } else if (kind == 2 && text.length() < 2000) {
                text.insert(at, any.charAt(below(any.length())));
            } else if (kind == 3) {
                text.setLength(at);
            } else {
                int other = below(text.length());
                text.delete(Math.min(at, other), Math.min(Math.max(at, other), Math.min(at, other) + 12));
            }
        }
        return text.toString();
    }

    private String gap() {
        return oneIn(3) ? "\n" : oneIn(2) ? " " : "";
    }

    private String ward(int i) {
        return oneIn(300) ? "nowhere" : "w" + i;
    }

    private String project(int i) {
        return oneIn(300) ? "nothing" : "p" + i;
    }

    private String voter(int i) {
        return oneIn(300) ? "nobody" : "v" + i;
    }

    String test(int depth) {
        String text = single(depth);
        while (oneIn(3)) {
            text += (oneIn(2) ? " and " : " or ") + single(depth);
        }
        return text;
    }

    private String single(int depth) {
        int kind = below(10);
        if (kind == 0 && depth < 9) {
            return "not " + single(depth + 1);
        }
        if (kind == 1 && depth < 9) {
            return "[" + test(depth + 1) + "]";
        }
        if (kind == 2) {
            return "built " + project(below(projects));
        }
        if (kind == 3 && voters > 0) {
            return "likes " + voter(below(voters)) + " " + project(below(projects));
        }
        return sum(depth) + (oneIn(2) ? " " : "") + RELATIONS[below(5)] + " " + sum(depth);
    }

    private String sum(int depth) {
        String text = value(depth);
        while (oneIn(3)) {
            text += SIGNS[below(SIGNS.length)] + value(depth);
        }
        return text;
    }

    private String value(int depth) {
        switch (below(12)) {
            case 0: return "year";
            case 1: return "pot";
            case 2: return "cost " + project(below(projects));
            case 3: return "fans " + project(below(projects));
            case 4: return voters == 0 ? "0" : "purse " + voter(below(voters));
            case 5: return voters == 0 ? "1" : "pleased " + voter(below(voters));
            case 6: return depth < 9 ? (oneIn(2) ? "- " : "-") + value(depth + 1) : "7";
            case 7: return depth < 9 ? "(" + sum(depth + 1) + ")" : "8";
            case 8: return depth < 9 ? "min(" + sum(depth + 1) + "," + sum(depth + 1) + ")" : "9";
            case 9: return depth < 9 ? "max (" + sum(depth + 1) + ", " + sum(depth + 1) + " )" : "9";
            case 10: return "" + below(oneIn(4) ? 1000000 : 120);
            default: return "" + below(10);
        }
    }
}
