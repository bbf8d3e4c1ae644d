/** Section 1 of the document, with promises 2 to 5: the tape, tokens, grammar, depth and the five errors. */
public final class LanguageTest {
    private static final String BASE = "ward a cap 1; project p cost 5 in a grows 0; voter v likes p; ";

    public static void main(String[] args) {
        feedAndTrim();
        tokens();
        grammar();
        depth();
        limits();
        names();
        ranges();
        order();
        stays();
        oneAfterAnother();
        Due.end();
    }

    /** Behind BASE, at a position counted from there. */
    private static void wrongBan(String test, int error, int at) {
        Due.error(BASE + "ban p when " + test + ";", error, BASE.length() + 11 + at);
    }

    private static void rightBan(String test) {
        Due.right(BASE + "ban p when " + test + ";");
    }

    private static void feedAndTrim() {
        BudgetJury jury = new BudgetJury();
        Due.same("errorAt at first", jury.errorAt(), -1);
        Due.thrown("trim(-1)", IllegalArgumentException.class, () -> jury.trim(-1));
        Due.thrown("trim(1) of nothing", IllegalArgumentException.class, () -> jury.trim(1));
        Due.same("trim(0)", jury.trim(0), 0);
        // "ward abc cap 7;     " with the highest byte first
        Due.same("feed", jury.feed(0x77617264, 0x20616263, 0x20636170, 0x20373b20, 0x20202020), 20);
        Due.same("count(11)", jury.count(11), 20);
        Due.same("teach", jury.teach(), 0);
        Due.same("ward(0, 0)", jury.ward(0, 0), 7);
        Due.same("the tape is empty", jury.count(11), 0);
        for (int i = 1; i <= 100; i++) {
            Due.same("feed " + i, jury.feed(-1, 0, 0, 0, 0x80), 20 * i);
        }
        Due.thrown("feed into a full tape", IllegalStateException.class, () -> jury.feed(0, 0, 0, 0, 0));
        Due.same("the full tape", jury.count(11), 2000);
        Due.same("trim(1981)", jury.trim(1981), 1981);
        Due.thrown("feed with 1981", IllegalStateException.class, () -> jury.feed(0, 0, 0, 0, 0));
        Due.thrown("trim(1982)", IllegalArgumentException.class, () -> jury.trim(1982));
        Due.thrown("trim(least)", IllegalArgumentException.class, () -> jury.trim(Integer.MIN_VALUE));
        Due.same("trim(1980)", jury.trim(1980), 1980);
        Due.same("feed with 1980", jury.feed(0, 0, 0, 0, 0), 2000);
        Due.same("teach of bad bytes", jury.teach(), 1);
        Due.same("errorAt of bad bytes", jury.errorAt(), 0);
        Due.same("the tape is empty again", jury.count(11), 0);
        Due.same("teach of nothing", jury.teach(), 0);
        Due.same("errorAt of nothing", jury.errorAt(), -1);
    }

    private static void tokens() {
        Due.right("");
        Due.right(" \n ");
        Due.right("\n ward\na\ncap\n3\n;\n");
        Due.right("ward a cap 1;ward b cap 2;");
        // A number ends where a letter begins; nothing has to stand between them.
        Due.right("ward a cap 1;project p cost 5in a grows 0;");
        Due.right("ward a cap 000012;");
        Due.error("ward a cap 0000012;", 1, 11);
        Due.error("ward a cap 1234567;", 1, 11);
        Due.right("ward abcdefghij cap 1;");
        Due.right("ward a234567890 cap 1;");
        Due.error("ward abcdefghijk cap 1;", 1, 5);
        Due.error("ward a cap 1;abcdefghijkl", 1, 13);
        Due.error("wardx a cap 1;", 1, 0);
        Due.error("warda cap 1;", 1, 0);
        Due.error("ward a cap1;", 1, 7);
        Due.error("ward A cap 1;", 1, 5);
        Due.error("ward a\tcap 1;", 1, 6);
        Due.error("ward a\rcap 1;", 1, 6);
        Due.error("ward a_ cap 1;", 1, 6);
        Due.error("ward a\u00e4 cap 1;", 1, 6);
        Due.error("ward a cap 1; \u00ff", 1, 14);
        Due.error("ward a cap 1; \u0000", 1, 14);
        Due.error("ward 1a cap 1;", 1, 5);
        Due.error("ward a cap -1;", 1, 11);
        for (String sign : new String[] {"<", ">", "=", "<=", ">="}) {
            rightBan("1" + sign + "2");
            rightBan("1 " + sign + " - 2");
        }
        wrongBan("1 < = 2", 1, 4);
        wrongBan("1 =< 2", 1, 3);
        wrongBan("1 => 2", 1, 3);
        wrongBan("1 == 2", 1, 3);
        wrongBan("1 <> 2", 1, 3);
        // Two names that are to be told apart by their length alone.
        Due.right("ward a cap 1; ward a0 cap 1; ward a00 cap 1; ward aa cap 1;");
        Due.right("ward wards cap 1; ward caps cap 1; ward i cap 1; ward inn cap 1;");
    }

    private static void grammar() {
        Due.error("ward", 1, 4);
        Due.error("ward ", 1, 5);
        Due.error("ward a cap 1", 1, 12);
        Due.error("ward a cap 1 \n", 1, 14);
        Due.error("ward a cap 1;;", 1, 13);
        Due.error(";", 1, 0);
        Due.error("ward a cap b;", 1, 11);
        Due.error("ward a 1;", 1, 7);
        Due.error("cap a ward 1;", 1, 0);
        for (String keyword : ("ward cap project cost in grows voter likes budget ban when year pot purse fans built "
            + "pleased not and or min max").split(" ")) {
            Due.error("ward " + keyword + " cap 1;", 1, 5);
            Due.error("voter " + keyword + ";", 1, 6);
        }
        Due.error("ward a cap 1; project p cost 5;", 1, 30);
        Due.error("ward a cap 1; project p in a cost 5 grows 1;", 1, 24);
        Due.error("ward a cap 1; project p cost 5 in a;", 1, 35);
        Due.right("voter v;");
        Due.error("voter v likes;", 1, 13);
        Due.error("voter v likes 1;", 1, 14);
        Due.error(BASE + "voter w likes p 1;", 1, BASE.length() + 16);
        Due.error(BASE + "voter w likes p, p;", 1, BASE.length() + 15);
        Due.error("budget;", 1, 6);
        Due.right("budget 1; budget 2;");
        Due.error(BASE + "ban p;", 1, BASE.length() + 5);
        Due.error(BASE + "ban when 1 < 2;", 1, BASE.length() + 4);
        rightBan("built p and not built p or likes v p");
        rightBan("[built p or built p] and [built p]");
        rightBan("not [built p and built p]");
        rightBan("year + pot - cost p * fans p / purse v + pleased v = -(1) - -2");
        rightBan("min(1, 2) < max(min(year, pot), 3 + 4)");
        rightBan("(1) < ((2) * 3)");
        wrongBan("", 1, 0);
        wrongBan("1", 1, 1);
        wrongBan("1 + 2", 1, 5);
        wrongBan("1 < 2 < 3", 1, 6);
        wrongBan("(1 < 2)", 1, 3);
        wrongBan("(built p)", 1, 1);
        wrongBan("[1] < 2", 1, 2);
        wrongBan("[1 < 2", 1, 6);
        wrongBan("[1 < 2)", 1, 6);
        wrongBan("(1 + 2 < 3", 1, 7);
        wrongBan("built 1", 1, 6);
        wrongBan("built p p", 1, 8);
        wrongBan("likes v", 1, 7);
        wrongBan("cost < 1", 1, 5);
        wrongBan("purse 1 < 1", 1, 6);
        wrongBan("p < 1", 1, 0);
        wrongBan("1 < 2 and", 1, 9);
        wrongBan("1 < 2 or", 1, 8);
        wrongBan("and 1 < 2", 1, 0);
        wrongBan("1 not < 2", 1, 2);
        wrongBan("1 < not 2", 1, 4);
        wrongBan("1 + * 2 < 3", 1, 4);
        wrongBan("+1 < 3", 1, 0);
        wrongBan("min 1, 2 < 3", 1, 4);
        wrongBan("min(1) < 3", 1, 5);
        wrongBan("min(1, 2, 3) < 3", 1, 8);
        wrongBan("max(1, ) < 3", 1, 7);
        wrongBan("year 1 < 3", 1, 5);
    }

    private static void depth() {
        rightBan(Due.times("not ", 8) + "built p");
        wrongBan(Due.times("not ", 9) + "built p", 1, 32);
        rightBan(Due.times("[", 8) + "built p" + Due.times("]", 8));
        wrongBan(Due.times("[", 9) + "built p" + Due.times("]", 9), 1, 8);
        rightBan(Due.times("(", 8) + "1" + Due.times(")", 8) + " < 2");
        wrongBan(Due.times("(", 9) + "1" + Due.times(")", 9) + " < 2", 1, 8);
        rightBan(Due.times("-", 8) + "1 < 2");
        wrongBan(Due.times("-", 9) + "1 < 2", 1, 8);
        rightBan("1 < " + Due.times("min(1,", 8) + "1" + Due.times(")", 8));
        // The ( behind the min is the wrong one, not the min.
        wrongBan("1 < " + Due.times("min(1,", 9) + "1" + Due.times(")", 9), 1, 4 + 8 * 6 + 3);
        rightBan("not [not [-(-(1)) + min(-1, max(2, 3)) < 2]]");
        rightBan("1 < " + Due.times("max(", 8) + "1" + Due.times(",1)", 8));
        wrongBan("1 < " + Due.times("max(", 8) + "-1" + Due.times(",1)", 8), 1, 4 + 8 * 4);
        wrongBan("1 < " + Due.times("max(1,", 8) + "-1" + Due.times(")", 8), 1, 4 + 8 * 6);
        rightBan("not [not [-(-(1)) + min(-1, max(2, -(3))) < 2]]");
        wrongBan("not [not [-(-(1)) + min(-1, max(2, -(-3))) < 2]]", 1, 37);
        wrongBan("not [not [1 < 2 and -(-(-(2))) < 2]]", 1, 24);
        // Behind what was turned, and behind a closing sign, the depth is as before.
        rightBan(Due.times("-", 8) + "1 - " + Due.times("-", 8) + "1 * " + Due.times("-", 8) + "1 < " + Due.times("(", 8) + "1" + Due.times(")", 8));
        rightBan(Due.times("not ", 8) + "built p and " + Due.times("not ", 8) + "built p or " + Due.times("[", 8) + "built p" + Due.times("]", 8));
        wrongBan(Due.times("not ", 8) + "-1 < 2", 1, 32);
        rightBan(Due.times("not ", 8) + "1 - 1 < 2");
        wrongBan(Due.times("not ", 7) + "(-1) < 2", 1, 29);
        // Too deep is error 1, ahead of a name that nobody told.
        Due.error("ban x when " + Due.times("[", 9), 1, 19);
    }

    private static void limits() {
        // Two lines of 5 tokens and 130 of 3 are 400.
        String full = "ward a cap 1;ward b cap 1;" + Due.times("budget 1;", 130);
        Due.right(full);
        Due.right(full + " \n ");
        Due.error(full + " budget 1;", 1, full.length() + 1);
        Due.error(full + " ;", 1, full.length() + 1);
        Due.error(full + " ?", 1, full.length() + 1);
        Due.error(Due.times("budget 1;", 133) + " budget", 1, 133 * 9 + 7);
        Due.error(Due.times("budget 1;", 133) + " budget 7", 1, 133 * 9 + 8);
        Due.error(Due.times("budget 1;", 133) + " budget 7 8", 1, 133 * 9 + 8);
        Due.right(BASE + "ban p when 1" + Due.times("+1", 187) + "<2;");
        wrongBan("1" + Due.times("+1", 188) + "<2", 1, 378);
        wrongBan("1" + Due.times("+1", 250) + "<2", 1, 378);
        // It is told ahead of any other error but error 1.
        Due.error("ward a cap 99;ward a cap 1;" + Due.times("budget 1;", 130) + "budget 1;", 1, 27 + 130 * 9);
    }

    private static void names() {
        Due.error("ward a cap 1; ward a cap 2;", 2, 19);
        Due.error(BASE + "project p cost 5 in a grows 0;", 2, BASE.length() + 8);
        Due.error(BASE + "voter v;", 2, BASE.length() + 6);
        // The same name for three sorts is right.
        Due.right("ward a cap 1; project a cost 1 in a grows 0; voter a likes a; ban a when likes a a and purse a < cost a;");
        Due.error("project p cost 5 in a grows 0; ward a cap 1;", 3, 20);
        Due.error(BASE + "project q cost 5 in p grows 0;", 3, BASE.length() + 20);
        Due.error(BASE + "project q cost 5 in v grows 0;", 3, BASE.length() + 20);
        Due.error("voter v likes p; ward a cap 1; project p cost 5 in a grows 0;", 3, 14);
        Due.error(BASE + "voter w likes p q;", 3, BASE.length() + 16);
        Due.error(BASE + "voter w likes v;", 3, BASE.length() + 14);
        Due.error(BASE + "ban q when 1 < 2;", 3, BASE.length() + 4);
        Due.error(BASE + "ban v when 1 < 2;", 3, BASE.length() + 4);
        Due.error("ban a when 1 < 2;", 3, 4);
        wrongBan("built v", 3, 6);
        wrongBan("built a", 3, 6);
        wrongBan("likes p p", 3, 6);
        wrongBan("likes v v", 3, 8);
        wrongBan("likes p v", 3, 6);
        wrongBan("cost v < 1", 3, 5);
        wrongBan("fans v < 1", 3, 5);
        wrongBan("purse p < 1", 3, 6);
        wrongBan("pleased p < 1", 3, 8);
        wrongBan("1 < purse q", 3, 10);
        Due.right("ward a cap 1; ward b cap 1; ward c cap 1; ward d cap 1;");
        Due.error("ward a cap 1; ward b cap 1; ward c cap 1; ward d cap 1; ward e cap 1;", 4, 61);
        // Of errors at one token the one with the smallest number.
        Due.error("ward a cap 1; ward b cap 1; ward c cap 1; ward d cap 1; ward d cap 1;", 2, 61);
        StringBuilder list = new StringBuilder("ward a cap 1;");
        StringBuilder voters = new StringBuilder();
        StringBuilder bans = new StringBuilder("ward a cap 1; project p cost 1 in a grows 0;");
        for (int i = 0; i < 12; i++) {
            list.append("project p").append(i).append(" cost 1 in a grows 0;");
            voters.append("voter v").append(i).append(';');
            bans.append("ban p when 1<").append(i).append(';');
        }
        Due.right(list.toString());
        Due.error(list + "project x cost 1 in a grows 0;", 4, list.length() + 8);
        Due.error(list + "project p0 cost 1 in a grows 0;", 2, list.length() + 8);
        Due.right(voters.toString());
        Due.error(voters + "voter x;", 4, voters.length() + 6);
        Due.error(voters + "voter v11;", 2, voters.length() + 6);
        Due.right(bans.toString());
        Due.error(bans + "ban p when 1<2;", 4, bans.length());
        // The word ban is ahead of the name behind it.
        Due.error(bans + "ban x when 1<2;", 4, bans.length());
    }

    private static void ranges() {
        Due.right("ward a cap 0; ward b cap 12;");
        Due.error("ward a cap 13;", 5, 11);
        Due.error("ward a cap 999999;", 5, 11);
        String ward = "ward a cap 1;";
        Due.right(ward + "project p cost 1 in a grows 0; project q cost 999 in a grows 50;");
        Due.error(ward + "project p cost 0 in a grows 0;", 5, 28);
        Due.error(ward + "project p cost 1000 in a grows 0;", 5, 28);
        Due.error(ward + "project p cost 1 in a grows 51;", 5, 41);
        Due.right("budget 0; budget 9999;");
        Due.error("budget 10000;", 5, 7);
        Due.error("budget 1; budget 10000; budget 2;", 5, 17);
        Due.error(BASE + "voter w likes p p;", 5, BASE.length() + 16);
        // The same project in two lines is right.
        Due.right(BASE + "voter w likes p; voter x likes p;");
        // Numbers of tests have no range of their own.
        rightBan("999999 < 0");
    }

    private static void order() {
        // Error 1 at the end is told ahead of all others.
        Due.error("ward a cap 99; ward a cap 1; ban x when 1 < 2", 1, 45);
        // Of the others the leftmost one.
        Due.error("ward a cap 99; ward a cap 1;", 5, 11);
        Due.error("ward a cap 1; ward a cap 99;", 2, 19);
        Due.error("ward a cap 1; project p cost 0 in b grows 99;", 5, 29);
        Due.error("ward a cap 1; project p cost 1 in b grows 99;", 3, 34);
        Due.error(BASE + "voter v likes q;", 2, BASE.length() + 6);
        Due.error(BASE + "voter w likes q p p;", 3, BASE.length() + 14);
        Due.error(BASE + "voter w likes p p q;", 5, BASE.length() + 16);
        Due.error(BASE + "ban p when built x or likes y z;", 3, BASE.length() + 17);
        Due.error(BASE + "ban p when likes y z;", 3, BASE.length() + 17);
    }

    private static void stays() {
        BudgetJury jury = Due.taught(BASE + "voter w; budget 41; ban p when year > 9;");
        jury.pass(3);
        Due.same("the pot", jury.count(6), 3);
        jury.give(0, 7);
        long before = jury.digest();
        Due.same("a wrong list", Due.teach(jury, "ward x cap 1; ward y cap 3; project q cost 1 in x grows 0; voter x likes p;"), 3);
        Due.same("its position", jury.errorAt(), 73);
        Due.same("all stays", jury.digest(), before);
        Due.same("another wrong list", Due.teach(jury, "budget 3; budget"), 1);
        Due.same("its position", jury.errorAt(), 16);
        Due.same("all stays", jury.digest(), before);
        Due.same("the year", jury.count(0), 3);
        Due.same("a right list", Due.teach(jury, "ward x cap 2; ward y cap 3; project q cost 9 in y grows 4; voter z;"), 0);
        Due.same("its position", jury.errorAt(), -1);
        Due.same("the year stays", jury.count(0), 3);
        int[] all = {3, 2, 1, 1, 0, 100, 0, 0, 0, 0, 0, 0};
        for (int what = 0; what < all.length; what++) {
            Due.same("count(" + what + ") of the new list", jury.count(what), all[what]);
        }
        Due.same("the ward of q", jury.project(0, 1), 1);
        Due.same("q is open", jury.project(0, 4), -1);
        Due.same("what z paid", jury.voter(0, 3), 0);
        Due.same("z likes nothing", jury.likes(0, 0), false);
    }

    /** Nothing of a list stays for the ones behind it, however many there are. */
    private static void oneAfterAnother() {
        BudgetJury jury = new BudgetJury();
        String tests = "ban p when 1 = 1" + Due.times(" and 1 = 1", 40) + "; ban p when 1 = 2;";
        for (int i = 0; i < 20; i++) {
            Due.same("a long list", Due.teach(jury, BASE + "voter w; budget 7;" + tests), 0);
            Due.same("p is banned", jury.project(0, 6), 1);
            Due.same("bans", jury.count(4), 2);
            Due.same("the budget", jury.count(5), 7);
            Due.same("fans of p", jury.project(0, 3), 1);
            Due.same("a wrong list", Due.teach(jury, BASE + "ban p when 1 = 1; ban p when 1"), 1);
            Due.same("p is still banned", jury.project(0, 6), 1);
            Due.same("another wrong list", Due.teach(jury, BASE + "budget 9; ban p when 1 = 2; voter w likes q;"), 3);
            Due.same("p is still banned", jury.project(0, 6), 1);
            jury.pass(1);
            Due.same("the pot", jury.count(6), 1);
            Due.same("a short list", Due.teach(jury, "ward a cap 1; project p cost 5 in a grows 0; voter v; ban p when 1 = 2;"), 0);
            Due.same("p is not banned", jury.project(0, 6), 0);
            Due.same("bans", jury.count(4), 1);
            Due.same("the budget", jury.count(5), 100);
            Due.same("the pot", jury.count(6), 0);
            Due.same("fans of p", jury.project(0, 3), 0);
            jury.pass(1);
            Due.same("an empty list", Due.teach(jury, ""), 0);
            Due.same("bans", jury.count(4), 0);
        }
    }
}
