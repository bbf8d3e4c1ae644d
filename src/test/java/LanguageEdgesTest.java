import java.util.Arrays;
import java.util.List;

/**
 * 'Terms' and '1. The language' of the document, with promises 2 to 5, in its order: for each sentence that
 * names an edge, the last that is still taken and the first that is not, on both sides.
 */
public final class LanguageEdgesTest {
    private static final String BASE = "ward a cap 1;project p cost 5 in a grows 0;voter v likes p;";
    private static final String MOST = "(2147*1000*1000+483647)";
    private static final String LEAST = "(-2147*1000*1000-483648)";
    private static final String BLANKS = Due.times(" ", 2000);
    private static final List<String> KEYWORDS = Arrays.asList(("ward cap project cost in grows voter likes budget ban "
        + "when year pot purse fans built pleased not and or min max").split(" "));

    public static void main(String[] args) {
        sumsWrapAround();
        differencesWrapAround();
        productsWrapAround();
        quotientsAreCut();
        quotientsWithNothingOnTheRight();
        quotientOfTheLeastNumber();
        comparisonsOfFarNumbers();
        positionsAreCountedInBytes();
        theTapeIsEmptyAtFirst();
        theTapeIsEmptyBehindTeach();
        aTapeOfAllItsBytes();
        feedPutsTheHighestByteFirst();
        feedUpToTheFullTape();
        trimToEachLength();
        everyByteInEveryPlace();
        blanksBetweenTokens();
        theLongestTokenIsRead();
        lengthsOfWords();
        namesDifferByEachSign();
        lengthsOfNumbers();
        keywordsAreNoNames();
        everyBeginningOfAList();
        noneAndManyInTheGrammar();
        depthOfEachOpening();
        depthBehindAClosing();
        tokensUpTo400();
        errorOneAheadOfAllOthers();
        fromLeftToRight();
        theSmallestErrorOfAToken();
        errorTwo();
        errorThree();
        errorFour();
        errorFive();
        numberedAsTold();
        theLatestBudget();
        errorAtOfTheLatestTeach();
        allBeginsAnewButTheYear();
        allStaysWithAnError();
        listsOneAfterAnother();
        testsOneAfterAnother();
        Due.end();
    }

    // ---- Terms

    private static void test(String test, boolean due) {
        Due.same(test, Due.taught(BASE + "ban p when " + test + ";").project(0, 6), due ? 1 : 0);
    }

    private static void equal(String left, String right) {
        test(left + " = " + right, true);
        test(left + " < " + right + " or " + left + " > " + right, false);
    }

    private static void sumsWrapAround() {
        equal(MOST + " + 0", MOST);
        test(MOST + " > 0", true);
        equal(MOST + " + 1", LEAST);
        test(MOST + " + 1 < 0", true);
        equal(MOST + " + " + MOST, "-2");
        equal(LEAST + " + 0", LEAST);
        test(LEAST + " < 0", true);
        equal(LEAST + " + -1", MOST);
        equal(LEAST + " + " + LEAST, "0");
        equal(MOST + " + 1 + -1", MOST);
    }

    private static void differencesWrapAround() {
        equal(LEAST + " + 1 - 1", LEAST);
        equal(LEAST + " - 1", MOST);
        test(LEAST + " - 1 > 0", true);
        equal(MOST + " - 1 - -1", MOST);
        equal(MOST + " - -1", LEAST);
        equal("0 - " + MOST, LEAST + " + 1");
        equal("0 - " + LEAST, LEAST);
        equal("-1 - " + LEAST, MOST);
        equal("-" + MOST, LEAST + " + 1");
        equal("-" + LEAST, LEAST);
        equal("--" + LEAST, LEAST);
    }

    private static void productsWrapAround() {
        equal("46340 * 46340", "2147 * 1000 * 1000 + 395600");
        test("46340 * 46340 > 0", true);
        equal("46341 * 46341", "-2147 * 1000 * 1000 - 479015");
        equal("-46340 * 46341", "-2147 * 1000 * 1000 - 441940");
        equal("-46341 * 46341", "2147 * 1000 * 1000 + 479015");
        equal("65536 * 32767 + 65535", MOST);
        equal("65536 * 32768", LEAST);
        equal("-65536 * 32768", LEAST);
        equal("65536 * 65536", "0");
        equal(LEAST + " * -1", LEAST);
        equal("-1 * " + LEAST, LEAST);
        equal(LEAST + " * 2", "0");
        equal(MOST + " * 2", "-2");
        equal(MOST + " * " + MOST, "1");
        equal("999999 * 999999", "-729 * 1000 * 1000 - 379967");
    }

    private static void quotientsAreCut() {
        equal("6 / 2", "3");
        equal("7 / 2", "3");
        equal("8 / 2", "4");
        equal("-7 / 2", "-3");
        equal("-8 / 2", "-4");
        equal("7 / -2", "-3");
        equal("-7 / -2", "3");
        equal("1 / 2", "0");
        equal("-1 / 2", "0");
        equal("1 / -2", "0");
        equal("0 / 2", "0");
        equal("999998 / 999999", "0");
        equal("999999 / 999999", "1");
        equal("1 / " + MOST, "0");
        equal("-1 / " + MOST, "0");
        equal(MOST + " / 1", MOST);
    }

    private static void quotientsWithNothingOnTheRight() {
        for (String left : new String[] {"0", "1", "-1", "999999", MOST, LEAST}) {
            equal(left + " / 0", "0");
            equal(left + " / (1 - 1)", "0");
            equal(left + " / year", "0");
            equal("7 + " + left + " / pot * 3", "7");
        }
        equal("5 / 1", "5");
        equal("5 / -1", "-5");
        equal("0 / 1", "0");
    }

    private static void quotientOfTheLeastNumber() {
        equal(LEAST + " / -1", LEAST);
        equal("(" + LEAST + " + 1) / -1", MOST);
        equal(MOST + " / -1", LEAST + " + 1");
        equal(LEAST + " / 1", LEAST);
        equal(LEAST + " / " + LEAST, "1");
        equal(LEAST + " / 2", "-1024 * 1024 * 1024");
        equal(LEAST + " / -2", "1024 * 1024 * 1024");
    }

    /** Their difference does not fit into 32 bits, but they are no difference. */
    private static void comparisonsOfFarNumbers() {
        test(LEAST + " < " + MOST, true);
        test(LEAST + " <= " + MOST, true);
        test(LEAST + " > " + MOST, false);
        test(LEAST + " >= " + MOST, false);
        test(MOST + " > " + LEAST, true);
        test(MOST + " >= " + LEAST, true);
        test(MOST + " < " + LEAST, false);
        test(MOST + " <= " + LEAST, false);
        test(MOST + " = " + LEAST, false);
        test(LEAST + " < 1", true);
        test("1 < " + LEAST, false);
        equal("min(" + LEAST + ", " + MOST + ")", LEAST);
        equal("min(" + MOST + ", " + LEAST + ")", LEAST);
        equal("max(" + LEAST + ", " + MOST + ")", MOST);
        equal("max(" + MOST + ", " + LEAST + ")", MOST);
        for (String[] row : new String[][] {{"1", "2", "110"}, {"2", "2", "011"}, {"3", "2", "000"}}) {
            test(row[0] + " < " + row[1], row[2].equals("110"));
            test(row[0] + " <= " + row[1], row[2].charAt(1) == '1');
            test(row[0] + " = " + row[1], row[2].equals("011"));
            test(row[0] + " >= " + row[1], row[2].charAt(0) == '0');
            test(row[0] + " > " + row[1], row[2].equals("000"));
        }
    }

    private static void positionsAreCountedInBytes() {
        Due.error("?", 1, 0);
        Due.error(" ?", 1, 1);
        Due.error("\n?", 1, 1);
        Due.error("\n \n?", 1, 3);
        Due.error("budget 1;\nbudget 2;\n?", 1, 20);
        Due.error(BLANKS.substring(0, 1999) + "?", 1, 1999);
        Due.error(BLANKS.substring(0, 1998) + "a?", 1, 1998);
        Due.error("\u00ff", 1, 0);
        Due.error("ward \u00ff\u00fe", 1, 5);
        Due.error("ward a\u00ff", 1, 6);
        Due.error("budget 99999;", 5, 7);
    }

    // ---- the tape

    private static void theTapeIsEmptyAtFirst() {
        BudgetJury jury = new BudgetJury();
        Due.same("bytes at first", jury.count(11), 0);
        Due.thrown("trim(1) at first", IllegalArgumentException.class, () -> jury.trim(1));
        Due.same("trim(0) at first", jury.trim(0), 0);
        Due.same("teach of an empty tape", jury.teach(), 0);
        Due.same("its error", jury.errorAt(), -1);
        Due.same("the first feed", jury.feed(0, 0, 0, 0, 0), 20);
    }

    private static void theTapeIsEmptyBehindTeach() {
        String wards = "ward a cap 1;ward b cap 1;ward c cap 1;ward d cap 1;";
        String[] lists = {BASE, "budget", "voter v;voter v;", "ban p when 1<2;", wards + "ward e cap 1;", "budget 10000;"};
        BudgetJury jury = new BudgetJury();
        for (int error = 0; error <= 5; error++) {
            Due.same("teach", Due.teach(jury, lists[error]), error);
            Due.same("bytes behind the error " + error, jury.count(11), 0);
            Due.thrown("trim(1)", IllegalArgumentException.class, () -> jury.trim(1));
            Due.same("a feed behind the error " + error, jury.feed(0x62756467, 0x65742037, 0x3b202020, 0x20202020, 0x20202020), 20);
            Due.same("teach of what was fed", jury.teach(), 0);
            Due.same("its budget", jury.count(5), 7);
            Due.same("teach of an empty tape", jury.teach(), 0);
            Due.same("nothing told", jury.count(5), 100);
        }
    }

    private static void aTapeOfAllItsBytes() {
        String full = "budget 7" + BLANKS.substring(0, 1991) + ";";
        Due.same("its length", full.length(), 2000);
        BudgetJury jury = Due.taught(full);
        Due.same("the budget of a full tape", jury.count(5), 7);
        Due.error(full.substring(0, 1999), 1, 1999);
        Due.error(full.substring(0, 1999) + "?", 1, 1999);
        Due.error("budget 7" + BLANKS.substring(0, 1992), 1, 2000);
        Due.right(BLANKS);
        Due.right(Due.times("\n", 2000));
        Due.error(Due.times("a", 2000), 1, 0);
        Due.error(Due.times("1", 2000), 1, 0);
        Due.error("ward " + Due.times("a", 1995), 1, 5);
        Due.error("budget " + Due.times("1", 1993), 1, 7);
        Due.error(BLANKS.substring(0, 1991) + "budget 7;".substring(0, 8) + "7", 1, 2000);
        Due.right(BLANKS.substring(0, 1991) + "budget 7;");
    }

    // ---- promise 2

    private static void feedPutsTheHighestByteFirst() {
        for (int at = 0; at < 20; at++) {
            for (int bad : new int[] {0x3f, 0x00, 0x7f, 0x80, 0xff}) {
                int[] numbers = new int[5];
                Arrays.fill(numbers, 0x20202020);
                int shift = 24 - 8 * (at % 4);
                numbers[at / 4] = numbers[at / 4] & ~(255 << shift) | bad << shift;
                BudgetJury jury = new BudgetJury();
                Due.same("feed", jury.feed(numbers[0], numbers[1], numbers[2], numbers[3], numbers[4]), 20);
                Due.same("teach", jury.teach(), 1);
                Due.same("the byte " + bad + " at " + at, jury.errorAt(), at);
            }
        }
    }

    private static void feedUpToTheFullTape() {
        BudgetJury jury = new BudgetJury();
        for (int i = 1; i <= 100; i++) {
            Due.same("feed " + i, jury.feed(0x20202020, 0x20202020, 0x20202020, 0x20202020, 0x20202020), 20 * i);
        }
        Due.thrown("feed with 2000", IllegalStateException.class, () -> jury.feed(-1, -1, -1, -1, -1));
        Due.same("bytes behind it", jury.count(11), 2000);
        for (int kept : new int[] {1999, 1981}) {
            Due.same("trim", jury.trim(kept), kept);
            Due.thrown("feed with " + kept, IllegalStateException.class, () -> jury.feed(-1, -1, -1, -1, -1));
            Due.same("bytes behind it", jury.count(11), kept);
        }
        Due.same("trim", jury.trim(1980), 1980);
        Due.same("feed with 1980", jury.feed(0x20202020, 0x20202020, 0x20202020, 0x20202020, 0x20202020), 2000);
        // What was refused left no byte on the tape.
        Due.same("teach of blanks", jury.teach(), 0);
        Due.same("feed behind it", jury.feed(-1, -1, -1, -1, -1), 20);
        Due.same("teach of it", jury.teach(), 1);
        Due.same("its position", jury.errorAt(), 0);
    }

    // ---- promise 3

    private static void trimToEachLength() {
        String list = "budget 1;budget 22;?";
        // Less than the 6 bytes of "budget" are a name, which is wrong at its beginning.
        int[] at = {-1, 0, 0, 0, 0, 0, 6, 7, 8, -1, 9, 9, 9, 9, 9, 15, 16, 17, 18, -1, 19};
        for (int kept = 0; kept <= 20; kept++) {
            BudgetJury jury = new BudgetJury();
            Due.write(jury, list);
            Due.thrown("trim(21)", IllegalArgumentException.class, () -> jury.trim(21));
            Due.thrown("trim(-1)", IllegalArgumentException.class, () -> jury.trim(-1));
            Due.same("bytes behind wrong trims", jury.count(11), 20);
            Due.same("trim", jury.trim(kept), kept);
            Due.same("bytes behind trim(" + kept + ")", jury.count(11), kept);
            int more = kept + 1;
            Due.thrown("trim(" + more + ") behind it", IllegalArgumentException.class, () -> jury.trim(more));
            Due.same("teach of " + kept + " bytes", jury.teach(), at[kept] < 0 ? 0 : 1);
            Due.same("errorAt of " + kept, jury.errorAt(), at[kept]);
            Due.same("the budget of " + kept, jury.count(5), kept == 9 ? 1 : kept == 19 ? 22 : 100);
        }
        BudgetJury appended = new BudgetJury();
        Due.write(appended, "budget 1;???????????");
        appended.trim(8);
        Due.same("feed behind trim(8)", appended.feed(0x37343b20, 0x20202020, 0x20202020, 0x20202020, 0x20202020), 28);
        Due.same("teach", appended.teach(), 0);
        Due.same("budget 174", appended.count(5), 174);
    }

    // ---- tokens

    private static boolean isBlank(int b) {
        return b == 32 || b == 10;
    }

    private static boolean isLetter(int b) {
        return b >= 97 && b <= 122;
    }

    private static boolean isDigit(int b) {
        return b >= 48 && b <= 57;
    }

    private static void place(String before, int b, String behind, int at) {
        Due.error(before + (char) b + behind, at < 0 ? 0 : 1, at);
    }

    /** Only 32 and 10 are blanks, only 97 to 122 letters, and only 48 to 57 digits. */
    private static void everyByteInEveryPlace() {
        for (int b = 0; b < 256; b++) {
            boolean inWord = isLetter(b) || isDigit(b);
            place("", b, "", isBlank(b) ? -1 : 0);
            place("", b, "budget 1;", isBlank(b) ? -1 : 0);
            place("budget 1;", b, "", isBlank(b) ? -1 : 9);
            place("budget 1;", b, "budget 1;", isBlank(b) ? -1 : 9);
            place("ward", b, "a cap 1;", isBlank(b) ? -1 : inWord ? 0 : 4);
            place("ward ", b, " cap 1;", isLetter(b) ? -1 : isBlank(b) ? 7 : 5);
            place("ward a", b, "b cap 1;", inWord ? -1 : isBlank(b) ? 7 : 6);
            place("ward a", b, " cap 1;", inWord || isBlank(b) ? -1 : 6);
            place("budget 1", b, ";", isBlank(b) || isDigit(b) ? -1 : b == ';' ? 9 : 8);
            place("budget ", b, "2;", isBlank(b) || isDigit(b) ? -1 : 7);
            boolean sign = b == '+' || b == '-' || b == '*' || b == '/';
            boolean relation = b == '<' || b == '>' || b == '=';
            int at = BASE.length() + 12;
            place(BASE + "ban p when 1", b, "2<3;", sign || isDigit(b) ? -1 : isBlank(b) ? at + 1 : relation ? at + 2 : at);
        }
    }

    private static void blanksBetweenTokens() {
        Due.right("ward a cap 1;");
        Due.right(" \n ward \n a \n cap \n 1 \n ; \n ");
        Due.error("warda cap 1;", 1, 0);
        Due.error("ward acap 1;", 1, 10);
        Due.error("ward a cap1;", 1, 7);
        Due.error("ward a cap 1 2;", 1, 13);
        Due.right("ward a cap 12;");
        // Where nothing would be read as one, nothing has to stand.
        Due.right("ward a cap 1;project p cost 1in a grows 0;voter v;ban p when 1<2and-3<4or[not(1)=1];");
        Due.error(BASE + "ban p when 1<2and3<4;", 1, BASE.length() + 14);
        Due.error(BASE + "ban p when not1<2;", 1, BASE.length() + 11);
        Due.error("ward a cap 1;project p cost 1ina grows 0;", 1, 29);
    }

    private static void theLongestTokenIsRead() {
        int at = BASE.length() + 11;
        test("1<=1", true);
        test("1>=1", true);
        test("1<-1", false);
        Due.error(BASE + "ban p when 1< =1;", 1, at + 3);
        Due.error(BASE + "ban p when 1> =1;", 1, at + 3);
        Due.error(BASE + "ban p when 1<\n=1;", 1, at + 3);
        Due.error(BASE + "ban p when 1=<1;", 1, at + 2);
        Due.error(BASE + "ban p when 1=>1;", 1, at + 2);
        Due.error(BASE + "ban p when 1==1;", 1, at + 2);
        Due.error(BASE + "ban p when 1<>1;", 1, at + 2);
        Due.error(BASE + "ban p when 1<<1;", 1, at + 2);
        Due.error(BASE + "ban p when 1>>1;", 1, at + 2);
        Due.error(BASE + "ban p when 1<==1;", 1, at + 3);
        Due.error(BASE + "ban p when 1<", 1, at + 2);
        Due.error(BASE + "ban p when 1<=", 1, at + 3);
        // Not the keyword ward and the name s, nor 1 and 2.
        Due.right("ward wards cap 12;");
        Due.error("wards cap 12;", 1, 0);
        Due.same("12 is one number", Due.taught("ward a cap 12;").ward(0, 0), 12);
    }

    private static void lengthsOfWords() {
        for (String all : new String[] {"abcdefghijk", "a1234567890", "zzzzzzzzzzz", "z9999999999", "a0000000000"}) {
            for (int length = 1; length <= 10; length++) {
                Due.right("ward " + all.substring(0, length) + " cap 1;");
            }
            Due.error("ward " + all + " cap 1;", 1, 5);
            Due.error("ward " + all + "0 cap 1;", 1, 5);
            Due.error("voter " + all + ";", 1, 6);
            Due.error("ward a cap 1;" + all, 1, 13);
            Due.error(BASE + "ban p when built " + all + ";", 1, BASE.length() + 17);
        }
        // Names of 10 bytes differ by each of them, and by their lengths.
        Due.right("ward abcdefghij cap 1;ward abcdefghi0 cap 1;ward bbcdefghij cap 1;ward abcdefghi cap 1;");
        Due.right("ward ab cap 1;ward ba cap 1;ward a cap 1;ward a0 cap 1;");
        Due.right("voter a;voter aa;voter aaa;voter a00;voter a0;voter a000000000;voter z999999999;voter z99999999;voter zzzzzzzzzz;");
        Due.error("ward abcdefghij cap 1;ward abcdefghij cap 1;", 2, 27);
        Due.error("voter z999999999;voter z999999999;", 2, 23);
    }

    private static void namesDifferByEachSign() {
        String signs = "abcdefghijklmnopqrstuvwxyz0123456789";
        for (int i = 0; i < 36; i++) {
            for (int k = 0; k < 36; k++) {
                String list = "voter a" + signs.charAt(i) + "z;voter a" + signs.charAt(k) + "z;";
                Due.error(list, i == k ? 2 : 0, i == k ? 16 : -1);
                for (int first = 1; first <= 10; first++) {
                    Due.right("voter a" + signs.charAt(i) + "z;voter " + signs.charAt(first) + signs.charAt(k) + "z;");
                }
            }
        }
    }

    private static void lengthsOfNumbers() {
        Due.same("1 digit", Due.taught("budget 7;").count(5), 7);
        Due.same("6 digits", Due.taught("budget 009876;").count(5), 9876);
        Due.same("6 digits of nothing", Due.taught("budget 000000;").count(5), 0);
        Due.error("budget 0009876;", 1, 7);
        Due.error("budget 0000000;", 1, 7);
        Due.error("budget 1000000;", 1, 7);
        Due.error("budget 999999;", 5, 7);
        Due.error("budget ;", 1, 7);
        // Numbers that would be 7 in 32 and in 64 bits.
        Due.error("budget 4294967303;", 1, 7);
        Due.error("budget 18446744073709551623;", 1, 7);
        test("999999 = 1000 * 1000 - 1", true);
        test("000000 = 0", true);
        Due.error(BASE + "ban p when 1000000 > 1;", 1, BASE.length() + 11);
        Due.error(BASE + "ban p when 0000001 > 1;", 1, BASE.length() + 11);
        // A number ends behind its digits; what stands there is another token.
        Due.error("budget 123456a;", 1, 13);
    }

    private static void keywordsAreNoNames() {
        Due.same("keywords", KEYWORDS.size(), 22);
        for (String keyword : KEYWORDS) {
            String shorter = keyword.substring(0, keyword.length() - 1);
            Due.error("ward " + keyword + " cap 1;", 1, 5);
            Due.error("ward a cap 1;project " + keyword + " cost 1 in a grows 0;", 1, 21);
            Due.error("voter " + keyword + ";", 1, 6);
            Due.error("ban " + keyword + " when 1<2;", 1, 4);
            for (String name : new String[] {shorter, keyword + "s", keyword + "0", keyword + keyword.charAt(0)}) {
                Due.right("ward " + name + " cap 1;project " + name + " cost 1 in " + name + " grows 0;voter " + name
                    + " likes " + name + ";ban " + name + " when built " + name + ";");
            }
        }
    }

    // ---- the grammar

    /** Each place of the grammar: what may stand there, what may not, and the end of the tape. */
    private static void everyBeginningOfAList() {
        String[] tokens = ("ward a cap 1 ; project p cost 5 in a grows 0 ; project q cost 5 in a grows 0 ; voter v ; voter u likes p q ; "
            + "budget 9 ; ban p when not [ built p or likes u q and 1 < 2 ] and year + pot - 3 >= cost p * fans q / 2 ; "
            + "ban q when purse v <= pleased u or - ( 1 + 2 ) = min ( 1 , 2 - 3 ) ; ban q when max ( - 1 , ( 2 ) ) > 3 ;").split(" ");
        StringBuilder list = new StringBuilder();
        for (String token : tokens) {
            int length = list.length();
            boolean ends = length == 0 || list.charAt(length - 2) == ';';
            Due.error(list.toString(), ends ? 0 : 1, ends ? -1 : length);
            for (String wrong : new String[] {"?", "abcdefghijk", "1234567", "cap cap", ", ,", "\u00e4"}) {
                if (!wrong.startsWith(token) && !(wrong + " ").startsWith(token + " ")) {
                    Due.error(list + wrong, 1, length);
                }
            }
            list.append(token).append(' ');
        }
        Due.right(list.toString());
    }

    private static void noneAndManyInTheGrammar() {
        // list: no line, one, and as many as 400 tokens hold
        Due.right("");
        Due.right("budget 1;");
        Due.right(Due.times("budget 1;", 133));
        Due.error(";", 1, 0);
        Due.error("budget 1;;", 1, 9);
        // voter: no likes, and 1 to 12 names behind it, but not none
        StringBuilder projects = new StringBuilder("ward a cap 1;");
        for (int i = 0; i < 12; i++) {
            projects.append("project p").append(i).append(" cost 1 in a grows 0;");
        }
        Due.same("no likes", Due.taught(projects + "voter v;").voter(0, 1), 0);
        Due.error(projects + "voter v likes;", 1, projects.length() + 13);
        StringBuilder names = new StringBuilder();
        for (int i = 0; i < 12; i++) {
            names.append(" p").append(i);
            Due.same("likes" + names, Due.taught(projects + "voter v likes" + names + ";").voter(0, 1), i + 1);
        }
        // test, both, sum and product: one, and many
        test("1=1" + Due.times(" or 1=1", 90), true);
        test("1=2" + Due.times(" or 1=2", 90), false);
        test("1=2" + Due.times(" or 1=2", 89) + " or 1=1", true);
        test("1=1" + Due.times(" and 1=1", 90), true);
        test("1=1" + Due.times(" and 1=1", 89) + " and 1=2", false);
        test("1" + Due.times("+1", 180) + "=181", true);
        test("1" + Due.times("-1", 180) + "=-179", true);
        test("1" + Due.times("*1", 180) + "=1", true);
        test("1" + Due.times("/1", 180) + "=1", true);
        // What is told first is reckoned first.
        test("100 - 10 - 1 = 89", true);
        test("100 / 10 / 2 = 5", true);
        test("7 / 2 * 2 = 6", true);
        test("2 * 7 / 4 = 3", true);
        test("1 - 2 + 3 = 2", true);
        test("2 + 3 * 4 - 10 / 5 = 12", true);
        test("-2 - -3 = 1", true);
        test("-2 * -3 = 6", true);
        bindings();
    }

    private static void bindings() {
        for (int bits = 0; bits < 8; bits++) {
            boolean a = (bits & 1) != 0;
            boolean b = (bits & 2) != 0;
            boolean c = (bits & 4) != 0;
            String x = a ? "1=1" : "1=2";
            String y = b ? "1=1" : "1=2";
            String z = c ? "1=1" : "1=2";
            test(x + " or " + y + " and " + z, a || b && c);
            test(x + " and " + y + " or " + z, a && b || c);
            test("[" + x + " or " + y + "] and " + z, (a || b) && c);
            test("not " + x + " and " + y + " or not " + z, !a && b || !c);
            test("not [" + x + " and " + y + "] and " + z, !(a && b) && c);
            test(x + " or 1/0=" + (b ? 0 : 1), a || b);
            test(x + " and 1/0=" + (b ? 0 : 1), a && b);
            test("not not " + x + " or not [not " + y + " or " + z + "]", a || !(!b || c));
        }
    }

    // ---- depth

    private static void ban(String test, int at) {
        Due.error(BASE + "ban p when " + test + ";", at < 0 ? 0 : 1, at < 0 ? -1 : BASE.length() + 11 + at);
    }

    private static void depthOfEachOpening() {
        for (int depth = 1; depth <= 8; depth++) {
            ban(Due.times("(", depth) + "1" + Due.times(")", depth) + "=1", -1);
            ban(Due.times("[", depth) + "1=1" + Due.times("]", depth), -1);
            ban(Due.times("-", depth) + "1=1", -1);
            ban(Due.times("not ", depth) + "1=1", -1);
            ban(Due.times("min(1,", depth) + "1" + Due.times(")", depth) + "=1", -1);
            ban(Due.times("max(", depth) + "1" + Due.times(",1)", depth) + "=1", -1);
        }
        ban(Due.times("(", 9) + "1" + Due.times(")", 9) + "=1", 8);
        ban(Due.times("[", 9) + "1=1" + Due.times("]", 9), 8);
        ban(Due.times("-", 9) + "1=1", 8);
        ban(Due.times("not ", 9) + "1=1", 32);
        ban(Due.times("min(1,", 9) + "1" + Due.times(")", 9) + "=1", 51);
        ban(Due.times("max(", 9) + "1" + Due.times(",1)", 9) + "=1", 35);
        // Each of them at the depth of 8, reached by each other one.
        String[] openings = {"not ", "[", "(", "-", "max("};
        String[] last = {"not 1=1", "[1=1]", "(1)=1", "-1=1", "max(1,1)=1"};
        for (int i = 0; i < 5; i++) {
            for (int k = 0; k < 2; k++) {
                ban(Due.times(openings[k], 7) + last[i] + Due.times("]", 7 * k), -1);
                ban(Due.times(openings[k], 8) + last[i] + Due.times("]", 8 * k), openings[k].length() * 8 + (i == 4 ? 3 : 0));
            }
        }
        // On the right of a sign as well, and in the second place of a min.
        ban("1=" + Due.times("-", 9) + "1", 10);
        ban("1+2*" + Due.times("(", 9) + "1", 12);
        ban("1=1 or 1=1 and " + Due.times("[", 9) + "1", 23);
        ban("[[[[[[[min(1,-1)=1]]]]]]]", 13);
        ban("[[[[[[min(1,-1)=1]]]]]]", -1);
        ban("[[[[[[[min(-1,1)=1]]]]]]]", 11);
    }

    private static void depthBehindAClosing() {
        String eight = Due.times("(", 8) + "1" + Due.times(")", 8);
        ban(eight + "+" + eight + "*" + eight + "=" + eight, -1);
        ban(eight + "=1 and " + Due.times("[", 8) + "1=1" + Due.times("]", 8) + " or " + Due.times("not ", 8) + "1=1 and " + eight + "=1", -1);
        // Behind what a - or a not turned, the depth is as before.
        ban(Due.times("-", 8) + "1-" + Due.times("-", 8) + "1=1", -1);
        ban("-1*" + eight + "=1", -1);
        ban("not 1=1 and " + Due.times("not ", 8) + "1=1", -1);
        ban("not 1=1 or " + Due.times("[", 8) + "1=1" + Due.times("]", 8), -1);
        ban("not -1=" + Due.times("-", 7) + "1", -1);
        ban("not -1=" + Due.times("-", 8) + "1", 14);
        ban("min(" + Due.times("(", 7) + "1" + Due.times(")", 7) + "," + Due.times("(", 7) + "1" + Due.times(")", 7) + ")=" + eight, -1);
        ban("min(1," + Due.times("(", 8) + "1" + Due.times(")", 8) + ")=1", 13);
        // A - between two values is no opening.
        ban(Due.times("(", 8) + "1-1-1-1" + Due.times(")", 8) + "-1=1", -1);
        // The depth begins anew in each ban.
        Due.right(BASE + Due.times("ban p when " + eight + "=1;", 2));
    }

    // ---- error 1

    private static void tokensUpTo400() {
        // 10 tokens of two wards, and 130 lines of 3
        String full = "ward a cap 1;ward b cap 1;" + Due.times("budget 1;", 130);
        int end = full.length();
        Due.right(full);
        Due.right(full + " \n");
        for (String more : new String[] {"budget 1;", ";", "?", "a", "1", "abcdefghijk", "1234567", "(", "\u00ff"}) {
            Due.error(full + more, 1, end);
            Due.error(full + "\n " + more, 1, end + 2);
        }
        // The end of the tape is not counted: behind 399 and 400 tokens it is told as the end.
        String lines = Due.times("budget 1;", 133);
        Due.right(lines);
        Due.error(lines + "budget", 1, lines.length() + 6);
        Due.error(lines + "budget ", 1, lines.length() + 7);
        Due.error(lines + "budget 1", 1, lines.length() + 7);
        Due.error(lines + "ward", 1, lines.length() + 4);
        // BASE has 5 + 9 + 5 tokens, a ban 3 and its ; so 377 are left for its test.
        test("1" + Due.times("+1", 187) + "=188", true);
        ban("1" + Due.times("+1", 188) + "=1", 378);
        ban("1=1" + Due.times("+1", 187), -1);
        ban("1=1" + Due.times("+1", 188), 378);
        // A wrong one ahead of it is told.
        Due.error("ward a cap 1;ward b cap;" + Due.times("budget 1;", 140), 1, 23);
        Due.error(Due.times(";", 2000), 1, 0);
    }

    private static void errorOneAheadOfAllOthers() {
        String[] others = {"ward a cap 1;", "ban z when 1<2;", "ward b cap 1;ward c cap 1;ward d cap 1;ward e cap 1;", "budget 10000;"};
        int[] at = {5, 4, 44, 7};
        for (int i = 0; i < 4; i++) {
            String list = BASE + others[i];
            Due.error(list + "?", 1, list.length());
            Due.error(list + "budget 1", 1, list.length() + 8);
            Due.error(list + "ban z when (((((((((1=1;", 1, list.length() + 19);
            String full = filledTo400(list);
            Due.error(full, i + 2, BASE.length() + at[i]);
            Due.error(full + "budget 1;", 1, full.length());
        }
    }

    /** Lines of 7 and of 3 tokens behind a list, so that there are 400 in all. */
    private static String filledTo400(String list) {
        int rest = 400 - tokensOf(list);
        int bans = rest % 3;
        return list + Due.times("ban p when 1<2;", bans) + Due.times("budget 1;", (rest - 7 * bans) / 3);
    }

    private static int tokensOf(String list) {
        return list.replace(";", " ; ").replace("<", " < ").trim().split(" +").length;
    }

    // ---- errors 2 to 5

    private static void fromLeftToRight() {
        String base = "ward a cap 1;ward b cap 1;ward c cap 1;ward d cap 1;";
        String[] lines = {"voter v;voter v;", "ban z when 1<2;", "ward e cap 1;", "budget 10000;"};
        int[] at = {14, 4, 5, 7};
        for (int i = 0; i < 4; i++) {
            Due.error(base + lines[i], i + 2, base.length() + at[i]);
            for (int k = 0; k < 4; k++) {
                Due.error(base + lines[i] + lines[k], i + 2, base.length() + at[i]);
                Due.error(base + "budget 1;" + lines[i] + "budget 1;" + lines[k], i + 2, base.length() + 9 + at[i]);
            }
        }
        // Within a line of a project: its name, its cost, its ward, its grows.
        int name = BASE.length() + 8;
        Due.error(BASE + "project p cost 0 in z grows 51;", 2, name);
        Due.error(BASE + "project q cost 0 in z grows 51;", 5, name + 7);
        Due.error(BASE + "project q cost 1 in z grows 51;", 3, name + 12);
        Due.error(BASE + "project q cost 1 in a grows 51;", 5, name + 20);
        Due.right(BASE + "project q cost 1 in a grows 50;");
        Due.error(BASE + "ward a cap 13;", 2, BASE.length() + 5);
        Due.error(BASE + "voter v likes z;", 2, BASE.length() + 6);
        Due.error(BASE + "voter w likes z p p;", 3, BASE.length() + 14);
        Due.error(BASE + "voter w likes p z p;", 3, BASE.length() + 16);
        Due.error(BASE + "voter w likes p p z;", 5, BASE.length() + 16);
        Due.error(BASE + "ban z when built y;", 3, BASE.length() + 4);
        Due.error(BASE + "ban p when built z and built y;", 3, BASE.length() + 17);
        Due.error(BASE + "ban p when likes z y;", 3, BASE.length() + 17);
        Due.error(BASE + "ban p when likes v y;", 3, BASE.length() + 19);
    }

    private static void theSmallestErrorOfAToken() {
        String wards = "ward a cap 1;ward b cap 1;ward c cap 1;ward d cap 1;";
        Due.error(wards + "ward a cap 1;", 2, wards.length() + 5);
        Due.error(wards + "ward d cap 99;", 2, wards.length() + 5);
        Due.error(wards + "ward e cap 99;", 4, wards.length() + 5);
        StringBuilder projects = new StringBuilder("ward a cap 1;");
        StringBuilder voters = new StringBuilder();
        for (int i = 0; i < 12; i++) {
            projects.append("project p").append(i).append(" cost 1 in a grows 0;");
            voters.append("voter v").append(i).append(';');
        }
        for (int i = 0; i < 12; i++) {
            Due.error(projects + "project p" + i + " cost 1 in a grows 0;", 2, projects.length() + 8);
            Due.error(voters + "voter v" + i + ";", 2, voters.length() + 6);
        }
        Due.error(projects + "project p cost 1 in a grows 0;", 4, projects.length() + 8);
        Due.error(voters + "voter v;", 4, voters.length() + 6);
    }

    private static void errorTwo() {
        Due.error("ward a cap 1;ward a cap 1;", 2, 18);
        Due.error(BASE + "project p cost 1 in a grows 0;", 2, BASE.length() + 8);
        Due.error(BASE + "voter v;", 2, BASE.length() + 6);
        Due.error(BASE + "voter u;voter v;", 2, BASE.length() + 14);
        // Of another sort it is no error, and neither behind another word.
        Due.right(BASE + "ward p cap 1;ward v cap 1;project a cost 1 in p grows 0;project v cost 1 in v grows 0;voter a;voter p likes a v;");
        Due.right(BASE + "ban p when 1<2;ban p when 1<2;");
        Due.right("budget 1;budget 1;");
    }

    /** Each place of a name that has to be told: {ahead of it, behind it, its sort}. */
    private static final String[][] PLACES = {{"project z cost 5 in ", " grows 0;", "ward"}, {"voter z likes ", ";", "project"},
        {"voter z likes p ", ";", "project"}, {"ban ", " when 1<2;", "project"}, {"ban p when built ", ";", "project"},
        {"ban p when cost ", "<1;", "project"}, {"ban p when 1<cost ", ";", "project"}, {"ban p when fans ", "<1;", "project"},
        {"ban p when likes v ", ";", "project"}, {"ban p when likes ", " p;", "voter"}, {"ban p when purse ", "<1;", "voter"},
        {"ban p when pleased ", "<1;", "voter"}, {"ban p when not[1<2 or min(1,-purse ", ")<1];", "voter"}};

    private static void errorThree() {
        String[] lines = {"ward x cap 1;", "project x cost 5 in a grows 0;", "voter x;"};
        String[] sorts = {"ward", "project", "voter"};
        for (String[] place : PLACES) {
            String line = place[0] + "x" + place[1];
            int at = BASE.length() + place[0].length();
            Due.error(BASE + line, 3, at);
            StringBuilder others = new StringBuilder();
            for (int i = 0; i < 3; i++) {
                boolean is = sorts[i].equals(place[2]);
                // told ahead, of this sort or of another one; told behind it
                Due.error(BASE + lines[i] + line, is ? 0 : 3, is ? -1 : at + lines[i].length());
                Due.error(BASE + line + lines[i], 3, at);
                others.append(is ? "" : lines[i]);
            }
            Due.error(BASE + others + line, 3, at + others.length());
        }
        // The name of the line itself is of its own sort alone.
        Due.error(BASE + "project z cost 5 in z grows 0;", 3, BASE.length() + 20);
        Due.error(BASE + "voter z likes z;", 3, BASE.length() + 14);
        Due.error("ward a cap 1;project p cost 5 in a grows 0;ban p when 1<2 and pleased p<1;", 3, 70);
    }

    private static void errorFour() {
        StringBuilder wards = new StringBuilder();
        for (int i = 0; i < 4; i++) {
            wards.append("ward w").append(i).append(" cap 1;");
            Due.same("wards", Due.taught(wards.toString()).count(1), i + 1);
        }
        Due.error(wards + "ward x cap 1;", 4, wards.length() + 5);
        StringBuilder projects = new StringBuilder(wards);
        StringBuilder voters = new StringBuilder(wards);
        StringBuilder bans = new StringBuilder(wards + "project p cost 1 in w3 grows 0;");
        for (int i = 0; i < 12; i++) {
            projects.append("project p").append(i).append(" cost 1 in w3 grows 0;");
            voters.append("voter v").append(i).append(";");
            bans.append("ban p when 1<2;");
            Due.same("projects", Due.taught(projects.toString()).count(2), i + 1);
            Due.same("voters", Due.taught(voters.toString()).count(3), i + 1);
            Due.same("bans", Due.taught(bans.toString()).count(4), i + 1);
        }
        Due.error(projects + "project x cost 1 in w3 grows 0;", 4, projects.length() + 8);
        Due.error(voters + "voter x;", 4, voters.length() + 6);
        Due.error(bans + "ban p when 1<2;", 4, bans.length());
        // At the ban itself, ahead of whatever is wrong behind it.
        Due.error(bans + "\nban x when built y;", 4, bans.length() + 1);
        // All of them at once are right.
        Due.right(projects + voters.substring(wards.length()) + Due.times("ban p11 when 1<2;", 12));
    }

    private static void errorFive() {
        for (int cap = 0; cap <= 12; cap++) {
            Due.same("cap", Due.taught("ward a cap " + cap + ";").ward(0, 0), cap);
        }
        Due.error("ward a cap 13;", 5, 11);
        Due.error("ward a cap 999999;", 5, 11);
        Due.error("ward a cap -1;", 1, 11);
        String ward = "ward a cap 1;project p cost ";
        for (int cost : new int[] {1, 2, 998, 999}) {
            Due.same("cost", Due.taught(ward + cost + " in a grows 0;").project(0, 0), cost);
        }
        for (int cost : new int[] {0, 1000, 999999}) {
            Due.error(ward + cost + " in a grows 0;", 5, ward.length());
        }
        for (int grows : new int[] {0, 1, 49, 50}) {
            Due.same("grows", Due.taught(ward + "1 in a grows " + grows + ";").project(0, 2), grows);
        }
        for (int grows : new int[] {51, 999999}) {
            Due.error(ward + "1 in a grows " + grows + ";", 5, ward.length() + 13);
        }
        for (int budget : new int[] {0, 1, 9998, 9999}) {
            Due.same("budget", Due.taught("budget " + budget + ";").count(5), budget);
        }
        for (int budget : new int[] {10000, 999999}) {
            Due.error("budget " + budget + ";", 5, 7);
        }
        // Numbers of tests have no range.
        test("999999 > 0", true);
        likedTwice();
    }

    private static void likedTwice() {
        String base = BASE + "project q cost 1 in a grows 0;";
        Due.error(base + "voter w likes p p;", 5, base.length() + 16);
        Due.error(base + "voter w likes q p q;", 5, base.length() + 18);
        Due.error(base + "voter w likes p q q p;", 5, base.length() + 18);
        Due.right(base + "voter w likes q p;voter x likes p q;");
    }

    private static void numberedAsTold() {
        BudgetJury jury = Due.taught("ward z cap 3;project z cost 9 in z grows 1;voter z likes z;ward a cap 4;ban z when 1=1;"
            + "project a cost 8 in a grows 2;ban a when 1=2;voter a likes a;ward m cap 5;project m cost 7 in z grows 3;voter m likes m z;");
        int[] caps = {3, 4, 5};
        int[] costs = {9, 8, 7};
        int[] homes = {0, 1, 0};
        int[] banned = {1, 0, 0};
        for (int i = 0; i < 3; i++) {
            Due.same("cap", jury.ward(i, 0), caps[i]);
            Due.same("cost", jury.project(i, 0), costs[i]);
            Due.same("ward", jury.project(i, 1), homes[i]);
            Due.same("grows", jury.project(i, 2), i + 1);
            Due.same("banned", jury.project(i, 6), banned[i]);
            for (int k = 0; k < 3; k++) {
                Due.same("likes " + i + " " + k, jury.likes(i, k), i == k || i == 2 && k == 0);
            }
        }
        Due.same("bans", jury.count(4), 2);
    }

    private static void theLatestBudget() {
        Due.same("none", Due.taught(BASE).count(5), 100);
        Due.same("one", Due.taught("budget 5;").count(5), 5);
        Due.same("the latest", Due.taught("budget 5;budget 9999;budget 6;" + BASE).count(5), 6);
        Due.same("the latest, 0", Due.taught("budget 5;" + BASE + "budget 0;").count(5), 0);
        BudgetJury jury = Due.taught("budget 5;");
        Due.same("teach", Due.teach(jury, BASE), 0);
        Due.same("none in the next list", jury.count(5), 100);
    }

    // ---- promises 4 and 5

    private static void errorAtOfTheLatestTeach() {
        BudgetJury jury = new BudgetJury();
        Due.same("ahead of any", jury.errorAt(), -1);
        Due.same("an error at 0", Due.teach(jury, "?"), 1);
        Due.same("its position", jury.errorAt(), 0);
        jury.feed(0, 0, 0, 0, 0);
        jury.trim(0);
        jury.pass(1);
        Due.same("it stays", jury.errorAt(), 0);
        Due.same("a right list", Due.teach(jury, BASE), 0);
        Due.same("it had none", jury.errorAt(), -1);
        Due.same("an error at 2000", Due.teach(jury, "budget" + BLANKS.substring(0, 1994)), 1);
        Due.same("its position", jury.errorAt(), 2000);
        Due.same("an error 5", Due.teach(jury, "budget 77777;"), 5);
        Due.same("its position", jury.errorAt(), 7);
        Due.same("an empty tape", jury.teach(), 0);
        Due.same("it had none", jury.errorAt(), -1);
    }

    private static final String LIVELY = "ward a cap 1;ward b cap 2;project p cost 10 in a grows 10;project q cost 7 in a grows 0;"
        + "project r cost 3 in b grows 50;project s cost 500 in b grows 1;voter u likes p s;voter v likes p q;voter w likes q;"
        + "budget 11;ban s when year=2 and pot>3;ban r when not built q;";

    private static BudgetJury lived() {
        BudgetJury jury = Due.taught(LIVELY);
        jury.pass(4);
        jury.approve(2, 3, true);
        jury.give(0, 20);
        jury.setBudget(50);
        jury.open(1);
        return jury;
    }

    private static void allBeginsAnewButTheYear() {
        BudgetJury lived = lived();
        Due.same("projects are built", lived.count(8) > 0 && lived.count(9) > 0 && lived.count(10) > 0, true);
        for (String list : new String[] {LIVELY, BASE, "", "voter a;voter b;voter c;"}) {
            BudgetJury again = lived();
            BudgetJury fresh = new BudgetJury();
            fresh.pass(4);
            Due.same("teach again", Due.teach(again, list), 0);
            Due.same("teach", Due.teach(fresh, list), 0);
            Due.same("the year stays", again.count(0), 4);
            Due.same("all told behind teach of " + list, Told.now(again), Told.now(fresh));
            Due.same("all that would be behind teach of " + list, Told.later(again), Told.later(fresh));
            again.pass(3);
            fresh.pass(3);
            Due.same("all told in the year 7 of " + list, Told.now(again), Told.now(fresh));
        }
        BudgetJury empty = lived();
        Due.same("teach of an empty tape", empty.teach(), 0);
        int[] due = {4, 0, 0, 0, 0, 100, 0, 0, 0, 0, 0, 0};
        for (int what = 0; what < 12; what++) {
            Due.same("count(" + what + ") of an empty list", empty.count(what), due[what]);
        }
    }

    private static void allStaysWithAnError() {
        String four = "budget 99;ward w cap 9;ward x cap 9;ward y cap 9;ward z cap 9;";
        String more = four + "project n cost 99 in w grows 9;voter n likes n;voter m;ban n when 1=1;";
        String[] wrong = {more + "budget", more + "voter n;", more + "ban o when 1=1;", more + "ward v cap 1;", more + "budget 10000;"};
        int[] at = {more.length() + 6, more.length() + 6, more.length() + 4, more.length() + 5, more.length() + 7};
        for (int i = 0; i < 5; i++) {
            BudgetJury jury = lived();
            BudgetJury twin = lived();
            String now = Told.now(twin);
            Due.same("teach", Due.teach(jury, wrong[i]), i + 1);
            Due.same("errorAt", jury.errorAt(), at[i]);
            Due.same("all stays behind the error " + (i + 1), Told.now(jury).replace("error at " + at[i], "error at -1"), now);
            Due.same("all that would be stays", Told.later(jury), Told.later(twin));
            jury.pass(3);
            twin.pass(3);
            Due.same("it goes on as before", Told.now(jury).replace("error at " + at[i], "error at -1"), Told.now(twin));
            Due.same("a right list", Due.teach(jury, BASE), 0);
            Due.same("its projects", jury.count(2), 1);
        }
    }

    /** Nothing of a list stays for the ones behind it, be they right or wrong, longer or shorter. */
    private static void listsOneAfterAnother() {
        StringBuilder full = new StringBuilder("ward a cap 1;ward b cap 2;ward c cap 3;ward d cap 4;budget 9;");
        for (int i = 0; i < 12; i++) {
            full.append("project p").append(i).append(" cost ").append(i + 1).append(" in d grows ").append(i).append(';');
        }
        for (int i = 0; i < 12; i++) {
            full.append("voter v").append(i).append(" likes p").append(i).append(" p").append((i + 1) % 12).append(';');
        }
        full.append(Due.times("ban p11 when 1=1;", 12));
        String[] lists = {full.toString(), "", BASE + "ban p when 1=2;", full + "budget", BASE, full + "budget 10000;", "voter v;", full + "voter v1;",
            full.toString(), BASE, "", full + "ban p11 when 1=1;", "ward x cap 5;", ""};
        BudgetJury jury = new BudgetJury();
        long before = jury.digest();
        for (String list : lists) {
            BudgetJury fresh = new BudgetJury();
            int error = Due.teach(fresh, list);
            Due.same("teach of " + list, Due.teach(jury, list), error);
            Due.same("errorAt", jury.errorAt(), fresh.errorAt());
            before = error == 0 ? fresh.digest() : before;
            Due.same("all told behind " + list, jury.digest(), before);
        }
    }

    /** As many tokens as there may be, several times. */
    private static void testsOneAfterAnother() {
        BudgetJury jury = new BudgetJury();
        for (int i = 0; i < 3; i++) {
            for (int sum = 187; sum <= 189; sum++) {
                Due.same("teach", Due.teach(jury, BASE + "ban p when 1" + Due.times("+1", 187) + "=" + sum + ";"), 0);
                Due.same("banned", jury.project(0, 6), sum == 188 ? 1 : 0);
                Due.same("a wrong list", Due.teach(jury, BASE + "ban p when 1" + Due.times("+1", 187) + "=" + sum), 1);
                Due.same("banned as before", jury.project(0, 6), sum == 188 ? 1 : 0);
            }
        }
    }
}
