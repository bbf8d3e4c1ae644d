import java.util.Arrays;
import java.util.List;

/**
 * The grammar of the document, place by place: behind each beginning of a list every token there is, those that
 * may stand there and those that may not. Whatever may not is error 1, just there.
 */
public final class GrammarEdgesTest {
    private static final String NAME = "n";
    private static final String NUMBER = "1";
    private static final String END = "";
    private static final String LINE = "ward project voter budget ban END";
    private static final String VALUE = "NUMBER year pot cost fans purse pleased - ( min max";
    private static final String TEST = VALUE + " not [ built likes";
    private static final String SIGNS = "+ - * /";
    private static final String RELATIONS = "< > = <= >=";
    private static final String[] ALL = ("ward cap project cost in grows voter likes budget ban when year pot purse fans built pleased not and or min max "
        + "( ) [ ] ; , + - * / < > = <= >= NAME NUMBER END ? nnnnnnnnnnn 1111111 N").split(" ");
    private static final String[] VALUES = {"1", "year", "pot", "cost n", "fans n", "purse n", "pleased n", "-1", "--1", "(1)", "((1))", "-(1)",
        "min(1,1)", "max(1,1)", "1+1", "1-1", "1*1", "1/1", "1+1*1", "(1+1)", "min(1+1,1*1)"};
    private static final String[] SINGLES = {"built n", "likes n n", "1<1", "1>1", "1=1", "1<=1", "1>=1", "[1<1]", "[built n or 1<1]", "not built n",
        "not[1<1]", "not not 1<1"};

    public static void main(String[] args) {
        lines();
        tests();
        sums();
        sumsInBrackets();
        Due.end();
    }

    private static String text(String token) {
        switch (token) {
            case "NAME": return NAME;
            case "NUMBER": return NUMBER;
            case "END": return END;
            default: return token;
        }
    }

    private static void behind(String beginning, String allowed) {
        List<String> may = Arrays.asList(allowed.split(" "));
        String ahead = beginning.isEmpty() ? "" : beginning + " ";
        for (String token : ALL) {
            BudgetJury jury = new BudgetJury();
            int error = Due.teach(jury, ahead + text(token));
            boolean here = error == 1 && jury.errorAt() == ahead.length();
            Due.same("'" + token + "' behind '" + beginning + "' is error 1 just there", here, !may.contains(token));
        }
    }

    private static void lines() {
        behind("", LINE);
        behind("ward", "NAME");
        behind("ward n", "cap");
        behind("ward n cap", "NUMBER");
        behind("ward n cap 1", ";");
        behind("ward n cap 1;", LINE);
        behind("project", "NAME");
        behind("project n", "cost");
        behind("project n cost", "NUMBER");
        behind("project n cost 1", "in");
        behind("project n cost 1 in", "NAME");
        behind("project n cost 1 in n", "grows");
        behind("project n cost 1 in n grows", "NUMBER");
        behind("project n cost 1 in n grows 1", ";");
        behind("project n cost 1 in n grows 1;", LINE);
        behind("voter", "NAME");
        behind("voter n", "likes ;");
        behind("voter n;", LINE);
        behind("voter n likes", "NAME");
        behind("voter n likes n", "NAME ;");
        behind("voter n likes n n", "NAME ;");
        behind("voter n likes n n n;", LINE);
        behind("budget", "NUMBER");
        behind("budget 1", ";");
        behind("budget 1;", LINE);
        behind("ban", "NAME");
        behind("ban n", "when");
        behind("ban n when", TEST);
        behind("ban n when built n;", LINE);
        behind("ban n when 1<1;", LINE);
    }

    private static void tests() {
        for (String ahead : new String[] {"", "1<1 or ", "1<1 and ", "1<1 or 1<1 and "}) {
            String ban = "ban n when " + ahead;
            behind(ban + "not", TEST);
            behind(ban + "not not", TEST);
            behind(ban + "[", TEST);
            behind(ban + "[[", TEST);
            behind(ban + "built", "NAME");
            behind(ban + "likes", "NAME");
            behind(ban + "likes n", "NAME");
            for (String single : SINGLES) {
                boolean comparison = Character.isDigit(single.charAt(single.length() - 1));
                String more = comparison ? SIGNS + " and or " : "and or ";
                behind(ban + single, more + ";");
                behind(ban + "[" + single, more + "]");
                behind(ban + "[not[" + single, more + "]");
                behind(ban + "[" + single + "]", "and or ;");
                behind(ban + single + " and", TEST);
                behind(ban + single + " or", TEST);
            }
        }
    }

    private static void sums() {
        for (String place : new String[] {"ban n when ", "ban n when 1<", "ban n when built n or 1+", "ban n when not 1*-1>="}) {
            boolean right = place.contains("<") || place.contains(">");
            behind(place + "-", VALUE);
            behind(place + "(", VALUE);
            behind(place + "min", "(");
            behind(place + "max", "(");
            behind(place + "min(", VALUE);
            behind(place + "max(1,", VALUE);
            for (String word : new String[] {"cost", "fans", "purse", "pleased"}) {
                behind(place + word, "NAME");
            }
            for (String value : VALUES) {
                behind(place + value, SIGNS + " " + (right ? "and or ;" : RELATIONS));
                for (String sign : SIGNS.split(" ")) {
                    behind(place + value + sign, VALUE);
                }
                for (String relation : RELATIONS.split(" ")) {
                    if (!right) {
                        behind(place + value + relation, VALUE);
                    }
                }
            }
        }
    }

    private static void sumsInBrackets() {
        for (String place : new String[] {"ban n when ", "ban n when 1<", "ban n when [1+"}) {
            for (String value : VALUES) {
                behind(place + "(" + value, SIGNS + " )");
                behind(place + "-(" + value, SIGNS + " )");
                behind(place + "min(" + value, SIGNS + " ,");
                behind(place + "max(" + value, SIGNS + " ,");
                behind(place + "min(1," + value, SIGNS + " )");
                behind(place + "max((1)," + value, SIGNS + " )");
            }
        }
        behind("ban n when [1<(1)", SIGNS + " and or ]");
        behind("ban n when [1<1", SIGNS + " and or ]");
        behind("ban n when [1", SIGNS + " " + RELATIONS);
    }
}
