import java.util.Random;
import java.util.regex.Pattern;

/** The texts of rules: which are whole, and the FAULT of those that are not. */
public final class RuleTextTest {
    public static void main(String[] args) {
        whole();
        faults();
        everyPrefix();
        manyClauses();
        nesting();
        chance();
        Due.end("RuleTextTest");
    }

    private static int read(String text) {
        return Due.ruleBy4(new SpotTimers(), 0, 0, text);
    }

    private static void dueFault(String text, int place) {
        Due.due("fault of \"" + text + "\"", read(text), -10 - place);
    }

    private static void whole() {
        String[] texts = {
            "edges 1", "edges 4321", "blur f", "blur m", "blur l", "weigh 0 0", "weigh 5 99", "rest 0", "rest 9999",
            "copied", "withdrawn", "copied;copied", "strike h=0", "strike s=9999", "strike e=0000", "strike k=1",
            "strike t<0", "strike t>999999", "strike (h=1)", "strike !h=1", "strike h=1&h=2|h=3&h=4",
            "strike ((h=1|(h=2))&!(!h=3))", "strike (h=1)|(h=2)", "strike h=1;blur f;withdrawn;rest 12;weigh 1 2;edges 2"};
        for (String text : texts) {
            Due.due("rule \"" + text + "\"", read(text), 0);
        }
    }

    private static void faults() {
        dueFault("", 0);
        dueFault(" ", 0);
        dueFault(";", 0);
        dueFault("copied;", 7);
        dueFault("copied;;", 7);
        dueFault("copied ", 6);
        dueFault("copied ;", 6);
        dueFault("copied; blur f", 7);
        dueFault("Copied", 0);
        dueFault("edges", 5);
        dueFault("edges ", 6);
        dueFault("edges  1", 6);
        dueFault("edges 0", 6);
        dueFault("edges 5", 6);
        dueFault("edges 12 ", 8);
        dueFault("edges 121", 8);
        dueFault("edges 12341", 10);
        dueFault("edges 15", 7);
        dueFault("edges 1;edges 22", 15);
        dueFault("blur", 4);
        dueFault("blur ", 5);
        dueFault("blur fm", 6);
        dueFault("blur x", 5);
        dueFault("weigh 6 1", 6);
        dueFault("weigh 11", 7);
        dueFault("weigh 1", 7);
        dueFault("weigh 1 ", 8);
        dueFault("weigh 1  1", 8);
        dueFault("weigh 1 123", 10);
        dueFault("weigh 1 x", 8);
        dueFault("wa", 1);
        dueFault("w", 1);
        dueFault("wi", 2);
        dueFault("weithdrawn", 3);
        dueFault("withdrawn 1", 9);
        dueFault("rest", 4);
        dueFault("rest ", 5);
        dueFault("rest -1", 5);
        dueFault("rest 12345", 9);
        dueFault("rest 12 ", 7);
        dueFault("strike", 6);
        dueFault("strike ", 7);
        dueFault("strike x=1", 7);
        dueFault("strike h", 8);
        dueFault("strike h<1", 8);
        dueFault("strike h =1", 8);
        dueFault("strike h=", 9);
        dueFault("strike h=x", 9);
        dueFault("strike h=12345", 13);
        dueFault("strike t=1", 8);
        dueFault("strike t", 8);
        dueFault("strike t<", 9);
        dueFault("strike t>1234567", 15);
        dueFault("strike h=1&", 11);
        dueFault("strike h=1|", 11);
        dueFault("strike h=1||h=2", 11);
        dueFault("strike h=1!h=2", 10);
        dueFault("strike h=1)", 10);
        dueFault("strike ()", 8);
        dueFault("strike (h=1", 11);
        dueFault("strike (h=1;copied", 11);
        dueFault("strike (h=1))", 12);
        dueFault("strike (h=1)h=2", 12);
        dueFault("strike !", 8);
        dueFault("strike !&", 8);
        dueFault("strike h=1 &h=2", 10);
        dueFault("copied" + (char) 0, 6);
        dueFault((char) 227 + "opied", 0);
    }

    private static void everyPrefix() {
        String text = "edges 31;blur f;weigh 5 07;strike !(h=1&t<123456)|s=2;rest 40;copied;withdrawn";
        for (int n = 0; n <= text.length(); n++) {
            String start = text.substring(0, n);
            int want = isWhole(start) ? 0 : -10 - n;
            Due.due("prefix of " + n, read(start), want);
            Due.due("prefix of " + n + " and ~", read(start + "~"), -10 - n);
        }
    }

    private static void manyClauses() {
        StringBuilder ten = new StringBuilder("copied");
        for (int i = 2; i <= 10; i++) {
            ten.append(";blur f");
        }
        Due.due("10 clauses", read(ten.toString()), 0);
        dueFault(ten + ";", ten.length());
        dueFault(ten + ";copied", ten.length());
        SpotTimers x = new SpotTimers();
        Due.ruleBy4(x, 0, 0, "strike h=1;strike h=1;strike h=1;strike h=1;strike h=1;strike h=1;strike h=1;strike h=1;"
            + "strike h=1;strike h=1");
        Due.due("10 strikes", x.ruled(0, 0, 4), 10);
        StringBuilder longest = new StringBuilder("strike h=0001");
        while (longest.length() < 140) {
            longest.append(longest.length() < 136 ? "|h=1" : "|h=1".substring(0, 140 - longest.length()));
        }
        Due.due("140 bytes are fed", longest.length(), 140);
        dueFault(longest.toString(), 140);
        Due.due("139 bytes", read("rest 0001;strike h=11" + "|t<1".repeat(29) + "|h"), -10 - 139);
        Due.due("140 bytes, whole", read("rest 01;strike s=123" + "|t<1".repeat(30)), 0);
    }

    private static void nesting() {
        Due.due("5 (", read("strike (((((h=1)))))"), 0);
        dueFault("strike ((((((h=1))))))", 12);
        Due.due("5 !", read("strike !!!!!h=1"), 0);
        dueFault("strike !!!!!!h=1", 12);
        dueFault("strike !(!(!(h=1)))", 12);
        Due.due("5 ( twice", read("strike (((((h=1)))))|(((((h=1)))))"), 0);
        Due.due("behind a !F the ! is over", read("strike !h=1&(((((h=1)))))"), 0);
        Due.due("behind a ) likewise", read("strike !(h=1)&!!!!!h=1"), 0);
        dueFault("strike (h=1&(((((h=1))))))", 16);
    }

    private static final String DIGITS4 = "[0-9]{1,4}";
    private static final String TEST = "(?:[hsek]=" + DIGITS4 + "|t[<>][0-9]{1,6})";

    private static String factor(int deep) {
        if (deep == 0) {
            return TEST;
        }
        String inner = factor(deep - 1);
        return "(?:!" + inner + "|\\(" + either(inner) + "\\)|" + TEST + ")";
    }

    private static String either(String factor) {
        String both = factor + "(?:&" + factor + ")*";
        return both + "(?:\\|" + both + ")*";
    }

    /** But for figures of edges that stand twice. */
    private static final Pattern CLAUSE = Pattern.compile("edges [1-4]{1,4}|blur [fml]|weigh [0-5] [0-9]{1,2}|rest "
        + DIGITS4 + "|copied|withdrawn|strike " + either(factor(2)));

    /** A second reading of the grammar, by patterns; texts nest at most 2 deep here. */
    private static boolean isWhole(String text) {
        String[] clauses = text.split(";", -1);
        if (clauses.length > 10) {
            return false;
        }
        for (String clause : clauses) {
            boolean edges = clause.startsWith("edges ");
            if (!CLAUSE.matcher(clause).matches()
                    || edges && clause.substring(6).chars().distinct().count() != clause.length() - 6) {
                return false;
            }
        }
        return true;
    }

    private static boolean begins(String text) {
        String[] clauses = text.split(";", -1);
        if (clauses.length > 10) {
            return false;
        }
        for (int i = 0; i < clauses.length - 1; i++) {
            if (!isWhole(clauses[i])) {
                return false;
            }
        }
        String last = clauses[clauses.length - 1];
        return isWhole(last) || canEnd(last);
    }

    private static final String[] ENDS = {
        "edges 1", "dges 1", "ges 1", "es 1", "s 1", " 1", "1", "2", "3", "4", "blur f", "lur f", "ur f", "r f", " f", "f",
        "weigh 1 1", "eigh 1 1", "igh 1 1", "gh 1 1", "h 1 1", " 1 1", "1 1",
        "rest 1", "est 1", "st 1", "t 1", "copied", "opied", "pied", "ied", "ed", "d",
        "withdrawn", "ithdrawn", "thdrawn", "hdrawn", "drawn", "rawn", "awn", "wn", "n",
        "strike h=1", "trike h=1", "rike h=1", "ike h=1", "ke h=1", "e h=1", " h=1", "h=1", "=1", "<1",
        ")", "))", "1)", "1))", "=1)", "=1))", "<1)", "<1))", "h=1)", "h=1))"};

    private static boolean canEnd(String text) {
        for (String end : ENDS) {
            if (isWhole(text + end)) {
                return true;
            }
        }
        return false;
    }

    private static final String[] BITS = {
        "edges ", "blur ", "weigh ", "rest ", "copied", "withdrawn", "strike ", "h=", "s=", "e=", "k=", "t<", "t>",
        "1", "2", "34", "0", "5", "9", "123", "&", "|", "!", "(", ")", ";", " ", "f", "m", "l", "h=1", "t<12"};
    private static final String[] WHOLE = {
        "edges 12", "blur m", "weigh 1 2", "rest 77", "copied", "withdrawn", "strike h=1|!(e=2&t>55)",
        "strike (k=1|s=2)&!h=3"};

    private static int deepest(String text) {
        int deep = 0;
        int most = 0;
        for (int i = 0; i < text.length(); i++) {
            char c = text.charAt(i);
            if (c == '(' || c == '!') {
                deep++;
                most = Math.max(most, deep);
            } else if (c == ')' || c == ';') {
                deep = 0;
            }
        }
        return most;
    }

    private static void chance() {
        Random random = new Random(7);
        for (int run = 0; run < 6000; run++) {
            StringBuilder made = new StringBuilder();
            int whole = random.nextInt(4);
            for (int i = 0; i < whole; i++) {
                made.append(i > 0 ? ";" : "").append(WHOLE[random.nextInt(WHOLE.length)]);
            }
            int bits = random.nextInt(5);
            for (int i = 0; i < bits; i++) {
                made.append(BITS[random.nextInt(BITS.length)]);
            }
            if (made.length() > 0 && random.nextInt(3) == 0) {
                made.deleteCharAt(random.nextInt(made.length()));
            }
            String text = made.toString();
            if (deepest(text) > 2 || text.length() > 130) {
                continue;
            }
            int want = 0;
            if (!isWhole(text)) {
                int place = 0;
                while (place < text.length() && begins(text.substring(0, place + 1))) {
                    place++;
                }
                want = -10 - place;
            }
            Due.due("\"" + text + "\"", read(text), want);
        }
    }
}
