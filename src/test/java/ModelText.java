import java.util.ArrayList;
import java.util.List;

/** TEXTS by cutting them at their loosest signs; a FAULT by trying all ways to go on. */
final class ModelText {
    private static final String[] SIGNS = {"|", "&", "<=>", "+-", "*/%"};
    private static final String[] NAMES = {"coh", "dwl"};

    private ModelText() { }

    static int value(String t, int use, int a, int b, int c) {
        return eval(t, 0, 0, use, new int[] {a, b, c});
    }

    static int fault(String t, int use) {
        for (int k = 1; k <= t.length(); k++) {
            if (!goesOn(t.substring(0, k), use)) {
                return k - 1;
            }
        }
        return eval(t, 0, 0, use, new int[3]) == null ? t.length() : -1;
    }

    private static boolean goesOn(String start, int use) {
        for (int closed = 0; closed <= 5; closed++) {
            String end = ")".repeat(closed);
            if (eval(start + end, 0, 0, use, new int[3]) != null || eval(start + "1" + end, 0, 0, use, new int[3]) != null) {
                return true;
            }
        }
        return false;
    }

    /** null: no TEXT of this level. */
    private static Integer eval(String t, int level, int open, int use, int[] names) {
        if (level == 5) {
            return evalQ(t, open, use, names);
        }
        List<String> parts = new ArrayList<>();
        StringBuilder signs = new StringBuilder();
        int depth = 0;
        int from = 0;
        for (int i = 0; i < t.length(); i++) {
            char ch = t.charAt(i);
            depth += ch == '(' ? 1 : ch == ')' ? -1 : 0;
            if (depth < 0) {
                return null;
            }
            if (depth == 0 && SIGNS[level].indexOf(ch) >= 0) {
                parts.add(t.substring(from, i));
                signs.append(ch);
                from = i + 1;
            }
        }
        parts.add(t.substring(from));
        if (depth != 0 || level == 2 && parts.size() > 2) {
            return null;
        }
        Integer v = eval(parts.get(0), level + 1, open, use, names);
        for (int i = 1; i < parts.size() && v != null; i++) {
            Integer r = eval(parts.get(i), level + 1, open, use, names);
            v = r == null ? null : Integer.valueOf(join(signs.charAt(i - 1), v, r));
        }
        return v;
    }

    private static Integer evalQ(String t, int open, int use, int[] names) {
        if (t.matches("[0-9]{1,4}")) {
            return Integer.valueOf(t);
        }
        if (t.length() == 1 && NAMES[use].contains(t)) {
            return names[NAMES[use].indexOf(t)];
        }
        if (open == 5 || t.length() < 2) {
            return null;
        }
        if (t.charAt(0) == '!') {
            Integer v = evalQ(t.substring(1), open + 1, use, names);
            return v == null ? null : v == 0 ? 1 : 0;
        }
        if (t.charAt(0) == '(' && t.endsWith(")")) {
            return eval(t.substring(1, t.length() - 1), 0, open + 1, use, names);
        }
        return null;
    }

    private static int join(char sign, int l, int r) {
        boolean truth;
        switch (sign) {
            case '+': return l + r;
            case '-': return l - r;
            case '*': return (int) ((long) l * r);
            case '/': return r == 0 ? 0 : (int) ((long) l / r);
            case '%': return r == 0 ? 0 : (int) ((long) l % r);
            case '|': truth = l != 0 | r != 0; break;
            case '&': truth = l != 0 & r != 0; break;
            case '<': truth = l < r; break;
            case '=': truth = l == r; break;
            default: truth = l > r; break;
        }
        return truth ? 1 : 0;
    }
}
