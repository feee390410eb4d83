import java.math.BigInteger;
import java.util.ArrayDeque;
import java.util.ArrayList;
import java.util.Arrays;
import java.util.Deque;
import java.util.HashMap;
import java.util.List;
import java.util.Map;
import java.util.Random;

/**
 * Runs of random calls, each answered by PupilCoin and by a slow model of the document that shares
 * no code with it: no caches, big integers, texts worked out from their tokens, faults found by a
 * table of rules and a stack. Seeds are fixed, so that a run is the same each time.
 */
public final class ModelRuns {
    static final int RUNS = 1500;
    static final int CALLS = 512;

    public static void main(String[] args) {
        int runs = args.length > 0 ? Integer.parseInt(args[0]) : RUNS;
        int from = args.length > 1 ? Integer.parseInt(args[1]) : 0;
        int wrong = 0;
        Map<String, int[]> seen = new HashMap<>();
        for (int run = from; run < from + runs && wrong < 5; run++) {
            if (!new Driver(run, seen).run()) wrong++;
        }
        if (args.length > 2) seen.forEach((k, v) -> System.out.println(k + " " + Arrays.toString(v)));
        System.out.println(wrong == 0 ? runs + " runs are as the model's" : wrong + " runs differ from the model's");
        if (wrong != 0) System.exit(1);
    }

    static final class Tok {
        final String text;
        final int place;

        Tok(String text, int place) {
            this.text = text;
            this.place = place;
        }
    }

    /** A text's tokens; a byte that begins none is a token "?". */
    static List<Tok> tokens(String text) {
        List<Tok> list = new ArrayList<>();
        java.util.regex.Matcher m = java.util.regex.Pattern.compile("[a-z]+|[0-9]+|[^ \n]", java.util.regex.Pattern.DOTALL).matcher(text);
        while (m.find()) {
            String t = m.group();
            boolean known = t.matches("[a-z]+|[0-9]+|[=;+\\-*/(),{}<>]");
            list.add(new Tok(known ? t : "?", m.start()));
        }
        list.add(new Tok("", text.length()));
        return list;
    }

    static final List<String> WORDS = List.of("first", "lower", "upper", "heads", "meals", "special", "need", "far", "last", "ward");
    static final List<String> KEYS = List.of("line", "if", "floor", "cap", "total", "move", "order", "share", "min", "max", "or", "and", "not");

    static boolean isName(String t) {
        return t.matches("[a-z]{1,8}") && !WORDS.contains(t) && !KEYS.contains(t);
    }

    /** The place where the text goes wrong, or -1. */
    static int faultOf(String text) {
        List<String> lines = new ArrayList<>();
        Deque<String> stack = new ArrayDeque<>();
        stack.push("TEXT");
        int depth = 0;
        int statements = 0;
        String pending = null;
        for (Tok tok : tokens(text)) {
            String t = tok.text;
            boolean taken = false;
            while (!taken) {
                if (stack.isEmpty()) return t.isEmpty() ? -1 : tok.place;
                String top = stack.pop();
                switch (top) {
                    case "TEXT":
                        if (t.isEmpty()) return -1;
                        if (statements++ == 30) return tok.place;
                        stack.push("TEXT");
                        if (t.equals("line")) push(stack, "line NEW = EX IF ; TOLD");
                        else if (t.equals("floor") || t.equals("cap")) push(stack, t + " N1000 ;");
                        else if (t.equals("total")) push(stack, "total N9999999 ;");
                        else if (t.equals("move")) push(stack, "move N100 ;");
                        else if (t.equals("order")) push(stack, "order WHICH ;");
                        else if (t.equals("share")) push(stack, "share OLD ;");
                        else return tok.place;
                        break;
                    case "IF": if (t.equals("if")) push(stack, "if COND"); break;
                    case "TOLD": lines.add(pending); break;
                    case "CLOSE": depth--; break;
                    case "EX": push(stack, "PROD EX2"); break;
                    case "EX2": if (t.equals("+") || t.equals("-")) push(stack, t + " PROD EX2"); break;
                    case "PROD": push(stack, "ATOM PROD2"); break;
                    case "PROD2": if (t.equals("*") || t.equals("/")) push(stack, t + " ATOM PROD2"); break;
                    case "COND": push(stack, "ALL COND2"); break;
                    case "COND2": if (t.equals("or")) push(stack, "or ALL COND2"); break;
                    case "ALL": push(stack, "ONE ALL2"); break;
                    case "ALL2": if (t.equals("and")) push(stack, "and ONE ALL2"); break;
                    case "ATOM":
                        if (WORDS.contains(t) || lines.contains(t) || t.matches("[0-9]{1,7}")) {
                            taken = true;
                        } else if (t.equals("(") || t.equals("min") || t.equals("max")) {
                            if (++depth > 8) return tok.place;
                            push(stack, t.equals("(") ? "( EX ) CLOSE" : t + " ( EX , EX ) CLOSE");
                        } else {
                            return tok.place;
                        }
                        break;
                    case "ONE":
                        if (t.equals("not") || t.equals("{")) {
                            if (++depth > 8) return tok.place;
                            push(stack, t.equals("not") ? "not ONE CLOSE" : "{ COND } CLOSE");
                        } else {
                            push(stack, "EX CMP EX");
                        }
                        break;
                    case "CMP": if (!t.matches("[<>=]")) return tok.place; taken = true; break;
                    case "WHICH": if (!t.equals("floor") && !t.equals("cap")) return tok.place; taken = true; break;
                    case "OLD": if (!lines.contains(t)) return tok.place; taken = true; break;
                    case "NEW":
                        if (!isName(t) || lines.contains(t)) return tok.place;
                        pending = t;
                        taken = true;
                        break;
                    default:
                        if (top.startsWith("N")) {
                            if (!t.matches("[0-9]{1,7}") || Integer.parseInt(t) > Integer.parseInt(top.substring(1))) return tok.place;
                        } else if (!top.equals(t)) {
                            return tok.place;
                        }
                        taken = true;
                }
            }
        }
        return -1;
    }

    static void push(Deque<String> stack, String rule) {
        String[] parts = rule.split(" ");
        for (int i = parts.length - 1; i >= 0; i--) stack.push(parts[i]);
    }

    static final BigInteger HELD = BigInteger.TEN.pow(8);
    static final BigInteger BASE_HELD = BigInteger.TEN.pow(10);

    static BigInteger hold(BigInteger x, BigInteger by) {
        return x.min(by).max(by.negate());
    }

    static BigInteger big(long x) {
        return BigInteger.valueOf(x);
    }

    /** A sound text, cut into statements; works lines out straight from their tokens. */
    static final class Text {
        final List<List<String>> statements = new ArrayList<>();
        final List<Integer> lines = new ArrayList<>();
        final List<String> names = new ArrayList<>();
        int from;
        int day;
        int number;
        // While a line is worked out:
        List<String> at;
        int pos;
        Map<String, BigInteger> values;

        Text(String text) {
            List<String> now = new ArrayList<>();
            for (Tok tok : tokens(text)) {
                if (tok.text.isEmpty()) break;
                if (!tok.text.equals(";")) {
                    now.add(tok.text);
                    continue;
                }
                if (now.get(0).equals("line")) {
                    lines.add(statements.size());
                    names.add(now.get(1));
                }
                statements.add(now);
                now = new ArrayList<>();
            }
        }

        String setting(String key) {
            String last = null;
            for (List<String> s : statements) {
                if (s.get(0).equals(key)) last = s.get(1);
            }
            return last;
        }

        int number(String key, int without) {
            String s = setting(key);
            return s == null ? without : Integer.parseInt(s);
        }

        List<BigInteger> work(Map<String, BigInteger> words) {
            values = new HashMap<>(words);
            List<BigInteger> all = new ArrayList<>();
            for (int i : lines) {
                at = statements.get(i);
                pos = 3;
                BigInteger v = ex();
                if (pos < at.size()) {
                    pos++;
                    if (!cond()) v = BigInteger.ZERO;
                }
                if (pos != at.size()) throw new IllegalStateException("tokens are left");
                values.put(at.get(1), v);
                all.add(v);
            }
            return all;
        }

        boolean next(String t) {
            if (pos < at.size() && at.get(pos).equals(t)) {
                pos++;
                return true;
            }
            return false;
        }

        BigInteger ex() {
            BigInteger v = prod();
            while (true) {
                if (next("+")) v = hold(v.add(prod()), HELD);
                else if (next("-")) v = hold(v.subtract(prod()), HELD);
                else return v;
            }
        }

        BigInteger prod() {
            BigInteger v = atom();
            while (true) {
                if (next("*")) {
                    v = hold(v.multiply(atom()), HELD);
                } else if (next("/")) {
                    BigInteger by = atom();
                    v = by.signum() == 0 ? BigInteger.ZERO : v.divide(by);
                } else {
                    return v;
                }
            }
        }

        BigInteger atom() {
            String t = at.get(pos++);
            if (t.equals("(")) {
                BigInteger v = ex();
                pos++;
                return v;
            }
            if (t.equals("min") || t.equals("max")) {
                pos++;
                BigInteger a = ex();
                pos++;
                BigInteger b = ex();
                pos++;
                return t.equals("min") ? a.min(b) : a.max(b);
            }
            if (Character.isDigit(t.charAt(0))) return new BigInteger(t);
            return values.get(t);
        }

        boolean cond() {
            boolean v = every();
            while (next("or")) v |= every();
            return v;
        }

        boolean every() {
            boolean v = one();
            while (next("and")) v &= one();
            return v;
        }

        boolean one() {
            if (next("not")) return !one();
            if (next("{")) {
                boolean v = cond();
                pos++;
                return v;
            }
            BigInteger a = ex();
            String t = at.get(pos++);
            int c = a.compareTo(ex());
            return t.equals("<") ? c < 0 : t.equals(">") ? c > 0 : c == 0;
        }
    }

    /** One school's sum, by its lines. */
    static final class Sum {
        List<BigInteger> lines = new ArrayList<>();
        BigInteger bare = BigInteger.ZERO;
        BigInteger floor = BigInteger.ZERO;
        BigInteger cap = BigInteger.ZERO;
        BigInteger share = BigInteger.ZERO;
        BigInteger part = BigInteger.ZERO;
        BigInteger last = BigInteger.ZERO;

        BigInteger whole() {
            return bare.add(floor).add(cap).add(share);
        }
    }

    static final class Model {
        static final long NOTHING = -2000000000000L;
        int today;
        List<int[]> schools = new ArrayList<>();
        int[] need = new int[8];
        int[][] roads = new int[16][16];
        List<int[]> marks = new ArrayList<>();
        List<int[]> joins = new ArrayList<>();
        StringBuilder tape = new StringBuilder();
        List<Text> laws = new ArrayList<>();
        Text aside;
        int fault = -1;
        List<int[]> moves = new ArrayList<>();
        List<List<Integer>> objections = new ArrayList<>();
        List<Integer> adopted = new ArrayList<>();

        boolean school(int s) {
            return s >= 0 && s < schools.size();
        }

        static boolean in(int x, int least, int most) {
            return x >= least && x <= most;
        }

        int thisYear() {
            return today / 100;
        }

        boolean isOpen(int s, int year) {
            for (int[] j : joins) {
                if (j[1] == s && j[2] <= year) return false;
            }
            return true;
        }

        /** The school and all that it has taken by a year, and what those had taken. */
        List<Integer> joined(int s, int year) {
            List<Integer> all = new ArrayList<>();
            all.add(s);
            for (int[] j : joins) {
                if (j[0] == s && j[2] <= year) all.addAll(joined(j[1], year));
            }
            return all;
        }

        int far(int s, int year) {
            int[] to = new int[16];
            Arrays.fill(to, 1 << 20);
            to[schools.get(s)[2]] = 0;
            boolean nearer = true;
            while (nearer) {
                nearer = false;
                for (int a = 0; a < 16; a++) {
                    for (int b = 0; b < 16; b++) {
                        if (roads[a][b] == 0 || to[a] + roads[a][b] >= to[b]) continue;
                        to[b] = to[a] + roads[a][b];
                        nearer = true;
                    }
                }
            }
            int least = 9999;
            for (int o = 0; o < schools.size(); o++) {
                if (o != s && isOpen(o, year)) least = Math.min(least, to[schools.get(o)[2]]);
            }
            return least;
        }

        int marked(int s, int year, int what, int known) {
            int v = -1;
            for (int[] m : marks) {
                if (m[0] == s && m[1] == year && m[2] == what && m[4] <= known) v = m[3];
            }
            return v;
        }

        long looked(int s, int year, int ahead, int what, int known) {
            long v = 0;
            for (int m : joined(s, year)) v += Math.max(0, marked(m, ahead, what, known));
            return v;
        }

        Text law(int year, int known) {
            Text best = null;
            for (int from = 0; from <= year; from++) {
                for (Text law : laws) {
                    if (law.from == from && law.day <= known) best = law;
                }
            }
            return best;
        }

        List<Sum> row(int year, int known) {
            return row(law(year, known), year, known, -1, -1);
        }

        List<Sum> row(Text law, int year, int known, int more, int what) {
            List<Sum> row = new ArrayList<>();
            for (int s = 0; s < schools.size(); s++) row.add(new Sum());
            if (law == null) return row;
            List<Sum> before = year == 0 ? null : row(year - 1, 100 * year);
            for (int s = 0; s < schools.size(); s++) {
                if (isOpen(s, year)) sumOf(law, row.get(s), s, year, known, before, more == s ? what : -1);
            }
            String total = law.setting("total");
            if (total != null) partOut(row, new BigInteger(total));
            return row;
        }

        void sumOf(Text law, Sum sum, int s, int year, int known, List<Sum> before, int what) {
            int ahead = year == 0 ? 0 : year - 1;
            long[] m = new long[5];
            for (int w = 0; w < 5; w++) m[w] = looked(s, year, ahead, w, known) + (w == what ? 1 : 0);
            if (before != null) for (int j : joined(s, year)) sum.last = sum.last.add(before.get(j).whole());
            long heads = m[0] + m[1] + m[2];
            Map<String, BigInteger> words = new HashMap<>();
            words.put("first", big(m[0]));
            words.put("lower", big(m[1]));
            words.put("upper", big(m[2]));
            words.put("heads", big(heads));
            words.put("meals", big(m[3]));
            words.put("special", big(m[4]));
            words.put("need", big(need[schools.get(s)[0]]));
            words.put("far", big(far(s, year)));
            words.put("last", hold(sum.last, HELD));
            words.put("ward", big(schools.get(s)[0]));
            sum.lines = law.work(words);
            for (BigInteger v : sum.lines) sum.bare = sum.bare.add(v);
            String share = law.setting("share");
            sum.part = share == null ? big(heads) : sum.lines.get(law.names.indexOf(share));
            if (year == 0 || sum.last.signum() == 0) return;
            long then = 0;
            for (int w = 0; w < 3; w++) then += looked(s, year, year == 1 ? 0 : year - 2, w, 100 * year);
            if (then == 0) return;
            BigInteger base = hold(sum.last.multiply(big(heads)).divide(big(then)), BASE_HELD);
            String first = law.setting("order");
            boolean capFirst = "cap".equals(first);
            for (int step = 0; step < 2; step++) {
                boolean isCap = capFirst == (step == 0);
                String by = law.setting(isCap ? "cap" : "floor");
                if (by == null) continue;
                BigInteger limit = base.multiply(new BigInteger(by)).divide(big(100));
                BigInteger lacks = limit.subtract(sum.whole());
                if (isCap && lacks.signum() < 0) sum.cap = lacks;
                if (!isCap && lacks.signum() > 0) sum.floor = lacks;
            }
        }

        void partOut(List<Sum> row, BigInteger total) {
            BigInteger rest = total;
            BigInteger parts = BigInteger.ZERO;
            for (Sum s : row) {
                rest = rest.subtract(s.whole());
                if (s.part.signum() > 0) parts = parts.add(s.part);
            }
            if (parts.signum() == 0) return;
            BigInteger left = rest;
            for (Sum s : row) {
                if (s.part.signum() > 0) s.share = rest.multiply(s.part).divide(parts);
                left = left.subtract(s.share);
            }
            while (left.signum() != 0) {
                for (Sum s : row) {
                    if (s.part.signum() <= 0 || left.signum() == 0) continue;
                    s.share = s.share.add(big(left.signum()));
                    left = left.subtract(big(left.signum()));
                }
            }
        }

        long right(int s, int year) {
            if (year == 0) return 0;
            BigInteger right = BigInteger.ZERO;
            List<Sum> now = row(year - 1, 100 * year);
            List<Sum> dealt = row(year - 1, 100 * (year - 1));
            for (int m : joined(s, year)) right = right.add(now.get(m).whole()).subtract(dealt.get(m).whole());
            return right.longValueExact();
        }

        long moved(int s, int year) {
            long v = 0;
            for (int p : adopted) {
                int[] m = moves.get(p);
                if (m[4] == year && m[2] == s) v += m[3];
                if (m[4] == year && m[1] == s) v -= m[3];
            }
            return v;
        }

        long led(int s, int year, int k) {
            if (!isOpen(s, year)) return 0;
            if (k == 33) return right(s, year);
            if (k == 34) return moved(s, year);
            Sum sum = row(year, 100 * year).get(s);
            if (k == 30) return sum.floor.longValueExact();
            if (k == 31) return sum.cap.longValueExact();
            if (k == 32) return sum.share.longValueExact();
            Text law = law(year, 100 * year);
            if (law == null || k >= law.statements.size() || !law.statements.get(k).get(0).equals("line")) return 0;
            return sum.lines.get(law.names.indexOf(law.statements.get(k).get(1))).longValueExact();
        }

        /** All lines that are told together; none of them twice. */
        long due(int s, int year) {
            if (!isOpen(s, year)) return 0;
            Sum sum = row(year, 100 * year).get(s);
            BigInteger due = sum.floor.add(sum.cap).add(sum.share).add(big(right(s, year))).add(big(moved(s, year)));
            for (BigInteger line : sum.lines) due = due.add(line);
            return due.longValueExact();
        }

        long text(int n, int year, boolean beside) {
            if (!in(n, 0, tape.length()) || !beside && !in(year, thisYear(), 9)) return -2;
            if (!beside && laws.size() == 8) return -3;
            String text = tape.substring(0, n);
            tape.setLength(0);
            fault = faultOf(text);
            Text law = fault == -1 ? new Text(text) : null;
            if (beside) {
                aside = law;
                return law == null ? -1 : 0;
            }
            if (law == null) return -1;
            law.from = year;
            law.day = today;
            law.number = laws.size();
            laws.add(law);
            return law.number;
        }

        long lawTells(int year, int known, int what) {
            Text law = law(year, known);
            if (law == null) return what == 3 || what == 4 || what == 6 ? 0 : -1;
            switch (what) {
                case 0: return law.number("floor", -1);
                case 1: return law.number("cap", -1);
                case 2: return law.number("total", -1);
                case 3: return law.number("move", 0);
                case 4: return "cap".equals(law.setting("order")) ? 1 : 0;
                case 5: return law.setting("share") == null ? -1 : law.lines.get(law.names.indexOf(law.setting("share")));
                case 6: return law.statements.size();
                case 7: return law.number;
                default: return -1;
            }
        }

        long adopt(int p) {
            if (!in(p, 0, moves.size() - 1) || adopted.contains(p)) return 1;
            int[] m = moves.get(p);
            if (today - m[5] < 10) return 2;
            if (thisYear() >= m[4]) return 3;
            double may = 0;
            double did = 0;
            for (int s = 0; s < schools.size(); s++) {
                if (schools.get(s)[1] != m[0] || !isOpen(s, thisYear())) continue;
                may++;
                if (objections.get(p).contains(s)) did++;
            }
            if (did > may / 2) return 4;
            long coins = m[3];
            for (int a : adopted) {
                if (moves.get(a)[0] == m[0] && moves.get(a)[4] == m[4]) coins += moves.get(a)[3];
            }
            Text law = law(m[4], today);
            BigInteger sums = BigInteger.ZERO;
            List<Sum> row = row(m[4], today);
            for (int s = 0; s < schools.size(); s++) {
                if (schools.get(s)[1] == m[0]) sums = sums.add(row.get(s).whole());
            }
            BigInteger most = sums.multiply(big(law == null ? 0 : law.number("move", 0))).divide(big(100));
            if (big(coins).compareTo(most) > 0) return 5;
            adopted.add(p);
            return 0;
        }

        long rates(int year, int a, int b, int t, int what) {
            if (!in(year, 0, 9) || !in(t, 0, 999999999) || !in(what, 0, 3) || a == b) return NOTHING;
            Text law = law(year, today);
            if (law == null || !in(a, 0, law.lines.size() - 1) || !in(b, 0, law.lines.size() - 1)) return NOTHING;
            List<Sum> row = row(year, today);
            long[][] told = new long[schools.size()][];
            for (int s = 0; s < told.length; s++) told[s] = row.get(s).lines.stream().mapToLong(BigInteger::longValueExact).toArray();
            long[] best = null;
            for (int ra = 0; ra <= 20; ra++) {
                for (int rb = 0; rb <= 20; rb++) {
                    long sum = 0;
                    long losers = 0;
                    for (int s = 0; s < schools.size(); s++) {
                        if (!isOpen(s, year)) continue;
                        long bare = 0;
                        for (int i = 0; i < law.lines.size(); i++) {
                            long v = told[s][i];
                            bare += i == a ? v * ra / 10 : i == b ? v * rb / 10 : v;
                        }
                        sum += bare;
                        if (big(bare).compareTo(row.get(s).last) < 0) losers++;
                    }
                    if (sum > t) continue;
                    long[] is = {losers, sum, ra, rb};
                    if (best == null || losers < best[0] || losers == best[0] && sum > best[1]) best = is;
                }
            }
            return best == null ? NOTHING : best[what];
        }

        long foretold(int s, int age, int n, int what) {
            List<Integer> years = new ArrayList<>();
            for (int y = 0; y <= thisYear(); y++) {
                if (marked(s, y, age, today) >= 0) years.add(y);
            }
            if (years.size() < 2) return -1;
            int later = marked(s, years.get(years.size() - 1), age, today);
            int d = later - marked(s, years.get(years.size() - 2), age, today);
            int v = later + n * d;
            return Math.max(0, what == 0 ? v : what == 1 ? v - n * Math.abs(d) : v + n * Math.abs(d));
        }

        long doubt(int s, int year) {
            int best = -1;
            for (int free = 63; free >= 0; free--) {
                Integer[] v = new Integer[6];
                boolean fits = true;
                for (int w = 0; w < 6; w++) {
                    int m = marked(s, year, w, today);
                    if (m < 0) fits &= (free >> w & 1) == 0;
                    else if ((free >> w & 1) == 0) v[w] = m;
                }
                if (!fits || !can(v)) continue;
                if (best < 0 || Integer.bitCount(free) <= Integer.bitCount(best)) best = free;
            }
            return best;
        }

        /** Looks for a number of all heads that the marks allow. */
        static boolean can(Integer[] v) {
            for (int all = 0; all <= 30000; all++) {
                if (v[5] != null && v[5] != all) continue;
                if (v[3] != null && v[3] > all || v[4] != null && v[4] > all) continue;
                int told = 0;
                int open = 0;
                for (int w = 0; w < 3; w++) {
                    if (v[w] == null) open++;
                    else told += v[w];
                }
                if (told == all || told < all && open > 0) return true;
            }
            return false;
        }

        long answer(String call, int[] a) {
            switch (call) {
                case "day":
                    if (!in(a[0], today + 1, 999)) return 0;
                    today = a[0];
                    return 1;
                case "school":
                    if (!in(a[0], 0, 7) || !in(a[1], 0, 2) || !in(a[2], 0, 15) || schools.size() == 12) return -1;
                    schools.add(a);
                    return schools.size() - 1;
                case "need":
                    if (!in(a[0], 0, 7) || !in(a[1], 0, 100)) return 0;
                    need[a[0]] = a[1];
                    return 1;
                case "road":
                    if (!in(a[0], 0, 15) || !in(a[1], 0, 15) || a[0] == a[1] || !in(a[2], 0, 999)) return 0;
                    roads[a[0]][a[1]] = a[2];
                    roads[a[1]][a[0]] = a[2];
                    return 1;
                case "far": return school(a[0]) && in(a[1], 0, 9) && isOpen(a[0], a[1]) ? far(a[0], a[1]) : -1;
                case "mark":
                    if (!school(a[0]) || !in(a[1], 0, 9) || !in(a[2], 0, 5) || !in(a[3], 0, 9999) || marks.size() == 300) return -1;
                    marks.add(new int[] {a[0], a[1], a[2], a[3], today});
                    return marks.size() - 1;
                case "marked":
                    return school(a[0]) && in(a[1], 0, 9) && in(a[2], 0, 5) && in(a[3], 0, 999) ? marked(a[0], a[1], a[2], a[3]) : -1;
                case "join":
                    if (!school(a[0]) || !school(a[1]) || a[0] == a[1] || !in(a[2], thisYear() + 1, 9) || joins.size() == 6) return -1;
                    for (int y = a[2]; y < 10; y++) {
                        if (!isOpen(a[0], y) || !isOpen(a[1], y)) return -1;
                    }
                    joins.add(a);
                    return joins.size();
                case "open": return school(a[0]) && in(a[1], 0, 9) ? isOpen(a[0], a[1]) ? 1 : 0 : -1;
                case "feed":
                    if (tape.length() + 20 > 700) return -1;
                    for (int v : a) {
                        for (int i = 3; i >= 0; i--) tape.append((char) (v >> 8 * i & 255));
                    }
                    return tape.length();
                case "formula": return text(a[0], a[1], false);
                case "beside": return text(a[0], 0, true);
                case "fault": return fault;
                case "law": return in(a[0], 0, 9) && in(a[1], 0, 999) ? lawTells(a[0], a[1], a[2]) : -1;
                case "propose":
                    if (!school(a[1]) || !school(a[2]) || a[1] == a[2] || schools.get(a[1])[1] != a[0] || schools.get(a[2])[1] != a[0]) return -1;
                    if (!in(a[3], 1, 9999999) || !in(a[4], thisYear() + 1, 9) || moves.size() == 20) return -1;
                    moves.add(new int[] {a[0], a[1], a[2], a[3], a[4], today});
                    objections.add(new ArrayList<>());
                    return moves.size() - 1;
                case "object":
                    if (!in(a[0], 0, moves.size() - 1) || !school(a[1]) || adopted.contains(a[0])) return 0;
                    if (schools.get(a[1])[1] != moves.get(a[0])[0] || !isOpen(a[1], thisYear())) return 0;
                    if (objections.get(a[0]).contains(a[1])) return 0;
                    objections.get(a[0]).add(a[1]);
                    return 1;
                case "adopt": return adopt(a[0]);
                case "foretold":
                    return school(a[0]) && in(a[1], 0, 2) && in(a[2], 1, 5) && in(a[3], 0, 2) ? foretold(a[0], a[1], a[2], a[3]) : -1;
                case "doubt": return school(a[0]) && in(a[1], 0, 9) ? doubt(a[0], a[1]) : -1;
                case "losers":
                    if (aside == null || !in(a[0], 0, 9)) return -1;
                    List<Sum> by = row(aside, a[0], today, -1, -1);
                    List<Sum> is = row(a[0], today);
                    int losers = 0;
                    for (int s = 0; s < schools.size(); s++) {
                        if (isOpen(s, a[0]) && by.get(s).whole().compareTo(is.get(s).whole()) < 0) losers++;
                    }
                    return losers;
                case "count": return count(a[0]);
                default: return coins(call, a);
            }
        }

        int count(int what) {
            int open = 0;
            for (int s = 0; s < schools.size(); s++) if (isOpen(s, thisYear())) open++;
            int[] all = {today, schools.size(), open, marks.size(), joins.size(), laws.size(), moves.size(), adopted.size(), tape.length(), aside == null ? 0 : 1};
            return in(what, 0, 9) ? all[what] : -1;
        }

        long coins(String call, int[] a) {
            if (call.equals("rates")) return rates(a[0], a[1], a[2], a[3], a[4]);
            int year = call.equals("all") ? a[0] : a[1];
            if (!in(year, 0, 9) || !call.equals("all") && !school(a[0])) return NOTHING;
            switch (call) {
                case "sum": return in(a[2], 0, 999) ? row(year, a[2]).get(a[0]).whole().longValueExact() : NOTHING;
                case "led": return in(a[2], 0, 34) ? led(a[0], year, a[2]) : NOTHING;
                case "due": return due(a[0], year);
                case "all":
                    if (!in(a[1], 0, 999)) return NOTHING;
                    BigInteger all = BigInteger.ZERO;
                    for (Sum s : row(year, a[1])) all = all.add(s.whole());
                    return all.longValueExact();
                case "other":
                    return aside == null ? NOTHING : row(aside, year, today, -1, -1).get(a[0]).whole().longValueExact();
                case "edge":
                    if (!in(a[2], 0, 4) || !isOpen(a[0], year)) return NOTHING;
                    BigInteger with = row(law(year, today), year, today, a[0], a[2]).get(a[0]).whole();
                    return with.subtract(row(year, today).get(a[0]).whole()).longValueExact();
                default: throw new IllegalStateException(call);
            }
        }
    }

    /** Makes up the calls of one run. */
    static final class Driver {
        final Random random;
        final int seed;
        final Map<String, int[]> seen;
        final PupilCoin coin = new PupilCoin();
        final Model model = new Model();
        final List<String> story = new ArrayList<>();
        final boolean tame;
        // The most days from one call of day() to the next: some runs stay in a year, some see all ten.
        final int pace;
        int calls;
        boolean differs;

        Driver(int seed, Map<String, int[]> seen) {
            this.seed = seed;
            this.seen = seen;
            random = new Random(seed);
            tame = seed % 4 != 0;
            pace = new int[] {35, 60, 120, 200}[seed / 4 % 4];
        }

        int pick(int bound) {
            return random.nextInt(bound);
        }

        boolean one(int of) {
            return pick(of) == 0;
        }

        long ask(String call, int... a) {
            if (calls >= CALLS || differs) return -1;
            calls++;
            if (!tame && a.length > 0 && one(60) && !call.equals("feed")) a[pick(a.length)] = wild();
            long want = model.answer(call, a.clone());
            long got;
            try {
                got = Calls.answer(coin, call, a);
            } catch (RuntimeException e) {
                got = Long.MIN_VALUE;
                System.out.println("run " + seed + " throws " + e);
            }
            story.add(call + Arrays.toString(a) + " = " + got);
            int[] tally = seen.computeIfAbsent(call, k -> new int[4]);
            tally[want == -1 || want == Model.NOTHING ? 0 : want == 0 ? 1 : want < 0 ? 2 : 3]++;
            if (got != want) {
                differs = true;
                System.out.println("run " + seed + ", call " + calls + ": " + call + Arrays.toString(a) + " answered " + got + ", the model says " + want);
            }
            return want;
        }

        int wild() {
            int[] all = {Integer.MIN_VALUE, Integer.MAX_VALUE, -1, random.nextInt(), 1 << pick(32), 10, 100, 12, 16, 1000};
            return all[pick(all.length)];
        }

        boolean run() {
            int n = 1 + pick(12);
            for (int i = 0; i < n; i++) ask("school", pick(tame ? 3 : 8), pick(3), pick(16));
            for (int i = pick(24); i > 0; i--) ask("road", pick(16), pick(16), 1 + pick(one(9) ? 999 : 40));
            for (int w = 0; w < 4; w++) ask("need", w, pick(101));
            if (!one(8)) tellFormula(0);
            for (int s = 0; s < n; s++) {
                for (int what = 0; what < 5; what++) {
                    if (!one(4)) ask("mark", s, 0, what, pick(tame ? 60 : 10000));
                }
            }
            while (calls < CALLS && !differs) step();
            if (differs) {
                System.out.println(String.join("\n", story.subList(Math.max(0, story.size() - 3), story.size())));
                System.out.println("laws in the model: " + model.laws.size());
            }
            return !differs;
        }

        int year() {
            return one(20) ? pick(14) - 2 : one(4) ? pick(10) : Math.min(9, Math.max(0, model.thisYear() + pick(4) - 1));
        }

        int aSchool() {
            return one(30) ? pick(16) - 2 : pick(Math.max(1, model.schools.size()));
        }

        int known() {
            return one(30) ? pick(1100) - 50 : one(2) ? model.today : one(2) ? 100 * pick(10) : Math.max(0, model.today - pick(40));
        }

        void mark() {
            int v = one(40) ? pick(12000) - 1000 : one(6) ? pick(3) : pick(tame ? 60 : 10000);
            ask("mark", aSchool(), one(5) ? year() : Math.max(0, model.thisYear() - pick(2)), one(20) ? pick(9) - 1 : pick(6), v);
        }

        void step() {
            int kind = pick(100);
            if (kind < 22) mark();
            else if (kind < 24) tellFormula(year());
            else if (kind < 26) tellBeside();
            else if (kind < 28) ask("day", one(40) ? pick(1100) : model.today + pick(pace));
            else if (kind < 29) ask("join", aSchool(), aSchool(), Math.min(10, model.thisYear() + pick(4)));
            else if (kind < 31) propose();
            else if (kind < 33) ask("object", pick(Math.max(1, model.moves.size() + 1)), aSchool());
            else if (kind < 37) ask("adopt", pick(Math.max(1, model.moves.size() + 1)) - (one(30) ? 1 : 0));
            else if (kind < 38) ask(one(2) ? "need" : "open", one(20) ? pick(12) - 2 : pick(8), one(20) ? pick(130) - 10 : pick(10));
            else if (kind < 39) ask("road", pick(16), pick(16), one(10) ? pick(1100) - 50 : one(3) ? 0 : pick(50));
            else if (kind < 41) ask("far", aSchool(), year());
            else if (kind < 43) ask("marked", aSchool(), year(), pick(7) - (one(20) ? 1 : 0), known());
            else if (kind < 46) ask("law", year(), known(), pick(9) - (one(20) ? 1 : 0));
            else if (kind < 54) ask("sum", aSchool(), year(), known());
            else if (kind < 60) ask("led", aSchool(), year(), one(2) ? pick(one(4) ? 30 : 7) : one(30) ? pick(50) - 8 : 29 + pick(6));
            else if (kind < 67) ask("due", aSchool(), year());
            else if (kind < 70) ask("all", year(), known());
            else if (kind < 74) ask("other", aSchool(), year());
            else if (kind < 77) ask("losers", year());
            else if (kind < 83) ask("edge", aSchool(), year(), one(20) ? pick(9) - 2 : pick(5));
            else if (kind < 87) rates();
            else if (kind < 91) foretold();
            else if (kind < 95) ask("doubt", aSchool(), Math.max(0, year()));
            else if (kind < 97) ask("count", pick(11) - (one(20) ? 1 : 0));
            else if (kind < 98 && model.schools.size() < 12) ask("school", pick(10) - 1, pick(5) - 1, pick(18) - 1);
            else if (kind < 98) ask("fault");
            else if (one(3)) ask("feed", random.nextInt(), random.nextInt(), 0x6c696e65, 0x20613d31, 0x3b202020);
            else if (one(2)) ask("formula", pick(800) - 20, year());
            else ask("beside", pick(800) - 20);
        }

        void propose() {
            int from = aSchool();
            int to = aSchool();
            for (int i = 0; i < 20 && model.school(from) && model.school(to) && model.schools.get(to)[1] != model.schools.get(from)[1]; i++) to = aSchool();
            int council = one(20) || !model.school(from) ? pick(5) - 1 : model.schools.get(from)[1];
            int coins = one(20) ? pick(3) : one(9) ? 9999998 + pick(3) : 1 + pick(tame ? 300 : 100000);
            long number = ask("propose", council, from, to, coins, model.thisYear() + (one(9) ? 0 : 1 + pick(2)));
            if (number < 0 || one(3)) return;
            if (one(3)) ask("object", (int) number, from);
            ask("day", model.today + 9 + pick(3));
            ask("adopt", (int) number);
            if (one(2)) ask("led", from, moveYear(number), 34);
            if (one(2)) ask("due", to, moveYear(number));
        }

        int moveYear(long number) {
            return number < 0 || number >= model.moves.size() ? 0 : model.moves.get((int) number)[4];
        }

        /** Mostly of a school and an age that have a mark of a year that isn't later than this one. */
        void foretold() {
            int school = aSchool();
            int age = one(20) ? pick(6) - 1 : pick(3);
            for (int i = 0; i < 40 && !model.marks.isEmpty(); i++) {
                int[] m = model.marks.get(pick(model.marks.size()));
                if (m[1] == 0 || m[1] > model.thisYear() || m[2] > 2 || one(40)) continue;
                school = m[0];
                age = m[2];
            }
            int n = one(20) ? pick(9) - 1 : 1 + pick(5);
            for (int what = 0; what < 3; what++) ask("foretold", school, age, n, what);
            if (one(20)) ask("foretold", school, age, n, one(2) ? 3 : -1);
        }

        void rates() {
            int year = year();
            long all = Model.in(year, 0, 9) && model.law(year, model.today) != null ? model.row(year, model.today).stream().mapToLong(s -> s.bare.longValueExact()).sum() : 0;
            long t = one(10) ? random.nextInt() : one(3) ? all : (long) (all * random.nextDouble() * 2);
            Text law = Model.in(year, 0, 9) ? model.law(year, model.today) : null;
            int lines = law == null ? 1 : Math.max(1, law.lines.size());
            int a = one(20) ? pick(7) - 1 : pick(lines);
            int b = one(20) ? pick(7) - 1 : lines < 2 ? a : (a + 1 + pick(lines - 1)) % lines;
            int held = (int) Math.max(-5, Math.min(1000000000, t));
            for (int what = 0; what < 4; what++) ask("rates", year, a, b, held, what);
            if (one(10)) ask("rates", year, a, b, held, one(2) ? 4 : -1);
        }

        void tellFormula(int year) {
            int n = feed(text());
            if (n >= 0) ask("formula", n, year);
            ask("fault");
        }

        void tellBeside() {
            int n = feed(text());
            if (n >= 0) ask("beside", n);
            ask("fault");
        }

        /** A text; mostly a sound and short one, so that there's something to reckon by. */
        String text() {
            String text = new Maker(random, tame).text();
            for (int i = 0; i < 50 && (text.length() > 200 || faultOf(text) != -1) && !one(12); i++) text = new Maker(random, tame).text();
            return text;
        }

        /** Feeds a text; the tape is emptied ahead of it. */
        int feed(String text) {
            if (model.tape.length() > 0) ask("beside", one(2) ? 0 : model.tape.length());
            if (text.length() > 700) text = text.substring(0, 700);
            StringBuilder padded = new StringBuilder(text);
            while (padded.length() % 20 != 0) padded.append(one(2) ? ' ' : ';');
            for (int i = 0; i < padded.length(); i += 20) {
                int[] a = new int[5];
                for (int j = 0; j < 20; j++) a[j / 4] = a[j / 4] << 8 | padded.charAt(i + j) & 255;
                ask("feed", a);
            }
            return calls < CALLS ? text.length() : -1;
        }
    }

    /** Makes up texts: sound ones, and ones with a fault. */
    static final class Maker {
        final Random random;
        final boolean tame;
        final StringBuilder out = new StringBuilder();
        final List<String> names = new ArrayList<>();

        Maker(Random random, boolean tame) {
            this.random = random;
            this.tame = tame;
        }

        int pick(int bound) {
            return random.nextInt(bound);
        }

        boolean one(int of) {
            return pick(of) == 0;
        }

        void put(String t) {
            boolean touch = out.length() > 0 && Character.isLetterOrDigit(out.charAt(out.length() - 1)) && Character.isLetterOrDigit(t.charAt(0));
            if (touch ? !one(60) : one(12)) out.append(one(5) ? "\n" : one(6) ? "  " : " ");
            out.append(t);
        }

        String text() {
            int statements = one(20) ? 28 + pick(6) : 1 + pick(7);
            for (int i = 0; i < statements; i++) statement(statements > 20, i < 2);
            if (tame && one(2)) setting("move", pick(30), 102);
            if (one(4)) spoil();
            return out.toString();
        }

        void spoil() {
            for (int i = 1 + pick(2); i > 0 && out.length() > 0; i--) {
                int at = pick(out.length());
                if (one(3)) out.deleteCharAt(at);
                else if (one(4)) out.setLength(at);
                else if (one(2)) out.insert(at, junk());
                else out.setCharAt(at, junk().charAt(0));
            }
        }

        String junk() {
            String[] all = {"(", ")", "{", "}", ";", ",", "=", "<", ">", "+", "-", "*", "/", "7", "a", "not ", " if ", " and ", " or ", "min(", "max", "line", "A", "\0", "\u00ff", ".", " ", "\n", "\t", "12345678", "floor", "share ", "order cap", "heads", "abcdefghi"};
            return all[pick(all.length)];
        }

        void statement(boolean small, boolean early) {
            int kind = early ? 0 : pick(10);
            if (kind < 5 || small && one(2)) line(small);
            else if (kind == 5) setting("floor", 80 + pick(40), 1001);
            else if (kind == 6) setting("cap", 80 + pick(60), 1001);
            else if (kind == 7) setting("total", pick(tame ? 20000 : 9999999), 10000001);
            else if (kind == 8 && !one(3)) setting("move", pick(30), 102);
            else if (kind == 8) {
                put("order");
                put(one(20) ? "move" : one(2) ? "cap" : "floor");
                put(";");
            } else {
                put("share");
                put(names.isEmpty() || one(20) ? "zz" : names.get(pick(names.size())));
                put(";");
            }
        }

        void setting(String key, int usual, int bound) {
            put(key);
            int v = one(10) ? one(2) ? bound - 1 - pick(2) : pick(bound) : usual;
            put(one(20) ? "00" + v : "" + v);
            put(";");
        }

        void line(boolean small) {
            put("line");
            String name = one(30) && !names.isEmpty() ? names.get(0) : one(40) ? KEYS.get(pick(KEYS.size())) : one(30) ? "abcdefgh" : "" + (char) ('a' + pick(26)) + (char) ('a' + pick(26));
            if (name.equals("if") || name.equals("or")) name = "ok";
            put(name);
            put("=");
            if (small) {
                put("" + pick(300));
            } else {
                ex(one(12) ? 9 : 2);
                if (one(2)) {
                    put("if");
                    cond(one(12) ? 9 : 2);
                }
            }
            put(";");
            if (!names.contains(name)) names.add(name);
        }

        void ex(int depth) {
            prod(depth);
            for (int i = pick(3); i > 0; i--) {
                put(one(3) ? "-" : "+");
                prod(depth);
            }
        }

        void prod(int depth) {
            atom(depth);
            for (int i = one(2) ? 1 : 0; i > 0; i--) {
                put(one(3) ? "/" : "*");
                atom(depth);
            }
        }

        void atom(int depth) {
            boolean deep = depth > 2;
            int kind = depth == 0 ? pick(6) : deep && out.length() < 300 ? 6 + pick(4) : pick(10);
            if (kind < 2) put("" + (one(30) ? 9999999 : one(40) ? 0 : pick(tame ? 40 : 100000)));
            else if (kind < 4) put(WORDS.get(pick(WORDS.size())));
            else if (kind < 6) put(names.isEmpty() || one(60) ? WORDS.get(pick(4)) : names.get(pick(names.size())));
            else if (kind < 8) {
                put("(");
                if (deep) deepEx(depth - 1);
                else ex(depth - 1);
                put(")");
            } else {
                put(one(2) ? "min" : "max");
                put("(");
                if (deep) deepEx(depth - 1);
                else ex(depth - 1);
                put(",");
                ex(0);
                put(")");
            }
        }

        void deepEx(int depth) {
            if (one(3)) put(one(2) ? "1+" : "heads*");
            atom(depth);
        }

        void cond(int depth) {
            one(depth, 0);
            for (int i = one(3) ? 1 + pick(2) : 0; i > 0; i--) {
                put(one(2) ? "or" : "and");
                one(depth > 2 ? 1 : depth, 0);
            }
        }

        void one(int depth, int guard) {
            int kind = depth == 0 ? 2 : depth > 2 ? pick(3) : pick(5);
            if (kind == 0) {
                put("not");
                one(depth - 1, guard);
            } else if (kind == 1) {
                put("{");
                cond(depth - 1);
                put("}");
            } else {
                if (depth > 2) deepEx(depth);
                else ex(Math.min(1, depth));
                put(one(3) ? "=" : one(2) ? "<" : ">");
                ex(0);
            }
        }
    }
}
