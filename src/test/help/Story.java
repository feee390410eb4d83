import java.util.ArrayList;
import java.util.Arrays;
import java.util.List;

/**
 * A run of calls told as lines, so that it can be told again on a new object.
 * A line is a call, "mark 0 1 2 30", or a text on the tape: "tape: TEXT" feeds it, "formula 3: TEXT"
 * and "beside: TEXT" feed it and have it read. No object is used for more than 512 calls.
 */
final class Story {
    static final int CALLS = 512;
    static final long NOTHING = -2000000000000L;

    private final List<String> lines;
    private final List<Call> calls = new ArrayList<>();
    private List<String> asked;

    private record Call(String name, int[] a) {
        public String toString() {
            return name + Arrays.toString(a);
        }
    }

    Story(String... lines) {
        this.lines = List.of(lines);
        for (String line : lines) read(line);
        if (calls.size() > CALLS) throw new IllegalArgumentException("a story of " + calls.size() + " calls");
    }

    Story then(String... more) {
        List<String> all = new ArrayList<>(lines);
        all.addAll(List.of(more));
        return new Story(all.toArray(new String[0]));
    }

    private void read(String line) {
        int text = line.indexOf(": ");
        String[] words = (text < 0 ? line : line.substring(0, text)).split(" ");
        int[] a = new int[words.length - 1];
        for (int i = 0; i < a.length; i++) a[i] = Integer.parseInt(words[i + 1]);
        if (text < 0) {
            calls.add(new Call(words[0], a));
            return;
        }
        String told = line.substring(text + 2);
        feed(told);
        if (words[0].equals("formula")) calls.add(new Call("formula", new int[] {told.length(), a[0]}));
        if (words[0].equals("beside")) calls.add(new Call("beside", new int[] {told.length()}));
    }

    /** What fills up the last twenty bytes is no part of any formula. */
    private void feed(String text) {
        for (int i = 0; i < text.length(); i += 20) {
            int[] a = new int[5];
            for (int j = 0; j < 20; j++) {
                int b = i + j < text.length() ? text.charAt(i + j) & 255 : '!';
                a[j / 4] = a[j / 4] << 8 | b;
            }
            calls.add(new Call("feed", a));
        }
    }

    PupilCoin tell() {
        PupilCoin x = new PupilCoin();
        for (Call c : calls) Calls.answer(x, c.name, c.a);
        return x;
    }

    /** What the last call answers. */
    long last() {
        PupilCoin x = new PupilCoin();
        long last = 0;
        for (Call c : calls) last = Calls.answer(x, c.name, c.a);
        return last;
    }

    /** What the last call answers if something is asked ahead of each call, which must change nothing. */
    long lastWatched() {
        if (3 * calls.size() > CALLS) return last();
        PupilCoin x = new PupilCoin();
        long last = 0;
        for (Call c : calls) {
            x.edge(0, 9, 0);
            x.due(0, 9);
            last = Calls.answer(x, c.name, c.a);
        }
        return last;
    }

    /** All that can be asked afterwards, and what further calls would answer. */
    List<String> asked() {
        if (asked != null) return asked;
        asked = new ArrayList<>();
        PupilCoin x = tell();
        int used = calls.size();
        for (Call c : questions(x.count(1), x.count(0))) {
            if (used == CALLS) {
                x = tell();
                used = calls.size();
            }
            asked.add(c + " = " + Calls.answer(x, c.name, c.a));
            used++;
        }
        x = tell();
        for (Call c : deeds(x.count(1), x.count(0), x.count(8), x.count(6))) {
            if (c.name.equals("again")) x = tell();
            else asked.add("then " + c + " = " + Calls.answer(x, c.name, c.a));
        }
        return asked;
    }

    /** The first answer that differs, or null. */
    String differs(Story from) {
        List<String> mine = asked();
        List<String> others = from.asked();
        for (int i = 0; i < mine.size() && i < others.size(); i++) {
            if (!mine.get(i).equals(others.get(i))) return mine.get(i) + ", it was " + others.get(i);
        }
        return mine.size() == others.size() ? null : "not as much can be asked";
    }

    private static List<Call> questions(int schools, int today) {
        List<Call> q = new ArrayList<>();
        for (int what = 0; what < 10; what++) add(q, "count", what);
        add(q, "fault");
        int[] days = {0, Math.max(0, today - 1), today, 999};
        for (int y = 0; y < 10; y++) {
            add(q, "losers", y);
            for (int d : days) {
                add(q, "all", y, d);
                for (int what = 0; what < 8; what++) add(q, "law", y, d, what);
            }
            for (int what = 0; what < 4; what++) add(q, "rates", y, 0, 1, 999999999, what);
            for (int s = 0; s <= schools; s++) ofSchool(q, s, y, days);
        }
        for (int s = 0; s < schools; s++) {
            for (int age = 0; age < 3; age++) {
                for (int what = 0; what < 3; what++) add(q, "foretold", s, age, 2, what);
            }
        }
        return q;
    }

    private static void ofSchool(List<Call> q, int s, int y, int[] days) {
        for (String name : List.of("open", "far", "due", "other", "doubt")) add(q, name, s, y);
        for (int d : days) {
            add(q, "sum", s, y, d);
            for (int what = 0; what < 6; what++) add(q, "marked", s, y, what, d);
        }
        for (int what = 0; what < 5; what++) add(q, "edge", s, y, what);
        for (int k : new int[] {0, 1, 2, 30, 31, 32, 33, 34}) add(q, "led", s, y, k);
    }

    /** What is seen only by doing more; "again" stands where a new object is to be made. */
    private static List<Call> deeds(int schools, int today, int taped, int proposals) {
        List<Call> d = new ArrayList<>();
        add(d, "feed", 0x6c696e65, 0x20613d38, 0x3b202020, 0x20202020, 0x20202020);
        add(d, "school", 0, 0, 0);
        add(d, "mark", 0, 0, 0, 1);
        add(d, "join", 0, 1, 9);
        add(d, "propose", 0, 0, 1, 1, 9);
        add(d, "formula", taped, 9);
        add(d, "fault");
        for (int what = 0; what < 8; what++) add(d, "law", 9, today, what);
        add(d, "formula", 0, 9);
        add(d, "again");
        add(d, "beside", taped);
        add(d, "fault");
        for (int s = 0; s < schools; s++) add(d, "other", s, 9);
        for (int p = 0; p < proposals; p++) {
            for (int s = 0; s < schools && proposals * schools < 100; s++) add(d, "object", p, s);
        }
        add(d, "again");
        add(d, "day", today + 10);
        for (int p = 0; p < proposals; p++) add(d, "adopt", p);
        for (int s = 0; s < schools; s++) add(d, "led", s, Math.min(9, today / 100 + 1), 34);
        return d;
    }

    private static void add(List<Call> list, String name, int... a) {
        list.add(new Call(name, a));
    }
}
