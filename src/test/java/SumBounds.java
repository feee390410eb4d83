/** Each sentence that names a bound of SUMS, DUE and what's told of them: a step inside it, a step outside. */
public final class SumBounds {
    static final long NOTHING = Story.NOTHING;

    public static void main(String[] args) {
        notOpen();
        yearAhead();
        knownByDay();
        asTheyAre();
        conditions();
        last();
        lastBegins();
        base();
        baseHeld();
        noBase();
        headsThen();
        joinedBase();
        floors();
        caps();
        orders();
        bareTogether();
        totals();
        parts();
        shareLine();
        led();
        ledSteps();
        putRight();
        putRightJoined();
        moved();
        losers();
        edge();
        rates();
        rateTies();
        ratesCut();
        askedToday();
        foretold();
        foretoldKnown();
        doubts();
        doubtChoice();
        all();
        Due.end();
    }

    static Story land(int schools) {
        String[] lines = new String[schools];
        for (int s = 0; s < schools; s++) lines[s] = "school 0 0 " + s;
        return new Story(lines);
    }

    /** Sums of one school after another. */
    static void sums(Story story, int year, int known, long... want) {
        for (int s = 0; s < want.length; s++) Due.is(story, "sum " + s + " " + year + " " + known, want[s]);
    }

    static void leds(Story story, int school, int year, long floor, long cap, long share) {
        Due.is(story, "led " + school + " " + year + " 30", floor);
        Due.is(story, "led " + school + " " + year + " 31", cap);
        Due.is(story, "led " + school + " " + year + " 32", share);
    }

    static void notOpen() {
        Due.says("SUM of a SCHOOL for a YEAR: that isn't OPEN in it: 0, no lines.");
        Story story = land(2).then("formula 0: line a=heads*10+5;floor 120;total 1000;", "beside: line a=7;",
            "mark 0 0 0 3", "mark 1 0 0 4", "mark 0 1 0 3", "mark 1 1 0 4", "mark 0 2 0 3", "mark 1 2 0 4", "join 0 1 3");
        for (int y = 0; y < 10; y++) {
            boolean open = y < 3;
            long sum = story.then("sum 1 " + y + " 0").last();
            checkOpen("sum 1 " + y, sum != 0, open);
            checkOpen("other 1 " + y, story.then("other 1 " + y).last() == 7, open);
            checkOpen("edge 1 " + y, story.then("edge 1 " + y + " 0").last() != NOTHING, open);
            for (int k = 0; k < 35 && !open; k++) Due.is(story, "led 1 " + y + " " + k, 0);
            if (!open) Due.is(story, "sum 1 " + y + " 999", 0);
            if (!open) Due.is(story, "due 1 " + y, 0);
            if (!open) Due.is(story, "other 1 " + y, 0);
        }
        Due.is(story, "led 1 2 0", 45);
        Due.is(story, "led 0 4 0", 5);
        Due.is(story, "led 0 3 0", 75);
        // One that isn't OPEN has no part of the rest, and nothing is left for it.
        Due.is(story, "sum 0 3 0", 1000);
    }

    static void checkOpen(String what, boolean got, boolean want) {
        Due.is(what + " is of one that is OPEN", got ? 1 : 0, want ? 1 : 0);
    }

    static void yearAhead() {
        Due.says("Words: marks of the YEAR ahead (YEAR 0: of it); heads: first, lower, upper together");
        String[] words = {"first", "lower", "upper", "meals", "special"};
        for (int what = 0; what < 5; what++) {
            Story story = land(1).then("formula 0: line a=" + words[what] + ";line b=heads;");
            for (int y = 0; y < 10; y++) story = story.then("mark 0 " + y + " " + what + " " + (10 + y));
            for (int y = 0; y < 10; y++) {
                long v = y == 0 ? 10 : 9 + y;
                Due.is(story, "led 0 " + y + " 0", v);
                Due.is(story, "led 0 " + y + " 1", what < 3 ? v : 0);
            }
        }
        Story all = land(1).then("mark 0 0 5 77", "formula 0: line a=first+lower+upper+heads+meals+special;");
        Due.is(all, "sum 0 0 0", 0);
        Due.is(all, "sum 0 1 0", 0);
        Story three = land(1).then("mark 0 0 0 1", "mark 0 0 1 10", "mark 0 0 2 100", "mark 0 0 3 1000", "mark 0 0 4 5000", "formula 0: line a=heads;");
        Due.is(three, "sum 0 0 0", 111);
        Due.is(three, "sum 0 1 0", 111);
        Due.is(three, "sum 0 2 0", 0);
        Story most = land(1).then("mark 0 0 0 9999", "mark 0 0 1 9999", "mark 0 0 2 9999", "formula 0: line a=heads;");
        Due.is(most, "sum 0 0 0", 29997);
    }

    static void knownByDay() {
        Due.says("SUM of a SCHOOL for a YEAR as KNOWN by a DAY: KNOWN from the DAY on which they're told; the last told of those KNOWN holds; 0 without");
        Story story = land(1).then("formula 0: line a=first;", "day 50", "mark 0 0 0 4", "day 60", "mark 0 0 0 9", "mark 0 0 0 2", "day 999", "mark 0 0 0 1");
        int[] days = {0, 49, 50, 59, 60, 998, 999};
        long[] want = {0, 0, 4, 4, 2, 2, 1};
        for (int i = 0; i < days.length; i++) Due.is(story, "sum 0 0 " + days[i], want[i]);
        Due.says("Taken it's for YEARS from one on, KNOWN from TODAY.");
        Story laws = land(1).then("day 20", "formula 1: line a=5;", "day 30", "formula 1: line a=6;", "formula 3: line a=7;", "day 40", "formula 2: line a=8;");
        int[][] rows = {{0, 999, 0}, {1, 19, 0}, {1, 20, 5}, {1, 29, 5}, {1, 30, 6}, {2, 19, 0}, {2, 29, 5}, {2, 39, 6}, {2, 40, 8},
            {3, 20, 5}, {3, 29, 5}, {3, 30, 7}, {3, 40, 7}, {9, 29, 5}, {9, 30, 7}, {9, 999, 7}};
        for (int[] row : rows) Due.is(laws, "sum 0 " + row[0] + " " + row[1], row[2]);
    }

    static void asTheyAre() {
        Due.says("need: NEED of the WARD (NEED, ROADS: as they are)");
        Story story = new Story("school 3 0 0", "school 4 0 1", "formula 0: line a=need*10000+far;", "day 150", "need 3 7", "road 0 1 12");
        sums(story, 0, 0, 70012, 12);
        sums(story, 1, 0, 70012, 12);
        sums(story, 9, 999, 70012, 12);
        sums(story.then("need 3 0", "road 0 1 0"), 0, 0, 9999, 9999);
        Due.is(story.then("join 0 1 5"), "sum 0 4 0", 70012);
        Due.is(story.then("join 0 1 5"), "sum 0 5 0", 79999);
    }

    static void conditions() {
        Due.says("what EX tells, 0 if its COND doesn't hold (a later line's NAME is that)");
        Story story = land(1).then("mark 0 0 0 5", "formula 0: line a=100 if first<5;line b=a+1;line c=100 if first<6;line d=c+1;line e=100 if first>4;line f=100 if first>5;line g=100 if first=5;line h=100 if first=4;");
        long[] want = {0, 1, 100, 101, 100, 0, 100, 0};
        for (int k = 0; k < 8; k++) Due.is(story, "led 0 0 " + k, want[k]);
        Due.is(story, "sum 0 0 0", 402);
    }

    static void last() {
        Due.says("LAST of a YEAR: the SUM for the YEAR ahead (0 in YEAR 0)");
        Story story = land(1).then("formula 0: line a=last+7;");
        for (int y = 0; y < 10; y++) Due.is(story, "sum 0 " + y + " 0", 7 * (y + 1));
        Story later = land(1).then("formula 3: line a=last+7;");
        for (int y = 0; y < 10; y++) Due.is(later, "sum 0 " + y + " 0", y < 3 ? 0 : 7 * (y - 2));
        Story two = land(2).then("formula 0: line a=last*2+ward+1;total 100;share a;");
        sums(two, 0, 0, 50, 50);
        Due.is(two, "led 0 1 0", 101);
    }

    static void lastBegins() {
        Due.says("LAST: the SUM for the YEAR ahead as KNOWN by the DAY on which the YEAR BEGINS");
        for (int year = 1; year < 10; year++) {
            Story story = land(1).then("formula 0: line a=first;", "formula " + year + ": line a=last;", "mark 0 " + Math.max(0, year - 2) + " 0 3");
            String again = "mark 0 " + Math.max(0, year - 2) + " 0 8";
            int begins = 100 * year;
            Due.is(story.then("day " + (begins - 1), again), "sum 0 " + year + " 0", 8);
            Due.is(story.then("day " + begins, again), "sum 0 " + year + " 0", 8);
            Due.is(story.then("day " + (begins + 1), again), "sum 0 " + year + " 0", 3);
            Due.is(story.then("day " + (begins + 1), again), "sum 0 " + year + " 999", 3);
        }
        Due.says("A FORMULA told on the DAY on which the YEAR BEGINS is KNOWN by it (YEARS: TODAY's or later)");
        Story one = land(1).then("formula 0: line a=5;", "day 99", "formula 0: line a=6;", "formula 1: line a=last;");
        Due.is(one, "sum 0 1 99", 6);
        // From DAY 100 on YEAR 0 takes no FORMULA any more, and LAST of YEAR 1 can't change by one.
        Due.is(one.then("day 100"), "formula 0 0", -2);
    }

    /** One school with 100 * heads in year 0's sums and another number of heads in year 1. */
    static Story based(String first, int then, int now, String second) {
        Story story = land(1).then("formula 0: " + first, "formula 2: " + second);
        if (then > 0) story = story.then("mark 0 0 0 " + then);
        return now > 0 ? story.then("mark 0 1 0 " + now) : story;
    }

    static void base() {
        Due.says("BASE: LAST times heads now by heads then, cut");
        Due.is(based("line a=100;", 3, 2, "floor 100;"), "sum 0 2 0", 66);
        Due.is(based("line a=100;", 3, 3, "floor 100;"), "sum 0 2 0", 100);
        Due.is(based("line a=100;", 3, 1, "floor 100;"), "sum 0 2 0", 33);
        Due.is(based("line a=100;", 3, 4, "floor 100;"), "sum 0 2 0", 133);
        Due.is(based("line a=100;", 3, 300, "floor 100;"), "sum 0 2 0", 10000);
        Due.is(based("line a=100;", 1, 9999, "floor 100;"), "sum 0 2 0", 999900);
        Due.is(based("line a=100;", 9999, 1, "floor 100;line a=0-5;"), "sum 0 2 0", 0);
        Due.is(based("line a=100;", 3, 2, "cap 100;line a=1000;"), "sum 0 2 0", 66);
        Due.is(based("line a=0-100;", 3, 2, "cap 100;"), "sum 0 2 0", -66);
        Due.is(based("line a=0-100;", 3, 2, "floor 100;line a=0-1000;"), "sum 0 2 0", -66);
        Due.is(based("line a=0-100;", 3, 2, "floor 100;line a=0-66;"), "sum 0 2 0", -66);
        Due.is(based("line a=0-100;", 3, 2, "floor 100;line a=0-67;"), "led 0 2 30", 1);
        // The fraction is cut once in BASE and once more at the hundredths.
        Due.is(based("line a=100;", 3, 2, "floor 50;"), "sum 0 2 0", 33);
        Due.is(based("line a=200;", 3, 1, "floor 50;"), "sum 0 2 0", 33);
        Due.is(based("line a=5;", 3, 2, "floor 100;"), "sum 0 2 0", 3);
        Due.is(based("line a=5;", 3, 2, "floor 34;"), "sum 0 2 0", 1);
        Due.is(based("line a=5;", 3, 2, "floor 33;"), "sum 0 2 0", 0);
    }

    static void baseHeld() {
        Due.says("BASE: held to from -10^10 to 10^10");
        String up = "line a=9999999*11;line b=9999999*11;";
        String down = "line a=0-9999999*11;line b=0-9999999*11;";
        long[] want = {9800000000L, 10000000000L, 10000000000L, 10000000000L};
        int[] now = {49, 50, 51, 9999};
        for (int i = 0; i < now.length; i++) {
            Due.is(based(up, 1, now[i], "floor 100;"), "sum 0 2 0", want[i]);
            Due.is(based(up, 1, now[i], "floor 1000;"), "sum 0 2 0", 10 * want[i]);
            Due.is(based(down, 1, now[i], "cap 100;"), "sum 0 2 0", -want[i]);
            Due.is(based(down, 1, now[i], "cap 1000;"), "sum 0 2 0", -10 * want[i]);
        }
        // One coin below and at the bound: LAST 10^8 + 10^8 - 1 by 1 times 50 is 50 below it.
        String below = "line a=9999999*11;line b=9999999*10+9;";
        Due.is(based(below, 1, 50, "floor 100;"), "sum 0 2 0", 9999999950L);
        Due.is(based(below, 2, 100, "floor 100;"), "sum 0 2 0", 9999999950L);
        Due.is(based(below, 1, 51, "floor 100;"), "sum 0 2 0", 10000000000L);
    }

    static void noBase() {
        Due.says("BASE: none in YEAR 0, with LAST 0, or without heads then");
        Due.is(land(1).then("mark 0 0 0 5", "formula 0: cap 0;line a=9;"), "sum 0 0 0", 9);
        Due.is(land(1).then("mark 0 0 0 5", "formula 0: line a=9;", "formula 1: cap 0;line a=9;"), "sum 0 1 0", 0);
        Due.is(land(1).then("mark 0 0 0 5", "formula 0: floor 50;line a=0-9;"), "sum 0 0 0", -9);
        Due.is(based("line a=0;", 1, 1, "cap 0;line a=9;"), "sum 0 2 0", 9);
        Due.is(based("line a=1;", 1, 1, "cap 0;line a=9;"), "sum 0 2 0", 0);
        Due.is(based("line a=0-1;", 1, 1, "cap 0;line a=9;"), "sum 0 2 0", 0);
        Due.is(based("line a=1;", 0, 1, "cap 0;line a=9;"), "sum 0 2 0", 9);
        Due.is(based("line a=0;", 1, 1, "floor 0;line a=0-9;"), "sum 0 2 0", -9);
        Due.is(based("line a=1;", 1, 1, "floor 0;line a=0-9;"), "sum 0 2 0", 0);
        Due.is(based("line a=1;", 0, 1, "floor 0;line a=0-9;"), "sum 0 2 0", -9);
        // Without heads now there is a BASE: it's 0.
        Due.is(based("line a=1;", 1, 0, "cap 100;line a=9;"), "sum 0 2 0", 0);
        Due.is(based("line a=1;", 1, 0, "floor 100;line a=0-9;"), "sum 0 2 0", 0);
        // Told heads of 0 are no heads either.
        Due.is(land(1).then("mark 0 0 0 0", "mark 0 1 0 1", "formula 0: line a=1;", "formula 2: cap 0;line a=9;"), "sum 0 2 0", 9);
        // Each of the three kinds of heads is one; meals aren't.
        for (int what = 0; what < 5; what++) {
            Story one = land(1).then("mark 0 0 " + what + " 1", "formula 0: line a=1;", "formula 2: cap 0;line a=9;");
            Due.is(one, "sum 0 2 0", what < 3 ? 0 : 9);
        }
    }

    static void headsThen() {
        Due.says("heads then (marks that SUM went by)");
        // YEAR 1's LAST went by marks of YEAR 0 as KNOWN by DAY 100.
        Story story = land(1).then("mark 0 0 0 2", "formula 0: line a=600;", "formula 1: floor 100;");
        Due.is(story, "sum 0 1 0", 600);
        Due.is(story.then("day 99", "mark 0 0 0 3"), "sum 0 1 98", 400);
        Due.is(story.then("day 99", "mark 0 0 0 3"), "sum 0 1 99", 600);
        Due.is(story.then("day 100", "mark 0 0 0 3"), "sum 0 1 99", 400);
        Due.is(story.then("day 100", "mark 0 0 0 3"), "sum 0 1 100", 600);
        Due.is(story.then("day 101", "mark 0 0 0 3"), "sum 0 1 100", 600);
        Due.is(story.then("day 101", "mark 0 0 0 3"), "sum 0 1 101", 900);
        for (int year = 2; year < 10; year++) {
            Story later = land(1).then("formula 0: line a=600;", "formula " + year + ": floor 100;",
                "mark 0 " + (year - 2) + " 0 2", "mark 0 " + (year - 1) + " 0 5");
            String again = "mark 0 " + (year - 2) + " 0 3";
            Due.is(later, "sum 0 " + year + " 0", 1500);
            Due.is(later.then("day " + 100 * year, again), "sum 0 " + year + " 0", 1000);
            Due.is(later.then("day " + (100 * year + 1), again), "sum 0 " + year + " 999", 1500);
        }
    }

    static void joinedBase() {
        Due.says("heads then of all that are joined now; LAST, marks of both are the taker's in a YEAR in which it's joined");
        Story story = land(3).then("formula 0: line a=heads*100;", "formula 2: floor 100;",
            "mark 0 0 0 2", "mark 1 0 0 3", "mark 2 0 0 5", "mark 0 1 0 1", "mark 1 1 0 4", "mark 2 1 0 15");
        sums(story, 2, 0, 100, 400, 1500);
        sums(story.then("join 0 1 2"), 2, 0, 500, 0, 1500);
        sums(story.then("join 0 1 2", "join 0 2 2"), 2, 0, 2000, 0, 0);
        sums(story.then("join 0 1 2", "join 2 0 2"), 2, 0, 0, 0, 2000);
        sums(story.then("join 0 1 3"), 2, 0, 100, 400, 1500);
        // Joined a YEAR earlier: LAST is the taker's already.
        sums(story.then("join 0 1 1"), 1, 0, 500, 0, 500);
        sums(story.then("join 0 1 1"), 2, 0, 500, 0, 1500);
        // The other has no heads then, the taker has none now.
        Story halves = land(2).then("formula 0: line a=100;", "formula 2: floor 100;", "mark 0 0 0 4", "mark 1 1 0 2", "join 0 1 2");
        Due.is(halves, "sum 0 2 0", 100);
    }

    static void floors() {
        Due.says("FLOOR of f: if what it is so far is below f hundredths of BASE (cut), a line of what lacks");
        for (int bare = 97; bare < 102; bare++) {
            Story story = based("line a=199;", 1, 1, "floor 50;line a=" + bare + ";");
            leds(story, 0, 2, Math.max(0, 99 - bare), 0, 0);
            Due.is(story, "sum 0 2 0", Math.max(99, bare));
        }
        for (int f : new int[] {0, 1, 99, 100, 101, 999, 1000}) {
            Story story = based("line a=100;", 1, 1, "floor " + f + ";");
            Due.is(story, "sum 0 2 0", f);
            Due.is(based("line a=100;", 1, 1, "floor " + f + ";line a=0-1;"), "led 0 2 30", f + 1);
            Due.is(based("line a=100;", 1, 1, "floor " + f + ";line a=" + (f + 1) + ";"), "led 0 2 30", 0);
        }
        for (int bare = -101; bare < -96; bare++) {
            Story story = based("line a=0-199;", 1, 1, "floor 50;line a=0-" + -bare + ";");
            Due.is(story, "led 0 2 30", Math.max(0, -99 - bare));
        }
    }

    static void caps() {
        Due.says("CAP of c: if it's above c hundredths (cut), a line (below 0) of what's too much");
        for (int bare = 97; bare < 102; bare++) {
            Story story = based("line a=199;", 1, 1, "cap 50;line a=" + bare + ";");
            leds(story, 0, 2, 0, Math.min(0, 99 - bare), 0);
            Due.is(story, "sum 0 2 0", Math.min(99, bare));
        }
        for (int c : new int[] {0, 1, 99, 100, 101, 999, 1000}) {
            Due.is(based("line a=100;", 1, 1, "cap " + c + ";line a=5000;"), "sum 0 2 0", c);
            Due.is(based("line a=100;", 1, 1, "cap " + c + ";line a=" + (c + 1) + ";"), "led 0 2 31", -1);
            Due.is(based("line a=100;", 1, 1, "cap " + c + ";line a=" + c + ";"), "led 0 2 31", 0);
        }
        for (int bare = -101; bare < -96; bare++) {
            Story story = based("line a=0-199;", 1, 1, "cap 50;line a=0-" + -bare + ";");
            Due.is(story, "led 0 2 31", Math.min(0, -99 - bare));
        }
    }

    static void orders() {
        Due.says("In the ORDER told first, then the other.");
        long[][] floorFirst = {{70, 50, -40}, {80, 40, -40}, {100, 20, -40}, {119, 1, -40}, {120, 0, -40}, {121, 0, -41}};
        long[][] capFirst = {{70, 50, 0}, {80, 40, 0}, {81, 40, -1}, {100, 40, -20}, {120, 40, -40}, {121, 40, -41}};
        for (String order : new String[] {"", "order floor;", "order cap;order floor;"}) {
            for (long[] row : floorFirst) {
                Story story = based("line a=100;", 1, 1, order + "floor 120;cap 80;line a=" + row[0] + ";");
                leds(story, 0, 2, row[1], row[2], 0);
                Due.is(story, "sum 0 2 0", 80);
            }
        }
        for (String order : new String[] {"order cap;", "order floor;order cap;"}) {
            for (long[] row : capFirst) {
                Story story = based("line a=100;", 1, 1, order + "cap 80;floor 120;line a=" + row[0] + ";");
                leds(story, 0, 2, row[1], row[2], 0);
                Due.is(story, "sum 0 2 0", 120);
            }
        }
        // Floor and cap at the same hundredths meet from both sides.
        for (int bare = 99; bare < 102; bare++) {
            Story story = based("line a=100;", 1, 1, "floor 100;cap 100;line a=" + bare + ";");
            leds(story, 0, 2, Math.max(0, 100 - bare), Math.min(0, 100 - bare), 0);
        }
    }

    static void bareTogether() {
        Due.says("BARE: LINES together.");
        StringBuilder lines = new StringBuilder();
        for (int i = 0; i < 30; i++) lines.append("line a").append((char) ('a' + i % 26)).append(i < 26 ? "" : "b").append("=9999999*11;");
        Due.is(land(1).then("formula 0: " + lines), "sum 0 0 0", 3000000000L);
        Due.is(land(12).then("formula 0: " + lines), "all 0 0", 36000000000L);
        Due.is(land(1), "sum 0 0 0", 0);
        Due.is(land(1).then("formula 0: floor 5;cap 5;order cap;move 3;"), "sum 0 0 0", 0);
    }

    static void totals() {
        Due.says("TOTAL: the rest (TOTAL less what all SCHOOLS have so far; also below 0); each the rest times its part by all, cut towards 0, what is left coin by coin to the least SCHOOLS with a part");
        Story three = land(3).then("mark 0 0 0 1", "mark 1 0 0 1", "mark 2 0 0 1");
        long[][] rows = {{30, 0, 0, 0}, {31, 1, 0, 0}, {32, 1, 1, 0}, {33, 1, 1, 1}, {34, 2, 1, 1}, {36, 2, 2, 2},
            {29, -1, 0, 0}, {28, -1, -1, 0}, {27, -1, -1, -1}, {26, -2, -1, -1}, {25, -2, -2, -1}, {24, -2, -2, -2}, {0, -10, -10, -10}};
        for (long[] row : rows) {
            Story story = three.then("formula 0: line a=10;total " + row[0] + ";");
            sums(story, 0, 0, 10 + row[1], 10 + row[2], 10 + row[3]);
            for (int s = 0; s < 3; s++) leds(story, s, 0, 0, 0, row[s + 1]);
            Due.is(story, "all 0 0", row[0]);
        }
        Due.is(three.then("formula 0: line a=10;total 9999999;"), "all 0 0", 9999999);
        Due.is(three.then("formula 0: line a=10;"), "all 0 0", 30);
        // What all have so far counts their floors and caps, too.
        Story floored = land(2).then("mark 0 0 0 1", "mark 1 0 0 1", "mark 0 1 0 1", "mark 1 1 0 1", "formula 0: line a=100;",
            "formula 2: floor 90;line a=50;total 180;");
        leds(floored, 0, 2, 40, 0, 0);
        leds(floored.then("formula 2: cap 10;line a=50;total 21;"), 0, 2, 0, -40, 1);
        leds(floored.then("formula 2: cap 10;line a=50;total 21;"), 1, 2, 0, -40, 0);
    }

    static void parts() {
        Due.says("each the rest times its part by all, cut towards 0, what is left coin by coin to the least SCHOOLS with a part");
        // Parts 1, 0, 3, 2: the least with a part are 0, 2, 3.
        Story four = land(4).then("mark 0 0 0 1", "mark 2 0 1 3", "mark 3 0 2 2");
        long[][] rows = {{0, 0, 0, 0}, {1, 1, 0, 0}, {2, 1, 1, 0}, {3, 1, 1, 1}, {4, 1, 2, 1}, {5, 1, 3, 1}, {6, 1, 3, 2}, {7, 2, 3, 2}, {600, 100, 300, 200}, {604, 101, 302, 201}};
        for (long[] row : rows) {
            sums(four.then("formula 0: total " + row[0] + ";"), 0, 0, row[1], 0, row[2], row[3]);
            // The same below 0: what all have so far is in a line of the school without a part.
            Story below = new Story("school 1 0 0", "school 0 0 1", "school 1 0 2", "school 1 0 3").then("mark 0 0 0 1", "mark 2 0 1 3", "mark 3 0 2 2")
                .then("formula 0: total 0;line a=" + row[0] + "*(1-ward);");
            sums(below, 0, 0, -row[1], row[0], -row[2], -row[3]);
        }
        Due.says("without any part nothing is (parted)");
        sums(land(2).then("formula 0: line a=5;total 1000;"), 0, 0, 5, 5);
        sums(land(2).then("formula 0: line a=5;total 1000;", "mark 1 0 0 0", "mark 1 0 3 7", "mark 1 0 5 9"), 0, 0, 5, 5);
        sums(land(2).then("formula 0: line a=5;total 1000;", "mark 1 0 2 1"), 0, 0, 5, 995);
        Due.is(land(1).then("formula 0: total 1000;"), "led 0 0 32", 0);
        Due.is(new Story("formula 0: total 1000;"), "all 0 0", 0);
        Due.says("the rest times its part by all");
        Story wide = land(12).then("formula 0: total 9999999;line a=9999999*11-ward;share a;");
        long each = (9999999 - 1200000000L) / 12;
        sums(wide, 0, 0, 100000000 + each - 1, 100000000 + each - 1, 100000000 + each - 1, 100000000 + each - 1, 100000000 + each - 1,
            100000000 + each - 1, 100000000 + each - 1, 100000000 + each - 1, 100000000 + each - 1, 100000000 + each, 100000000 + each, 100000000 + each);
        Due.is(wide, "all 0 0", 9999999);
    }

    static void shareLine() {
        Due.says("the rest is parted by the \"share\" line's sums above 0 (without \"share\" by heads)");
        Story three = new Story("school 0 0 0", "school 1 0 1", "school 2 0 2").then("mark 0 0 0 50", "mark 1 0 0 50");
        // Sums of the line: -1, 0, 1; then 0, 1, 2.
        sums(three.then("formula 0: line a=ward-1;total 30;share a;"), 0, 0, -1, 0, 31);
        sums(three.then("formula 0: line a=ward;total 30;share a;"), 0, 0, 0, 10, 20);
        sums(three.then("formula 0: line a=ward-2;total 30;share a;"), 0, 0, -2, -1, 0);
        sums(three.then("formula 0: line a=ward-2;total 30;"), 0, 0, 15, 15, 0);
        sums(three.then("formula 0: line a=ward;line b=1;total 30;share a;"), 0, 0, 1, 10, 19);
        sums(three.then("formula 0: line a=ward;line b=1;total 30;share a;share b;"), 0, 0, 9, 10, 11);
        sums(three.then("formula 0: line a=5 if ward=2;total 30;share a;"), 0, 0, 0, 0, 30);
        sums(three.then("formula 0: line a=ward;share a;"), 0, 0, 0, 1, 2);
    }

    static void led() {
        Due.says("LED: 0 to 29 the formula's statements that are \"line\", 30 floor, 31 cap, 32 share, 33 put right, 34 moved; each is what it is (0, if it isn't there).");
        Story story = land(2).then("mark 0 0 0 1", "mark 1 0 0 1", "mark 0 1 0 1", "mark 1 1 0 1", "formula 0: line z=100;move 100;",
            "formula 2: floor 120;line a=3;cap 80;line b=4;line c=5 if 1=2;order cap;total 250;share a;");
        long[] want = {0, 3, 0, 4};
        for (int k = 0; k < 30; k++) Due.is(story, "led 0 2 " + k, k < 4 ? want[k] : 0);
        leds(story, 0, 2, 113, 0, 5);
        Due.is(story, "led 0 2 33", 0);
        Due.is(story, "led 0 2 34", 0);
        Due.is(story, "due 0 2", 125);
        leds(story, 0, 0, 0, 0, 0);
        Due.is(story, "led 0 0 0", 100);
        Due.is(story, "led 0 0 1", 0);
        Due.is(story, "led 0 2 -1", NOTHING);
        Due.is(story, "led 0 2 35", NOTHING);
        Due.is(land(1), "led 0 0 0", 0);
        Due.is(land(1), "led 0 9 34", 0);
        Due.says("DUE of a YEAR: SUM as KNOWN by the DAY on which it BEGINS, and PUT RIGHT, and what is MOVED");
        Story told = land(2).then("mark 0 0 0 4", "mark 1 0 0 4", "formula 0: line a=heads*100;move 50;", "propose 0 1 0 77 1", "day 40", "mark 0 0 0 5", "adopt 0");
        long together = 0;
        for (int k = 0; k < 35; k++) together += told.then("led 0 1 " + k).last();
        Due.is("led 0 1 0 to 34 together", together, 500 + 100 + 77);
        Due.is(told, "due 0 1", 677);
        Due.is(told, "due 1 1", 400 - 77);
    }

    static void ledSteps() {
        Due.says("DUE: SUM as KNOWN by the DAY on which it BEGINS");
        Story laws = land(1).then("formula 0: line a=1;line b=2;", "day 50", "formula 1: cap 5;line a=30;move 1;line b=40;", "day 150", "formula 1: line c=5;line d=6;");
        long[] lines = {0, 30, 0, 40};
        for (int k = 0; k < 4; k++) Due.is(laws, "led 0 1 " + k, lines[k]);
        Due.is(laws, "led 0 2 0", 5);
        Due.is(laws, "led 0 2 1", 6);
        Due.is(laws, "due 0 1", 70);
        for (int year = 0; year < 10; year++) {
            int begins = 100 * year;
            Story story = land(1).then("formula 0: line a=first;floor 50;", "mark 0 " + Math.max(0, year - 1) + " 0 3");
            String again = "mark 0 " + Math.max(0, year - 1) + " 0 8";
            Story at = year == 0 ? story : story.then("day " + begins);
            Due.is(at.then(again), "led 0 " + year + " 0", 8);
            Due.is(story.then("day " + (begins + 1), again), "led 0 " + year + " 0", 3);
            if (year > 0) Due.is(story.then("day " + (begins - 1), again), "led 0 " + year + " 0", 8);
        }
    }

    static void putRight() {
        Due.says("PUT RIGHT: the SUM for the YEAR ahead as KNOWN by that DAY less that as KNOWN by the DAY on which the YEAR ahead BEGAN (YEAR 0: 0)");
        Story story = land(1).then("formula 0: line a=first*10;", "mark 0 0 0 3");
        for (int y = 0; y < 10; y++) Due.is(story, "led 0 " + y + " 33", 0);
        // YEAR 0 BEGINS on DAY 0: told on it there's nothing to put right, told on DAY 1 to 100 there is.
        Due.is(story.then("mark 0 0 0 4"), "led 0 1 33", 0);
        Due.is(story.then("day 1", "mark 0 0 0 4"), "led 0 1 33", 10);
        Due.is(story.then("day 1", "mark 0 0 0 2"), "led 0 1 33", -10);
        Due.is(story.then("day 100", "mark 0 0 0 4"), "led 0 1 33", 10);
        Due.is(story.then("day 101", "mark 0 0 0 4"), "led 0 1 33", 0);
        // YEAR 1 looked at YEAR 0's marks as well, KNOWN by DAY 100; YEAR 2 puts it right by DAY 200.
        Due.is(story.then("day 100", "mark 0 0 0 4"), "led 0 2 33", 0);
        Due.is(story.then("day 101", "mark 0 0 0 4"), "led 0 2 33", 10);
        Due.is(story.then("day 200", "mark 0 0 0 4"), "led 0 2 33", 10);
        Due.is(story.then("day 201", "mark 0 0 0 4"), "led 0 2 33", 0);
        Due.is(story.then("day 101", "mark 0 0 0 4"), "led 0 3 33", 0);
        Due.is(story.then("day 50", "mark 0 0 0 4"), "led 0 0 33", 0);
        Due.is(story.then("day 50", "mark 0 0 0 4"), "due 0 0", 30);
        Due.is(story.then("day 50", "mark 0 0 0 4"), "due 0 1", 50);
        Due.is(story.then("day 101", "mark 0 0 0 4"), "due 0 2", 10);
        for (int y = 2; y < 10; y++) {
            Story later = land(1).then("formula 0: line a=first*10;", "mark 0 " + (y - 2) + " 0 3", "day " + (100 * y - 100));
            Due.is(later.then("mark 0 " + (y - 2) + " 0 9"), "led 0 " + y + " 33", 0);
            Due.is(later.then("day " + (100 * y - 99), "mark 0 " + (y - 2) + " 0 9"), "led 0 " + y + " 33", 60);
            Due.is(later.then("day " + 100 * y, "mark 0 " + (y - 2) + " 0 9"), "led 0 " + y + " 33", 60);
            Due.is(later.then("day " + (100 * y + 1), "mark 0 " + (y - 2) + " 0 9"), "led 0 " + y + " 33", 0);
        }
        // A FORMULA told late for a YEAR that has begun puts it right, too.
        Story law = land(1).then("formula 0: line a=7;", "day 1", "formula 0: line a=9;");
        Due.is(law, "due 0 0", 7);
        Due.is(law, "due 0 1", 11);
    }

    static void putRightJoined() {
        Due.says("PUT RIGHT (of those that are joined to it by then, too)");
        Story story = land(3).then("formula 0: line a=first*10;", "mark 0 0 0 3", "mark 1 0 0 3", "mark 2 0 0 3", "day 1", "mark 0 0 0 4", "mark 1 0 0 5", "mark 2 0 0 13");
        Due.is(story, "led 0 1 33", 10);
        Due.is(story.then("join 0 1 1"), "led 0 1 33", 30);
        Due.is(story.then("join 0 1 1"), "led 1 1 33", 0);
        Due.is(story.then("join 0 1 1"), "due 1 1", 0);
        Due.is(story.then("join 0 1 2"), "led 0 1 33", 10);
        Due.is(story.then("join 0 1 2"), "led 1 1 33", 20);
        Due.is(story.then("join 1 2 1", "join 0 1 1"), "led 0 1 33", 130);
        Due.is(story.then("join 1 2 1", "join 0 1 2"), "led 1 1 33", 120);
        Due.is(story.then("join 1 2 1", "join 0 1 2"), "led 0 1 33", 10);
        Story late = land(2).then("formula 0: line a=first*10;", "mark 0 0 0 3", "mark 1 0 0 3", "join 0 1 2", "day 150", "mark 1 0 0 8");
        Due.is(late, "led 0 2 33", 50);
        Due.is(late, "led 1 1 33", 0);
        Due.is(late, "led 0 3 33", 0);
    }

    static void moved() {
        Due.says("what is MOVED (to it less from it), for a YEAR");
        Story story = land(3).then("formula 0: line a=1000;move 100;", "propose 0 0 1 5 2", "propose 0 1 2 7 2", "propose 0 2 0 100 3", "propose 0 0 2 1000 2", "day 10", "adopt 0", "adopt 1", "adopt 2");
        long[][] want = {{0, 0, 0}, {0, 0, 0}, {-5, -2, 7}, {100, 0, -100}, {0, 0, 0}};
        for (int y = 0; y < 5; y++) {
            for (int s = 0; s < 3; s++) Due.is(story, "led " + s + " " + y + " 34", want[y][s]);
        }
        Due.is(story, "due 1 2", 998);
        Due.is(story, "sum 1 2 999", 1000);
        Due.is(story, "led 0 1 34", 0);
        Due.is(story.then("adopt 3"), "led 0 2 34", -1005);
        Due.says("DUE: 0 of a SCHOOL that isn't OPEN");
        Story joined = story.then("join 0 1 2");
        Due.is(joined, "led 1 2 34", 0);
        Due.is(joined, "due 1 2", 0);
        Due.is(joined, "led 0 2 34", -5);
        Due.is(story.then("join 0 1 3"), "led 1 2 34", -2);
    }

    static void losers() {
        Due.says("LOSERS: SCHOOLS OPEN whose SUM by it is less.");
        Story story = new Story("school 0 0 0", "school 1 0 1", "school 2 0 2", "formula 0: line a=101;", "beside: line a=100+ward;");
        Due.is(story, "losers 0", 1);
        Due.is(story, "losers 9", 1);
        Due.is(story.then("beside: line a=101;"), "losers 0", 0);
        Due.is(story.then("beside: line a=100;"), "losers 0", 3);
        Due.is(story.then("beside: line a=102;"), "losers 0", 0);
        Due.is(story.then("beside: line a=99+ward;"), "losers 0", 2);
        Due.is(story.then("join 1 0 3"), "losers 2", 1);
        Due.is(story.then("join 1 0 3"), "losers 3", 0);
        Due.is(new Story("beside 0"), "losers 0", 0);
        Due.says("as KNOWN TODAY; SUMS by it are asked beside: another FORMULA (not in force)");
        Story known = land(1).then("formula 0: line a=first;", "mark 0 0 0 5", "day 50", "mark 0 0 0 3", "beside: line a=first*2-4;");
        Due.is(known, "other 0 0", 2);
        Due.is(known, "losers 0", 1);
        Due.is(known, "sum 0 0 49", 5);
        Due.is(known, "law 0 50 7", 0);
        Due.is(known.then("mark 0 0 0 4"), "losers 0", 0);
        // LAST is by what is in force, not by what is beside.
        Due.is(land(1).then("formula 0: line a=9;", "beside: line a=last+1;"), "other 0 5", 10);
        Due.is(land(1).then("formula 0: line a=9;", "beside: line a=last+1;"), "other 0 0", 1);
    }

    static void edge() {
        Due.says("EDGE: what a SCHOOL's SUM would be more, if a mark (0 to 4) that it looks at were one more (LAST, heads then stay).");
        String each = "line a=first+lower*10+upper*100+meals*1000+special*10000;";
        Story story = land(2).then("formula 0: " + each);
        long[] want = {1, 10, 100, 1000, 10000};
        for (int what = 0; what < 5; what++) {
            for (int y : new int[] {0, 1, 2, 9}) Due.is(story, "edge 0 " + y + " " + what, want[what]);
        }
        for (int what = 0; what < 5; what++) {
            Story most = land(1).then("formula 0: line a=1 if " + new String[] {"first", "lower", "upper", "meals", "special"}[what] + ">9999;");
            Due.is(most.then("mark 0 0 " + what + " 9998"), "edge 0 0 " + what, 0);
            Due.is(most.then("mark 0 0 " + what + " 9999"), "edge 0 0 " + what, 1);
            Due.is(most.then("mark 0 0 " + what + " 9999"), "edge 0 1 " + what, 1);
        }
        Due.is(story.then("join 0 1 3"), "edge 1 2 0", 1);
        Due.is(story.then("join 0 1 3"), "edge 1 3 0", NOTHING);
        Due.is(story.then("join 0 1 3"), "edge 0 3 0", 1);
        // Known today, and nothing is kept of it.
        Story known = land(1).then("formula 0: line a=5 if first=3;", "mark 0 0 0 1", "day 9", "mark 0 0 0 2");
        Due.is(known, "edge 0 0 0", 5);
        Due.is(known.then("edge 0 0 0"), "sum 0 0 9", 0);
        // LAST stays: YEAR 1 looks at the marks that YEAR 0's SUM looked at.
        Story lasts = land(1).then("formula 0: line a=first*100;", "formula 1: line a=last;", "mark 0 0 0 4");
        Due.is(lasts, "edge 0 1 0", 0);
        Due.is(lasts, "edge 0 0 0", 100);
        // Heads then stay and heads now grow: BASE is 400 * 5 / 4.
        Story base = land(1).then("formula 0: line a=first*100;", "formula 1: floor 100;", "mark 0 0 0 4");
        Due.is(base, "edge 0 1 0", 100);
        Due.is(base, "edge 0 1 3", 0);
        // Of a taker: one more of all of them together; BARE would be 2 * (3 + 4 + 1).
        Story joined = land(2).then("formula 0: line a=first*2;", "mark 0 1 0 3", "mark 1 1 0 4", "join 0 1 2");
        Due.is(joined, "edge 0 2 0", 2);
        // Below 0, and by the parts of a TOTAL.
        Due.is(land(1).then("formula 0: line a=0-first;"), "edge 0 0 0", -1);
        Due.is(land(2).then("mark 0 0 0 1", "mark 1 0 0 1", "formula 0: total 6;"), "edge 0 0 0", 1);
        Due.is(land(2).then("mark 0 0 0 1", "mark 1 0 0 1", "formula 0: total 6;"), "edge 1 0 1", 1);
        Due.is(land(2).then("formula 0: total 6;"), "edge 1 0 1", 6);
    }

    /** What RATES tell of lines 0 and 1 in a year, one after the other. */
    static void ratesAre(Story story, int year, int t, long losers, long sum, int a, int b) {
        String line = "rates " + year + " 0 1 " + t + " ";
        long[] want = {losers, sum, a, b};
        for (int what = 0; what < 4; what++) Due.is(story, line + what, want[what]);
    }

    static void rates() {
        Due.says("RATES: of all pairs whose BARE sums of all SCHOOLS together are at most t those with the fewest LOSERS (BARE below LAST), of these the greatest sum; each times r tenths (0 to 20)");
        Story story = land(1).then("formula 0: line a=100;line b=10;");
        // No LAST in YEAR 0: the greatest sum that is at most t.
        ratesAre(story, 0, 999999999, 0, 220, 20, 20);
        ratesAre(story, 0, 220, 0, 220, 20, 20);
        ratesAre(story, 0, 219, 0, 219, 20, 19);
        ratesAre(story, 0, 110, 0, 110, 9, 20);
        ratesAre(story, 0, 1, 0, 1, 0, 1);
        ratesAre(story, 0, 0, 0, 0, 0, 0);
        // YEAR 1's LAST is 110: below it is one loser, at it none.
        ratesAre(story, 1, 110, 0, 110, 9, 20);
        ratesAre(story, 1, 109, 1, 109, 9, 19);
        ratesAre(story, 1, 111, 0, 111, 10, 11);
        Due.says("RATES: none is at most t");
        Story much = land(1).then("formula 0: line a=1;line b=1;line c=50;");
        ratesAre(much, 0, 50, 0, 50, 0, 0);
        for (int what = 0; what < 4; what++) Due.is(much, "rates 0 0 1 49 " + what, NOTHING);
        ratesAre(much, 0, 51, 0, 51, 0, 10);
        Story below = land(1).then("formula 0: line a=0;line b=0;line c=0-5;");
        Due.is(below, "rates 0 0 1 0 1", -5);
        Due.is(below, "rates 0 0 1 -1 1", NOTHING);
        Due.is(below, "rates 0 0 1 -5 1", NOTHING);
        Due.is(land(12).then("formula 0: line a=9999999*9;line b=0;line c=9999999*3;"), "rates 0 0 1 999999999 1", 359999964L + 539999940L);
        Due.says("those with the fewest LOSERS (BARE below LAST), of these the greatest sum");
        Story two = new Story("school 0 0 0", "school 1 0 1", "formula 0: line a=100*ward;line b=60*(1-ward);");
        ratesAre(two, 1, 160, 0, 160, 10, 10);
        ratesAre(two, 1, 165, 0, 160, 10, 10);
        ratesAre(two, 1, 166, 0, 166, 10, 11);
        ratesAre(two, 1, 159, 1, 158, 5, 18);
        ratesAre(two, 1, 99, 1, 98, 2, 13);
        ratesAre(two, 1, 59, 2, 58, 1, 8);
        Due.says("RATES: a SCHOOL that isn't OPEN has no sum and loses nothing");
        ratesAre(land(2).then("formula 0: line a=100;line b=10;", "join 0 1 1"), 1, 220, 0, 220, 20, 20);
        ratesAre(land(2).then("formula 0: line a=100;line b=10;", "join 0 1 1"), 1, 219, 1, 219, 20, 19);
    }

    static void rateTies() {
        Due.says("of these the greatest sum, then the least a's, then b's");
        ratesAre(land(1).then("formula 0: line a=10;line b=10;"), 0, 20, 0, 20, 0, 20);
        ratesAre(land(1).then("formula 0: line a=10;line b=10;"), 0, 25, 0, 25, 5, 20);
        ratesAre(land(1).then("formula 0: line a=10;line b=0;"), 0, 15, 0, 15, 15, 0);
        ratesAre(land(1).then("formula 0: line a=0;line b=10;"), 0, 15, 0, 15, 0, 15);
        ratesAre(land(1).then("formula 0: line a=0;line b=0;"), 0, 15, 0, 0, 0, 0);
        ratesAre(land(1).then("formula 0: line a=0-10;line b=10;"), 0, 5, 0, 5, 0, 5);
        ratesAre(land(1).then("formula 0: line a=1;line b=1;"), 0, 1, 0, 1, 0, 10);
        ratesAre(land(1).then("formula 0: line a=0-10;line b=0;line c=0-5;"), 0, 0, 1, -5, 0, 0);
        Due.says("two lines a, b (places among \"line\" statements); lines 0 on, unlike ones");
        Story story = land(1).then("formula 0: floor 5;line a=100;cap 900;line b=10;total 3;line c=1;");
        Due.is(story, "rates 0 0 1 999 1", 221);
        Due.is(story, "rates 0 2 0 999 1", 212);
        Due.is(story, "rates 0 2 1 999 1", 122);
        Due.is(story, "rates 0 1 0 209 2", 8);
        Due.is(story, "rates 0 1 0 209 3", 20);
        for (int a = 0; a < 3; a++) {
            Due.is(story, "rates 0 " + a + " 3 999 1", NOTHING);
            Due.is(story, "rates 0 3 " + a + " 999 1", NOTHING);
            Due.is(story, "rates 0 -1 " + a + " 999 1", NOTHING);
            Due.is(story, "rates 0 " + a + " -1 999 1", NOTHING);
            Due.is(story, "rates 0 " + a + " " + a + " 999 1", NOTHING);
        }
        Due.is(land(1), "rates 0 0 1 999 1", NOTHING);
        Due.is(land(1).then("formula 0: line a=1;"), "rates 0 0 1 999 1", NOTHING);
        Due.is(land(1).then("formula 1: line a=1;line b=1;"), "rates 0 0 1 999 1", NOTHING);
        Due.is(land(1).then("formula 1: line a=1;line b=1;"), "rates 1 0 1 999 1", 4);
        Due.is(new Story("formula 0: line a=1;line b=1;"), "rates 0 0 1 0 1", 0);
        StringBuilder lines = new StringBuilder();
        for (int i = 0; i < 30; i++) lines.append("line a").append((char) ('a' + i % 26)).append(i < 26 ? "" : "b").append("=").append(i).append("0;");
        Story full = land(1).then("formula 0: " + lines);
        Due.is(full, "rates 0 29 0 999999 1", 4350 + 290);
        Due.is(full, "rates 0 28 29 999999 1", 4350 + 280 + 290);
        Due.is(full, "rates 0 30 0 999999 1", NOTHING);
        Due.is(full, "rates 0 0 30 999999 1", NOTHING);
    }

    static void ratesCut() {
        Due.says("each times r tenths (0 to 20; cut); of lines as they come out without rates, then times r by 10");
        // 7 times 19 tenths is 13, not 13.3; a's later use in b stays as it came out.
        Story cut = land(1).then("formula 0: line a=7;line b=0;");
        ratesAre(cut, 0, 13, 0, 13, 19, 0);
        ratesAre(cut, 0, 12, 0, 12, 18, 0);
        ratesAre(cut, 0, 5, 0, 5, 8, 0);
        ratesAre(land(1).then("formula 0: line a=7;line b=a*10;"), 0, 999, 0, 154, 20, 20);
        ratesAre(land(1).then("formula 0: line a=7;line b=a*10;"), 0, 139, 0, 139, 9, 19);
        // Below 0 it's cut towards 0: -7 times 1 tenth is 0.
        ratesAre(land(1).then("formula 0: line a=0-7;line b=7;"), 0, 999, 0, 14, 0, 20);
        ratesAre(land(1).then("formula 0: line a=0-7;line b=0;line c=7;"), 0, 6, 0, 6, 2, 0);
        ratesAre(land(1).then("formula 0: line a=0-7;line b=0;line c=7;"), 0, 7, 0, 7, 0, 0);
        // Each SCHOOL's line is cut by itself: twice 7 times 1 tenth is 0, twice 2 tenths 2.
        Story two = land(2).then("formula 0: line a=7;line b=0;");
        ratesAre(two, 0, 1, 0, 0, 0, 0);
        ratesAre(two, 0, 2, 0, 2, 2, 0);
        // BARE: floors, caps and shares don't count, neither in the sums nor for LOSERS; LAST has them.
        Story story = land(1).then("mark 0 0 0 1", "mark 0 1 0 1", "formula 0: total 50;line a=10;line b=10;", "formula 2: total 0;cap 0;line a=10;line b=10;");
        ratesAre(story, 2, 40, 1, 40, 20, 20);
        ratesAre(story.then("formula 2: line a=10;line b=10;line c=10;"), 2, 50, 0, 50, 20, 20);
        ratesAre(story.then("formula 2: line a=10;line b=10;line c=10;"), 2, 49, 1, 49, 19, 20);
        // As KNOWN TODAY.
        Story known = land(1).then("formula 0: line a=first;line b=0;", "mark 0 0 0 5", "day 30", "mark 0 0 0 10");
        Due.is(known, "rates 0 0 1 999 1", 20);
    }

    static void askedToday() {
        Due.says("BESIDE, EDGE, RATES: as KNOWN TODAY");
        Story land = land(1).then("formula 0: line a=first;line b=10;", "beside: line a=first*2;", "mark 0 2 0 4", "day 20");
        Story told = land.then("mark 0 2 0 7", "formula 2: line a=first*3;line b=20;");
        long[][] want = {{8, 0, 1, 28}, {14, 1, 3, 82}, {14, 1, 3, 82}};
        int[] years = {3, 3, 9};
        for (int i = 0; i < 3; i++) {
            Story story = (i == 0 ? land : told).then("mark 0 8 0 " + (i == 0 ? 4 : 7));
            Due.is(story, "other 0 " + years[i], want[i][0]);
            Due.is(story, "losers " + years[i], 1);
            Due.is(story, "edge 0 " + years[i] + " 0", want[i][2]);
            Due.is(story, "edge 0 " + years[i] + " 1", 0);
            ratesAre(story, years[i], 999999999, 0, want[i][3], 20, 20);
        }
        // YEAR 1 goes by the formula of YEAR 0, whatever is told for YEAR 2.
        ratesAre(told, 1, 999999999, 0, 20, 0, 20);
        Due.is(told, "edge 0 1 0", 1);
        // The lines that RATES may take are those of that YEAR's.
        Due.is(told.then("formula 4: line a=first;"), "rates 4 0 1 999999999 0", NOTHING);
        Due.is(told.then("formula 4: line a=1;line b=2;line c=3;"), "rates 4 1 2 999999999 1", 1 + 4 + 6);
        Due.is(told.then("formula 4: line a=1;line b=2;line c=3;"), "rates 3 1 2 999999999 1", NOTHING);
    }

    static void foretold() {
        Due.says("FORETOLD: the later one and n times the difference, from it less n times that (either way) to it and n times that, each 0 at least at last; (1 to 5), of an age 0 to 2");
        for (int age = 0; age < 3; age++) {
            Story up = land(2).then("mark 0 1 " + age + " 10", "mark 0 2 " + age + " 13", "day 200");
            Story down = land(2).then("mark 0 1 " + age + " 13", "mark 0 2 " + age + " 10", "day 200");
            for (int n = 1; n < 6; n++) {
                Due.is(up, "foretold 0 " + age + " " + n + " 0", 13 + 3 * n);
                Due.is(up, "foretold 0 " + age + " " + n + " 1", 13);
                Due.is(up, "foretold 0 " + age + " " + n + " 2", 13 + 6 * n);
                Due.is(down, "foretold 0 " + age + " " + n + " 0", Math.max(0, 10 - 3 * n));
                Due.is(down, "foretold 0 " + age + " " + n + " 1", Math.max(0, 10 - 6 * n));
                Due.is(down, "foretold 0 " + age + " " + n + " 2", 10);
            }
            Due.is(up, "foretold 0 " + (age + 1) % 3 + " 1 0", -1);
            Due.is(up, "foretold 1 " + age + " 1 0", -1);
        }
        Due.says("each 0 at least at last");
        int[][] rows = {{12, 8, 4, 0, 8}, {12, 7, 2, 0, 7}, {12, 6, 0, 0, 6}, {12, 5, 0, 0, 5}, {12, 0, 0, 0, 0}, {12, 12, 12, 12, 12},
            {0, 0, 0, 0, 0}, {0, 1, 2, 1, 3}, {9999, 0, 0, 0, 0}, {0, 9999, 19998, 9999, 29997}, {9999, 9999, 9999, 9999, 9999}, {12, 9, 6, 3, 9}};
        for (int[] row : rows) {
            Story story = land(1).then("mark 0 0 0 " + row[0], "mark 0 1 0 " + row[1], "day 100");
            for (int what = 0; what < 3; what++) Due.is(story, "foretold 0 0 1 " + what, row[2 + what]);
        }
        Story most = land(1).then("mark 0 0 0 0", "mark 0 1 0 9999", "day 100");
        Due.is(most, "foretold 0 0 5 2", 11 * 9999);
        Due.is(most, "foretold 0 0 5 0", 6 * 9999);
        Due.is(most, "foretold 0 0 0 0", -1);
        Due.is(most, "foretold 0 0 6 0", -1);
    }

    static void foretoldKnown() {
        Due.says("of the latest two YEARS up to TODAY's with such a mark; none without two; as KNOWN TODAY");
        Story story = land(1).then("mark 0 0 0 5", "mark 0 1 0 9", "mark 0 2 0 20");
        Due.is(story, "foretold 0 0 1 0", -1);
        Due.is(story.then("day 99"), "foretold 0 0 1 0", -1);
        Due.is(story.then("day 100"), "foretold 0 0 1 0", 13);
        Due.is(story.then("day 199"), "foretold 0 0 1 0", 13);
        Due.is(story.then("day 200"), "foretold 0 0 1 0", 31);
        Due.is(story.then("day 999"), "foretold 0 0 1 0", 31);
        Due.is(land(1).then("mark 0 1 0 5", "day 999"), "foretold 0 0 1 0", -1);
        Due.is(land(1).then("mark 0 9 0 5", "mark 0 8 0 4", "day 899"), "foretold 0 0 1 0", -1);
        Due.is(land(1).then("mark 0 9 0 5", "mark 0 8 0 4", "day 900"), "foretold 0 0 1 0", 6);
        Due.is(land(1).then("mark 0 9 0 5", "mark 0 0 0 4", "day 900"), "foretold 0 0 1 0", 6);
        Due.is(land(1).then("mark 0 0 0 4", "mark 0 0 0 5", "day 900"), "foretold 0 0 1 0", -1);
        Due.is(story.then("day 100", "mark 0 1 0 7"), "foretold 0 0 1 0", 9);
        Due.is(story.then("day 100", "mark 0 0 0 7"), "foretold 0 0 1 0", 11);
        // A mark of 0 is one that's told.
        Due.is(land(1).then("mark 0 0 0 0", "mark 0 1 0 4", "day 100"), "foretold 0 0 1 0", 8);
        Due.is(land(1).then("mark 0 0 0 4", "mark 0 1 0 0", "day 100"), "foretold 0 0 1 0", 0);
        Due.is(land(1).then("mark 0 0 5 4", "mark 0 1 5 9", "mark 0 0 3 4", "mark 0 1 3 4", "day 100"), "foretold 0 0 1 0", -1);
        Due.says("FORETOLD heads of a SCHOOL (its own marks alone)");
        Story joined = land(2).then("mark 0 0 0 5", "mark 1 0 0 50", "mark 0 1 0 6", "mark 1 1 0 70", "join 0 1 1", "day 100");
        Due.is(joined, "foretold 0 0 1 0", 7);
        Due.is(joined, "foretold 1 0 1 0", 90);
    }

    /** Marks as a text: "3 4 . 2 . 9" is first 3, lower 4, meals 2 and all 9. */
    static void doubt(String marks, int bits) {
        String[] told = marks.split(" ");
        Story story = land(1);
        for (int what = 0; what < 6; what++) {
            if (!told[what].equals(".")) story = story.then("mark 0 3 " + what + " " + told[what]);
        }
        Due.is("doubt of " + marks, story.then("doubt 0 3").last(), bits);
    }

    static void doubts() {
        Due.says("it must be that first, lower, upper are all together, that meals, and special, each is at most all; those that aren't told may be anything from 0 on");
        doubt(". . . . . .", 0);
        doubt("9999 9999 9999 9999 9999 .", 0);
        doubt("1 2 3 6 6 6", 0);
        doubt("1 2 3 6 6 .", 0);
        doubt("1 2 3 7 6 .", 1);
        doubt("1 2 3 6 7 .", 1);
        doubt("1 2 3 . . 6", 0);
        doubt("1 2 . . . 2", 1);
        doubt("1 2 . . . 3", 0);
        doubt("1 2 . . . 4", 0);
        doubt(". . . 6 6 6", 0);
        doubt(". . . 7 6 6", 8);
        doubt(". . . 6 7 6", 16);
        doubt(". . . 7 7 6", 32);
        doubt(". . . 7 7 .", 0);
        doubt("6 . . . . 6", 0);
        doubt("7 . . . . 6", 1);
        doubt(". 7 . . . 6", 2);
        doubt(". . 7 . . 6", 4);
        doubt("0 0 0 0 0 0", 0);
        doubt("0 0 0 1 0 .", 1);
        doubt("0 0 0 . . 1", 1);
        doubt("1 0 0 . . 0", 1);
        doubt(". . . 1 . 0", 8);
        doubt(". . . . 1 0", 16);
        doubt("1 2 . 9 9 .", 0);
        doubt("1 2 3 . . 7", 1);
        doubt("1 2 3 . . 5", 1);
    }

    static void doubtChoice() {
        Due.says("The fewest marks that would have to be free, so that it can be; of several the least bits.");
        doubt("5 5 5 . . 4", 32);
        doubt("5 0 5 . . 4", 32);
        doubt("5 0 0 . . 4", 1);
        doubt("0 5 0 . . 4", 2);
        doubt("0 0 5 . . 4", 4);
        doubt("2 2 2 . . 4", 1);
        doubt("1 1 1 9 9 2", 1 | 32);
        doubt("1 1 1 9 9 3", 8 | 16);
        doubt("1 1 1 9 . 3", 8);
        doubt("1 1 1 . 9 3", 16);
        doubt("1 1 1 9 9 .", 1);
        doubt("1 1 1 9 3 .", 1);
        doubt("1 1 1 9 4 4", 1 | 8);
        doubt("0 0 0 5 5 4", 1 | 32);
        doubt("9 9 9 5 5 4", 32);
        doubt("9 9 9 30 5 4", 1 | 32);
        doubt("9 9 9 30 4 4", 1 | 32);
        doubt("9 . . 30 4 4", 32);
        doubt("4 . . 30 4 4", 8);
        doubt("5 . . 3 3 4", 1);
        doubt("5 . . 5 5 4", 32);
        doubt("5 . . 5 4 4", 32);
        doubt("2 2 . 5 . 3", 32);
        Due.says("DOUBT: of a SCHOOL's own marks of a YEAR as KNOWN TODAY");
        Story story = land(2).then("mark 0 3 5 6", "mark 0 3 0 7", "mark 0 2 5 9", "mark 1 3 1 80");
        Due.is(story, "doubt 0 3", 1);
        Due.is(story, "doubt 0 2", 0);
        Due.is(story, "doubt 0 4", 0);
        Due.is(story, "doubt 1 3", 0);
        Due.is(story.then("day 1", "mark 0 3 0 6"), "doubt 0 3", 0);
        Due.is(story.then("join 0 1 1", "mark 0 3 0 6"), "doubt 0 3", 0);
        Due.is(story.then("join 1 0 1"), "doubt 0 3", 1);
    }

    static void all() {
        Due.says("All SUMS of a YEAR as KNOWN by a DAY.");
        Story story = new Story("school 0 0 0", "school 1 1 1", "school 2 2 2", "formula 0: line a=100*(ward+1)-250;", "day 40", "formula 1: line a=1;", "join 0 1 3");
        Due.is(story, "all 0 0", -150);
        Due.is(story, "all 1 39", -150);
        Due.is(story, "all 1 40", 3);
        Due.is(story, "all 2 40", 3);
        Due.is(story, "all 3 40", 2);
        Due.is(story, "all 9 999", 2);
        Due.is(new Story(), "all 9 999", 0);
    }
}
