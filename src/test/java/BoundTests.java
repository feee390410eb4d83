/** Each sentence that names a bound of a call: a step inside, a step outside, and a refused call leaves all as it was. */
public final class BoundTests {
    static final long NOTHING = Story.NOTHING;

    /** A land in which much is told; TODAY is 150, and the tape holds a text. */
    static final Story BUSY = new Story(
        "school 0 0 0", "school 1 0 1", "school 2 1 2", "school 1 0 3", "school 3 1 4",
        "road 0 1 5", "road 1 2 8", "road 3 4 700", "need 0 30", "need 1 10",
        "mark 0 0 0 10", "mark 0 0 1 20", "mark 0 0 3 6", "mark 1 0 0 40", "mark 2 0 2 50", "mark 3 0 0 5", "mark 3 0 5 6", "mark 3 0 4 7",
        "formula 0: floor 95;cap 110;line base=heads*100+need*10-far;line b=meals*20+special*3+last/10 if heads>5;total 13000;share base;move 5;",
        "beside: line a=heads*90;line b=lower+last;",
        "join 0 3 3", "day 30", "propose 0 0 1 100 1", "propose 0 1 0 50 2", "object 0 1", "mark 1 0 0 35", "day 40", "adopt 0",
        "formula 2: line a=heads*95;line b=last/20;order cap;cap 120;floor 80;move 9;",
        "day 150", "propose 1 2 4 9 3", "object 1 0", "mark 0 1 0 12", "mark 0 1 1 30", "mark 0 1 5 99", "mark 1 1 0 44", "tape: line x=1;");

    public static void main(String[] args) {
        newObject();
        days();
        yearsOfDays();
        schools();
        needs();
        roads();
        far();
        marks();
        marked();
        joins();
        open();
        feeds();
        formulae();
        beside();
        faultStays();
        laws();
        proposals();
        objections();
        adoptions();
        moveKnownToday();
        asked();
        counts();
        Due.end();
    }

    static Story schools(int n) {
        String[] lines = new String[n];
        for (int s = 0; s < n; s++) lines[s] = "school " + s % 8 + " 0 " + s;
        return new Story(lines);
    }

    static Story times(Story story, int n, String line) {
        String[] lines = new String[n];
        java.util.Arrays.fill(lines, line);
        return story.then(lines);
    }

    static void newObject() {
        Due.says("No SCHOOLS, FORMULAE.");
        Story none = new Story();
        for (int what = 0; what < 10; what++) Due.is(none, "count " + what, 0);
        Due.is(none, "open 0 0", -1);
        Due.is(none, "far 0 0", -1);
        Due.is(none, "mark 0 0 0 1", -1);
        Due.is(none, "marked 0 0 0 0", -1);
        Due.is(none, "sum 0 0 0", NOTHING);
        Due.is(none, "due 0 0", NOTHING);
        Due.is(none, "led 0 0 0", NOTHING);
        Due.is(none, "other 0 0", NOTHING);
        Due.is(none, "edge 0 0 0", NOTHING);
        Due.is(none, "foretold 0 0 1 0", -1);
        Due.is(none, "doubt 0 0", -1);
        Due.is(none, "all 0 0", 0);
        Due.is(none, "law 0 0 6", 0);
        Due.is(none, "law 0 0 7", -1);
        Due.is(none, "fault", -1);
        Due.is(none, "losers 0", -1);
        Due.is(none, "adopt 0", 1);
        Due.is(none, "object 0 0", 0);
        Due.is(none, "join 0 1 1", -1);
        Due.is(none, "propose 0 0 1 1 1", -1);
        Due.is("NONE", PupilCoin.NONE, -1);
    }

    static void days() {
        Due.says("DAYS 0 to 999: TODAY is 0 at first; TODAY becomes a later DAY: true; false: it isn't, above 999.");
        Story none = new Story();
        Due.refused(none, "day 0", 0);
        Due.refused(none, "day -1", 0);
        Due.is(none, "day 1", 1);
        Due.is(none.then("day 1"), "count 0", 1);
        Due.is(none, "day 999", 1);
        Due.is(none.then("day 999"), "count 0", 999);
        for (int d : new int[] {Integer.MIN_VALUE, -1, 0, 149, 150, 1000, 1001, Integer.MAX_VALUE}) Due.refused(BUSY, "day " + d, 0);
        Due.is(BUSY, "day 151", 1);
        Due.is(BUSY.then("day 151"), "count 0", 151);
        Due.refused(BUSY.then("day 999"), "day 999", 0);
        Due.refused(BUSY.then("day 999"), "day 1000", 0);
    }

    static void yearsOfDays() {
        Due.says("a YEAR has 100 (the YEAR of a DAY: it by 100, cut; it BEGINS on 100 times it)");
        Story two = schools(2);
        for (int y = 0; y < 10; y++) {
            Story begins = y == 0 ? two : two.then("day " + 100 * y);
            Story ends = two.then("day " + (100 * y + 99));
            Due.is(begins, "formula 0 " + y, 0);
            Due.is(ends, "formula 0 " + y, 0);
            Due.is(ends, "formula 0 " + (y - 1), -2);
            Due.is(ends, "join 0 1 " + y, -1);
            Due.is(ends, "propose 0 0 1 1 " + y, -1);
            Due.is(begins, "join 0 1 " + (y + 1), y < 9 ? 1 : -1);
            Due.is(ends, "join 0 1 " + (y + 1), y < 9 ? 1 : -1);
            Due.is(ends, "propose 0 0 1 1 " + (y + 1), y < 9 ? 0 : -1);
            if (y > 0) Due.is(two.then("join 0 1 " + y, "day " + (100 * y - 1)), "count 2", 2);
            if (y > 0) Due.is(two.then("join 0 1 " + y, "day " + 100 * y), "count 2", 1);
        }
    }

    static void schools() {
        Due.says("SCHOOLS, up to 12: in a WARD 0 to 7, of a COUNCIL 0 to 2, at a NODE 0 to 15. NONE, doing nothing: not as told, 12 are there.");
        Due.bounds(BUSY, "school 0 0 0", 0, 0, 7, -1);
        Due.bounds(BUSY, "school 0 0 0", 1, 0, 2, -1);
        Due.bounds(BUSY, "school 0 0 0", 2, 0, 15, -1);
        Due.bounds(new Story(), "school 7 2 15", 0, 0, 7, -1);
        Due.is(BUSY, "school 7 2 15", 5);
        Due.is(BUSY.then("school 8 2 15"), "school 7 2 15", 5);
        Story eleven = schools(11);
        Due.is(eleven, "school 0 0 0", 11);
        Due.is(eleven.then("school 0 0 0"), "count 1", 12);
        Due.is(eleven.then("school 0 0 0"), "count 2", 12);
        Due.refused(schools(12).then("formula 0: line a=far+need;"), "school 0 0 0", -1);
        Due.refused(schools(12).then("join 0 11 1", "day 100"), "school 0 0 0", -1);
    }

    static void needs() {
        Due.says("in a WARD 0 to 7 (its NEED 0 to 100; 0 at first); NEED of a WARD: true; false: not as told.");
        Due.bounds(BUSY, "need 0 50", 0, 0, 7, 0);
        Due.bounds(BUSY, "need 1 50", 1, 0, 100, 0);
        for (int w = 0; w < 8; w++) {
            Story one = new Story("school " + w + " 0 0", "formula 0: line a=need*10+ward;");
            Due.is(one, "sum 0 0 0", w);
            Due.is(one.then("need " + w + " 100"), "sum 0 0 0", 1000 + w);
            Due.is(one.then("need " + w + " 1", "need " + w + " 0"), "sum 0 0 0", w);
            Due.is(one.then("need " + (w + 1) % 8 + " 100"), "sum 0 0 0", w);
            Due.is(one.then("need " + w + " 99", "need " + w + " 101"), "sum 0 0 0", 990 + w);
        }
    }

    static void roads() {
        Due.says("ROADS of miles 1 to 999 between unlike NODES (told again in place of what was; miles 0: none): true; false: not as told.");
        Due.bounds(BUSY, "road 7 8 5", 0, 0, 15, 0);
        Due.bounds(BUSY, "road 7 8 5", 1, 0, 15, 0);
        Due.bounds(BUSY, "road 0 1 5", 2, 0, 999, 0);
        for (int n = 0; n < 16; n++) Due.refused(BUSY, "road " + n + " " + n + " 5", 0);
        Due.refused(BUSY, "road 1 1 0", 0);
        Story two = new Story("school 0 0 0", "school 0 0 15");
        Due.is(two.then("road 0 15 1"), "far 0 0", 1);
        Due.is(two.then("road 15 0 999"), "far 0 0", 999);
        Due.is(two.then("road 15 0 999", "road 0 15 998"), "far 1 0", 998);
        Due.is(two.then("road 15 0 5", "road 0 15 998"), "far 1 0", 998);
        Due.is(two.then("road 15 0 5", "road 0 15 0"), "far 1 0", 9999);
        Due.is(two.then("road 15 0 5", "road 0 15 0", "road 0 15 6"), "far 1 0", 6);
        Due.is(two, "road 0 15 0", 1);
        // Over each NODE, and between each two of them.
        for (int over = 0; over < 16; over++) {
            int a = (over + 1) % 16;
            int b = (over + 5) % 16;
            Story way = new Story("school 0 0 " + a, "school 0 0 " + b, "road " + a + " " + over + " 3", "road " + over + " " + b + " 4");
            Due.is(way, "far 0 0", 7);
            Due.is(way, "far 1 0", 7);
            Due.is(way.then("road " + b + " " + a + " 6"), "far 0 0", 6);
            Due.is(way.then("road " + b + " " + a + " 8"), "far 1 0", 7);
            Due.is(way.then("road " + b + " " + over + " 0"), "far 0 0", 9999);
        }
    }

    static void far() {
        Due.says("FAR: the fewest miles to the NODE of another one that is OPEN, 9,999 at most and without one. NONE: none such, not OPEN.");
        Due.askedBounds(BUSY, "far 0 0", 0, 0, 4, -1);
        Due.askedBounds(BUSY, "far 0 0", 1, 0, 9, -1);
        Due.is(BUSY, "far 3 2", 700);
        Due.is(BUSY, "far 3 3", -1);
        Due.is(BUSY, "far 3 9", -1);
        Due.is(BUSY, "far 4 2", 700);
        Due.is(BUSY, "far 4 3", 9999);
        Story way = new Story("school 0 0 0", "school 0 0 11");
        for (int n = 0; n < 10; n++) way = way.then("road " + n + " " + (n + 1) + " 999");
        for (int last = 7; last < 12; last++) Due.is(way.then("road 10 11 " + last), "far 0 0", Math.min(9999, 9990 + last));
        Due.is(way, "far 1 0", 9999);
        Due.is(new Story("school 0 0 0"), "far 0 0", 9999);
        Due.is(new Story("school 0 0 0", "school 0 0 0"), "far 1 0", 0);
        Due.is(new Story("school 0 0 0", "school 0 0 0", "join 0 1 1"), "far 0 1", 9999);
        Story three = new Story("school 0 0 0", "school 0 0 1", "school 0 0 2", "road 0 1 3", "road 1 2 4", "join 2 1 5");
        Due.is(three, "far 0 4", 3);
        Due.is(three, "far 0 5", 7);
        Due.is(three, "far 1 4", 3);
        Due.is(three, "far 1 5", -1);
    }

    static void marks() {
        Due.says("MARKS, up to 300: of a SCHOOL and a YEAR: 0 to 5, 0 to 9,999. NONE, doing nothing: not as told, 300 are there.");
        Due.bounds(BUSY, "mark 0 0 0 7", 0, 0, 4, -1);
        Due.bounds(BUSY, "mark 0 0 0 7", 1, 0, 9, -1);
        Due.bounds(BUSY, "mark 0 0 0 7", 2, 0, 5, -1);
        Due.bounds(BUSY, "mark 0 0 0 7", 3, 0, 9999, -1);
        Story all = times(schools(2).then("formula 0: line a=heads;"), 298, "mark 0 0 0 3");
        Due.is(all, "mark 1 9 5 1", 298);
        Due.is(all.then("mark 1 9 5 1"), "mark 0 0 1 1", 299);
        Due.is(all.then("mark 1 9 5 1", "mark 0 0 1 1"), "count 3", 300);
        Due.is(all.then("mark 1 9 5 1", "mark 0 0 1 1"), "sum 0 0 0", 4);
        Due.refused(all.then("mark 1 9 5 1", "mark 0 0 1 1"), "mark 0 0 0 4", -1);
        Due.refused(all.then("mark 1 9 5 1", "mark 0 0 1 1"), "mark 1 8 2 0", -1);
    }

    static void marked() {
        Due.says("A SCHOOL's own MARK as KNOWN by a DAY: from the DAY on which they're told; the last told of those KNOWN holds. NONE: none told, none such.");
        Due.askedBounds(BUSY, "marked 0 0 0 150", 0, 0, 1, -1);
        Due.is(BUSY, "marked 4 0 0 150", -1);
        Due.is(BUSY, "marked 5 0 0 150", -1);
        Due.askedBounds(BUSY.then("mark 0 9 0 3"), "marked 0 0 0 150", 1, 0, 9, -1);
        Due.askedBounds(BUSY.then("mark 0 0 5 3"), "marked 0 0 0 150", 2, 0, 5, -1);
        Due.askedBounds(BUSY, "marked 0 0 0 150", 3, 0, 999, -1);
        Due.is(BUSY, "marked 1 0 0 29", 40);
        Due.is(BUSY, "marked 1 0 0 30", 35);
        Due.is(BUSY, "marked 1 1 0 149", -1);
        Due.is(BUSY, "marked 1 1 0 150", 44);
        Story one = schools(2).then("mark 0 0 0 0");
        Due.is(one, "marked 0 0 0 0", 0);
        Due.is(one, "marked 0 0 1 0", -1);
        Due.is(one.then("mark 0 0 0 5", "mark 0 0 0 4"), "marked 0 0 0 0", 4);
        Due.is(one.then("day 999", "mark 0 0 0 5"), "marked 0 0 0 998", 0);
        Due.is(one.then("day 999", "mark 0 0 0 5"), "marked 0 0 0 999", 5);
        Due.is(one.then("join 1 0 1", "day 100"), "marked 1 0 0 100", -1);
        Due.is(one.then("join 1 0 1", "day 100", "mark 0 0 0 8"), "marked 0 0 0 100", 8);
    }

    static void joins() {
        Due.says("JOINED, up to 6 times: from a YEAR later than TODAY's; NONE, doing nothing: not as told (both OPEN in that YEAR and all later ones so far), 6 are there.");
        Due.bounds(BUSY, "join 4 1 5", 0, 0, 4, -1);
        Due.bounds(BUSY, "join 4 1 5", 1, 0, 2, -1);
        Due.refused(BUSY, "join 4 5 5", -1);
        Due.bounds(BUSY, "join 4 1 5", 2, 2, 9, -1);
        for (int s = 0; s < 5; s++) Due.refused(BUSY, "join " + s + " " + s + " 5", -1);
        for (int y = 2; y < 10; y++) {
            Due.refused(BUSY, "join 1 3 " + y, -1);
            Due.refused(BUSY, "join 3 1 " + y, -1);
            Due.refused(BUSY, "join 0 3 " + y, -1);
        }
        Due.is(BUSY, "join 1 0 2", 2);
        Due.is(BUSY, "join 1 0 4", 2);
        Due.refused(BUSY.then("day 199"), "join 4 1 1", -1);
        Due.is(BUSY.then("day 199"), "join 4 1 2", 2);
        Due.refused(BUSY.then("day 200"), "join 4 1 2", -1);
        Due.is(BUSY.then("day 200"), "join 4 1 3", 2);
        Due.is(BUSY.then("day 899"), "join 4 1 9", 2);
        Due.refused(BUSY.then("day 900"), "join 4 1 9", -1);
        Due.refused(BUSY.then("day 900"), "join 4 1 10", -1);
        Story five = schools(8).then("join 0 1 1", "join 0 2 2", "join 0 3 9", "join 4 5 1", "join 0 4 3");
        Due.is(five, "join 7 6 1", 6);
        Due.refused(five.then("join 7 6 1"), "join 7 0 1", -1);
        Due.refused(five.then("join 7 6 1"), "join 0 7 9", -1);
        joinedMarks();
    }

    static void joinedMarks() {
        Due.says("In a YEAR in which it's joined, marks (0 to 4) of both (and of what the other had taken) are the taker's, for all YEARS looked at; so is LAST.");
        Story three = schools(3).then("formula 0: line a=first+lower*10+upper*100+meals*1000+special*10000;", "formula 4: line l=last;");
        for (int what = 0; what < 5; what++) three = three.then("mark 0 1 " + what + " 1", "mark 1 1 " + what + " 2", "mark 2 1 " + what + " 4");
        Story joined = three.then("join 1 2 2", "join 0 1 3", "mark 1 2 0 5", "mark 2 2 0 6");
        Due.is(three, "sum 0 2 0", 11111);
        Due.is(joined, "sum 0 2 0", 11111);
        Due.is(joined, "sum 1 2 0", 66666);
        Due.is(joined, "sum 2 2 0", 0);
        Due.is(joined, "sum 0 3 0", 11);
        Due.is(joined, "sum 1 3 0", 0);
        Due.is(joined, "sum 0 4 0", 11);
        Story at = joined.then("formula 2: line h=heads;line l=last;", "formula 3: line h=heads;line l=last;");
        Due.is(at, "led 0 2 1", 0);
        Story marked = at.then("mark 0 0 0 1", "mark 1 0 0 2", "mark 2 0 0 4");
        Due.is(marked, "led 0 2 1", 1);
        Due.is(marked, "led 1 2 1", 6);
        Due.is(marked, "led 1 2 0", 18);
        Due.is(marked, "led 0 3 1", 3 + 1 + 18 + 6);
        Due.is(marked, "led 0 3 0", 11);
        Due.is(marked, "sum 0 4 0", 11 + 28);
    }

    static void open() {
        Due.says("OPEN in all YEARS till one is JOINED to another; the other is OPEN no more from then on: 1, 0. NONE: none such.");
        Due.askedBounds(BUSY, "open 0 0", 0, 0, 4, -1);
        Due.askedBounds(BUSY, "open 0 0", 1, 0, 9, -1);
        for (int y = 0; y < 10; y++) {
            Due.is(BUSY, "open 3 " + y, y < 3 ? 1 : 0);
            Due.is(BUSY, "open 0 " + y, 1);
            Due.is(BUSY.then("join 1 2 9"), "open 2 " + y, y < 9 ? 1 : 0);
        }
    }

    static void feeds() {
        Due.says("Twenty bytes come behind those on the tape, of each number the highest first: how many there are. NONE, doing nothing: there would be more than 700.");
        Story full = times(new Story(), 34, "feed 0 0 0 0 0");
        Due.is(full, "count 8", 680);
        Due.is(full, "feed 1 2 3 4 5", 700);
        Due.is(full.then("feed 1 2 3 4 5"), "count 8", 700);
        Due.refused(full.then("feed 1 2 3 4 5"), "feed 6 7 8 9 10", -1);
        Due.is(BUSY, "feed 1 2 3 4 5", 40);
        Due.is(full.then("feed 1 2 3 4 5", "beside 0"), "feed 1 2 3 4 5", 20);
        Due.is(full.then("feed 1 2 3 4 5", "formula 0 0"), "feed 1 2 3 4 5", 20);
        // Blanks up to a byte of 128 or more, that begins no token, in each place of the twenty.
        for (int at = 0; at < 20; at++) {
            int[] a = {0x20202020, 0x20202020, 0x20202020, 0x20202020, 0x20202020};
            int shift = 24 - 8 * (at % 4);
            a[at / 4] = a[at / 4] & ~(255 << shift) | 128 + at << shift;
            String feed = "feed " + a[0] + " " + a[1] + " " + a[2] + " " + a[3] + " " + a[4];
            Due.is(new Story(feed, "formula 20 0"), "fault", at);
            Due.is(new Story(feed), "formula " + at + " 0", 0);
        }
    }

    static void formulae() {
        Due.says("The first n bytes of the tape (which is empty then) are a FORMULA for YEARS from one on. -2, doing nothing: n is below 0 or more than there are, no such YEAR; -3, doing nothing: 8 are there.");
        for (int n : new int[] {Integer.MIN_VALUE, -1, 21, 700, Integer.MAX_VALUE}) Due.refused(BUSY, "formula " + n + " 5", -2);
        for (int y : new int[] {Integer.MIN_VALUE, -1, 0, 10, Integer.MAX_VALUE}) Due.refused(BUSY, "formula 9 " + y, -2);
        Due.is(BUSY, "formula 0 1", 2);
        Due.is(BUSY, "formula 9 1", 2);
        Due.is(BUSY, "formula 9 9", 2);
        Due.is(BUSY, "formula 20 1", -1);
        Due.is(BUSY.then("formula 20 1"), "count 8", 0);
        Due.is(BUSY.then("formula 20 1"), "count 5", 2);
        Due.is(BUSY.then("formula 9 1"), "count 8", 0);
        Due.is(BUSY.then("formula 9 1"), "count 5", 3);
        Due.is(BUSY.then("formula 9 1"), "formula 1 1", -2);
        Story seven = new Story("formula 3: line a=1;").then("formula 0 0", "formula 0 1", "formula 0 2", "formula 0 9", "formula 0 3", "formula 0 3");
        Due.is(seven, "formula 0 0", 7);
        Story eight = seven.then("formula 5: line b=2;", "tape: line c=3;?");
        Due.is(seven.then("tape: line b=2;"), "formula 9 5", 7);
        Due.is(eight, "count 5", 8);
        Due.refused(eight, "formula 9 5", -3);
        Due.refused(eight, "formula 0 0", -3);
        Due.refused(eight, "formula 20 0", -3);
        Due.refused(eight, "formula 21 0", -2);
        Due.refused(eight, "formula -1 0", -2);
        Due.refused(eight, "formula 9 10", -2);
        Due.refused(eight, "formula 9 -1", -2);
        Story full = times(new Story(), 35, "feed 538976288 538976288 538976288 538976288 538976288");
        Due.is(full, "formula 700 0", 0);
        Due.is(full, "formula 701 0", -2);
        Due.is(full.then("formula 700 0"), "law 0 0 6", 0);
    }

    static void beside() {
        Due.says("Likewise the FORMULA BESIDE (in place of what was): 0. NONE: a FAULT (none is beside then); -2 likewise.");
        for (int n : new int[] {Integer.MIN_VALUE, -1, 21, Integer.MAX_VALUE}) Due.refused(BUSY, "beside " + n, -2);
        Due.is(BUSY, "beside 9", 0);
        Due.is(BUSY, "other 1 1", 35 * 90 + BUSY.then("sum 1 0 100").last());
        Due.is(BUSY.then("beside 9"), "other 1 1", 1);
        Due.is(BUSY.then("beside 9"), "count 8", 0);
        Due.is(BUSY.then("beside 9"), "count 9", 1);
        Due.is(BUSY.then("beside 20"), "count 9", 0);
        Due.is(BUSY.then("beside 20"), "count 8", 0);
        Due.is(BUSY.then("beside 20"), "fault", 9);
        Due.is(BUSY.then("beside 20"), "other 1 1", NOTHING);
        Due.is(BUSY.then("beside 20"), "losers 1", -1);
        Due.is(BUSY.then("beside 0"), "other 1 1", 0);
        Due.is(BUSY.then("beside 9"), "count 5", 2);
        Story eight = BUSY.then("formula 9 5", "formula 0 5", "formula 0 5", "formula 0 5", "formula 0 5", "formula 0 5");
        Due.is(eight, "count 5", 8);
        Due.is(eight, "beside 0", 0);
        Due.is(eight.then("beside 0"), "count 5", 8);
        Due.is(new Story(), "beside 1", -2);
        Due.is(new Story("beside 1"), "count 9", 0);
        Due.is(new Story("beside 0"), "count 9", 1);
    }

    static void faultStays() {
        Due.says("The FAULT's place of the latest formula() or beside() that was a number or NONE; NONE: it had none.");
        Story faulty = new Story("formula 0: line a=?;", "tape: line b=2;");
        Due.is(faulty, "fault", 7);
        for (String line : new String[] {"formula 21 0", "formula -1 0", "formula 9 10", "beside 21", "beside -1"}) Due.refused(faulty, line, -2);
        Due.is(faulty.then("formula 9 0"), "fault", -1);
        Due.is(faulty.then("beside 9"), "fault", -1);
        Due.is(faulty.then("beside 8"), "fault", 8);
        Due.is(faulty.then("formula 0 0"), "fault", -1);
        Story eight = times(new Story(), 8, "formula 0 0").then("beside: line a=?;", "tape: line b=2;");
        Due.is(eight, "fault", 7);
        Due.refused(eight, "formula 9 0", -3);
        Due.is(eight.then("formula 9 0"), "fault", 7);
    }

    static void laws() {
        Due.says("Of a YEAR as KNOWN by a DAY: of those KNOWN for YEARS up to it those from the latest YEAR, of one YEAR those told last; none: no lines. NONE: none.");
        Due.askedBounds(BUSY, "law 0 150 7", 0, 0, 9, -1);
        Due.askedBounds(BUSY, "law 0 150 7", 1, 0, 999, -1);
        Due.askedBounds(BUSY, "law 0 150 7", 2, 0, 7, -1);
        Due.is(BUSY, "law 1 150 7", 0);
        Due.is(BUSY, "law 2 39 7", 0);
        Due.is(BUSY, "law 2 40 7", 1);
        Due.is(BUSY, "law 9 999 7", 1);
        Story told = BUSY.then("formula 9 1");
        Due.is(told, "law 1 149 7", 0);
        Due.is(told, "law 1 150 7", 2);
        Due.is(told, "law 2 150 7", 1);
        Due.is(told, "law 0 150 7", 0);
        Due.is(told.then("formula 0 2"), "law 2 150 7", 3);
        Due.is(told.then("formula 0 2"), "law 2 149 7", 1);
        Story later = new Story("day 5", "formula 3: floor 0;cap 1000;total 0;move 100;order cap;line a=1;share a;");
        int[] want = {0, 1000, 0, 100, 1, 5, 7, 0};
        int[] without = {-1, -1, -1, 0, 0, -1, 0, -1};
        for (int what = 0; what < 8; what++) {
            Due.is(later, "law 3 5 " + what, want[what]);
            Due.is(later, "law 2 5 " + what, without[what]);
            Due.is(later, "law 3 4 " + what, without[what]);
        }
        Due.says("The last \"floor\", \"cap\", \"total\", \"move\", \"order\", \"share\" holds; without: none of these (move 0; order floor).");
        Story twice = new Story("formula 0: floor 5;floor 0;cap 7;cap 8;total 9;total 1;move 3;move 2;order cap;order floor;line a=1;line b=2;share b;share a;");
        int[] last = {0, 8, 1, 2, 0, 10, 14, 0};
        for (int what = 0; what < 8; what++) Due.is(twice, "law 0 0 " + what, last[what]);
        Story plain = new Story("formula 0: line a=1;");
        int[] none = {-1, -1, -1, 0, 0, -1, 1, 0};
        for (int what = 0; what < 8; what++) Due.is(plain, "law 0 0 " + what, none[what]);
    }

    static void proposals() {
        Due.says("proposed up to 20 times: from a SCHOOL of it to another one of it, coins (1 to 9,999,999), for a YEAR later than TODAY's. NONE, doing nothing: not as told, 20 are there.");
        for (int c : new int[] {Integer.MIN_VALUE, -1, 1, 2, 3, Integer.MAX_VALUE}) Due.refused(BUSY, "propose " + c + " 0 1 5 2", -1);
        Due.is(BUSY, "propose 0 0 1 5 2", 3);
        Due.is(BUSY, "propose 1 2 4 5 2", 3);
        for (int s : new int[] {Integer.MIN_VALUE, -1, 1, 2, 4, 5, Integer.MAX_VALUE}) Due.refused(BUSY, "propose 0 " + s + " 1 5 2", -1);
        for (int s : new int[] {Integer.MIN_VALUE, -1, 0, 2, 4, 5, Integer.MAX_VALUE}) Due.refused(BUSY, "propose 0 0 " + s + " 5 2", -1);
        Due.refused(BUSY, "propose 0 2 4 5 2", -1);
        Due.bounds(BUSY, "propose 0 0 1 5 2", 3, 1, 9999999, -1);
        Due.bounds(BUSY, "propose 0 0 1 5 2", 4, 2, 9, -1);
        Due.refused(BUSY.then("day 199"), "propose 0 0 1 5 1", -1);
        Due.is(BUSY.then("day 199"), "propose 0 0 1 5 2", 3);
        Due.refused(BUSY.then("day 200"), "propose 0 0 1 5 2", -1);
        Due.is(BUSY.then("school 0 2 0", "school 0 2 0"), "propose 2 5 6 5 2", 3);
        Story nineteen = times(BUSY, 16, "propose 0 0 1 5 2");
        Due.is(nineteen, "propose 0 0 1 5 2", 19);
        Due.is(nineteen.then("propose 0 0 1 5 2"), "count 6", 20);
        Due.refused(nineteen.then("propose 0 0 1 5 2"), "propose 0 1 0 5 2", -1);
    }

    static void objections() {
        Due.says("SCHOOLS may object (each once, of that COUNCIL, OPEN TODAY). false, doing nothing: none such, it may not, it did, it's ADOPTED.");
        for (int p : new int[] {Integer.MIN_VALUE, -1, 3, 19, 20, Integer.MAX_VALUE}) Due.refused(BUSY, "object " + p + " 1", 0);
        for (int s : new int[] {Integer.MIN_VALUE, -1, 5, 11, 12, 31, 32, Integer.MAX_VALUE}) Due.refused(BUSY, "object 1 " + s, 0);
        Due.is(BUSY, "object 1 1", 1);
        Due.refused(BUSY.then("object 1 1"), "object 1 1", 0);
        Due.refused(BUSY, "object 1 0", 0);
        Due.refused(BUSY, "object 1 2", 0);
        Due.refused(BUSY, "object 1 4", 0);
        Due.is(BUSY, "object 2 4", 1);
        Due.is(BUSY, "object 2 2", 1);
        Due.refused(BUSY, "object 2 1", 0);
        for (int s = 0; s < 4; s++) Due.refused(BUSY, "object 0 " + s, 0);
        Due.is(BUSY.then("day 299"), "object 1 3", 1);
        Due.refused(BUSY.then("day 300"), "object 1 3", 0);
        Due.is(BUSY.then("day 300"), "object 1 1", 1);
    }

    static void adoptions() {
        Due.says("ADOPTED on a DAY at least 10 after it was proposed, ahead of that YEAR. Not, the first of: 1 none such, it is; 2 too early; 3 too late; 4 objections; 5 too much.");
        for (int p : new int[] {Integer.MIN_VALUE, -1, 3, 20, Integer.MAX_VALUE}) Due.refused(BUSY, "adopt " + p, 1);
        Due.refused(BUSY, "adopt 0", 1);
        Story land = schools(4).then("formula 0: line a=1000;move 10;", "day 5", "propose 0 0 1 400 1");
        Due.refused(land, "adopt 0", 2);
        Due.refused(land.then("day 14"), "adopt 0", 2);
        Due.is(land.then("day 15"), "adopt 0", 0);
        Due.is(land.then("day 99"), "adopt 0", 0);
        Due.refused(land.then("day 100"), "adopt 0", 3);
        Due.refused(land.then("day 999"), "adopt 0", 3);
        Due.refused(land.then("day 95", "propose 0 0 1 400 1", "day 104"), "adopt 1", 2);
        Due.refused(land.then("day 95", "propose 0 0 1 400 1", "day 105"), "adopt 1", 3);
        Due.refused(land.then("object 0 0", "object 0 1", "object 0 2", "day 14"), "adopt 0", 2);
        Due.refused(land.then("object 0 0", "object 0 1", "object 0 2", "day 100"), "adopt 0", 3);
        Due.says("if not more than half of that COUNCIL's SCHOOLS that are OPEN TODAY objected");
        Due.is(land.then("object 0 0", "object 0 3", "day 15"), "adopt 0", 0);
        Due.refused(land.then("object 0 0", "object 0 3", "object 0 1", "day 15"), "adopt 0", 4);
        Due.is(land.then("school 0 0 0", "object 0 0", "object 0 3", "day 15"), "adopt 0", 0);
        Due.refused(land.then("school 0 0 0", "object 0 0", "object 0 3", "object 0 4", "day 15"), "adopt 0", 4);
        Due.refused(land.then("school 0 1 0", "object 0 0", "object 0 3", "object 0 1", "day 15"), "adopt 0", 4);
        Due.refused(land.then("propose 0 1 0 401 1", "object 1 0", "object 1 3", "object 1 1", "day 15"), "adopt 1", 4);
        whoMayObject();
        tooMuch(land);
    }

    static void whoMayObject() {
        Due.says("not more than half of that COUNCIL's SCHOOLS that are OPEN TODAY objected");
        String[] others = {"school 0 1 0", "school 0 2 0", "school 0 1 0", "school 0 1 0"};
        Story four = schools(4).then(others).then("formula 0: line a=1000;move 10;", "propose 0 0 1 400 2");
        Due.is(four.then("object 0 0", "object 0 3", "day 15"), "adopt 0", 0);
        Due.refused(four.then("object 0 0", "object 0 3", "object 0 2", "day 15"), "adopt 0", 4);
        // The fourth isn't OPEN from YEAR 1 on, so two of three are more than half; an objection of its own is none then.
        Story three = four.then("join 0 3 1", "formula 2: line a=1000;move 100;");
        Due.is(three.then("object 0 0", "day 100"), "adopt 0", 0);
        Due.is(three.then("object 0 0", "object 0 2", "day 99"), "adopt 0", 0);
        Due.refused(three.then("object 0 0", "object 0 2", "day 100"), "adopt 0", 4);
        Due.is(three.then("object 0 0", "object 0 3", "day 100"), "adopt 0", 0);
        Due.refused(three.then("object 0 0", "object 0 3", "object 0 2", "day 99"), "adopt 0", 4);
        Story twelve = schools(12).then("formula 0: line a=1000;move 1;", "propose 0 11 0 120 1", "propose 0 0 11 121 1", "day 10");
        Due.is(twelve, "adopt 0", 0);
        Due.refused(twelve, "adopt 1", 5);
        for (int s = 0; s < 6; s++) twelve = twelve.then("object 0 " + (11 - s));
        Due.is(twelve, "adopt 0", 0);
        Due.refused(twelve.then("object 0 0"), "adopt 0", 4);
    }

    static void tooMuch(Story land) {
        Due.says("all that it has ADOPTED for that YEAR with this is at most \"move\" hundredths of the SUMS of its SCHOOLS for that YEAR as KNOWN TODAY, together, cut");
        Due.refused(land.then("propose 0 2 1 401 1", "day 15"), "adopt 1", 5);
        Story part = land.then("propose 0 2 1 399 1", "propose 0 2 1 1 1", "propose 0 1 2 2 1", "day 15", "adopt 1");
        Due.is(part, "count 7", 1);
        Due.refused(part, "adopt 0", 5);
        Due.refused(part, "adopt 3", 5);
        Due.is(part, "adopt 2", 0);
        Due.refused(part.then("adopt 2"), "adopt 3", 5);
        Due.is(land.then("propose 0 2 1 400 2", "day 15", "adopt 1"), "adopt 0", 0);
        Due.refused(land.then("propose 0 2 1 1 1", "day 15", "adopt 0"), "adopt 1", 5);
        Due.refused(land.then("propose 0 0 1 400 1", "day 15", "adopt 0"), "adopt 1", 5);
        Due.refused(land.then("propose 0 1 0 400 1", "day 15", "adopt 0"), "adopt 1", 5);
        Due.is(land.then("school 0 1 0", "school 0 1 0", "propose 1 4 5 200 1", "day 15", "adopt 1"), "adopt 0", 0);
        Due.refused(land.then("school 0 1 0", "school 0 1 0", "propose 1 4 5 201 1", "day 15"), "adopt 1", 5);
        Story cut = schools(3).then("formula 0: line a=33;move 5;", "propose 0 0 1 4 1", "propose 0 0 1 5 1", "day 10");
        Due.is(cut, "adopt 0", 0);
        Due.refused(cut, "adopt 1", 5);
        Story none = schools(3).then("formula 0: line a=1000;", "propose 0 0 1 1 1", "day 10");
        Due.refused(none, "adopt 0", 5);
        Due.refused(none.then("formula 0: line a=1000;move 0;"), "adopt 0", 5);
        Due.refused(none.then("formula 2: line a=1000;move 100;"), "adopt 0", 5);
        Due.is(none.then("formula 1: line a=1;move 34;"), "adopt 0", 0);
        Due.refused(none.then("formula 1: line a=1;move 33;"), "adopt 0", 5);
        Due.refused(none.then("formula 1: line a=0-1000;move 100;"), "adopt 0", 5);
        Story all = schools(3).then("formula 0: line a=1000;move 100;", "propose 0 0 1 3000 1", "propose 0 0 1 3001 1", "day 10");
        Due.is(all, "adopt 0", 0);
        Due.refused(all, "adopt 1", 5);
        Due.refused(all.then("join 0 1 1"), "adopt 0", 5);
        Due.is(all.then("join 0 1 2"), "adopt 0", 0);
    }

    static void moveKnownToday() {
        Due.says("\"move\" hundredths (of the FORMULA for that YEAR as KNOWN TODAY) of the SUMS of its SCHOOLS for that YEAR as KNOWN TODAY");
        Story land = schools(2).then("formula 0: line a=heads*10;move 10;", "mark 0 1 0 30", "mark 1 1 1 20", "propose 0 0 1 50 2", "propose 0 0 1 51 2", "day 15");
        Due.is(land, "adopt 0", 0);
        Due.refused(land, "adopt 1", 5);
        // Another mark: told for YEAR 1, which YEAR 2 looks at, and for others, which it doesn't.
        Due.refused(land.then("mark 0 1 0 29"), "adopt 0", 5);
        Due.is(land.then("mark 0 1 0 31"), "adopt 1", 0);
        Due.refused(land.then("mark 0 0 0 31", "mark 0 2 0 31"), "adopt 1", 5);
        Due.is(land.then("day 199", "mark 0 1 0 31"), "adopt 1", 0);
        // Another FORMULA: for that YEAR, or for one up to it if none is; not for others.
        Due.is(land.then("formula 1: line a=heads*10;move 11;"), "adopt 1", 0);
        Due.is(land.then("formula 2: line a=heads*10;move 11;"), "adopt 1", 0);
        Due.refused(land.then("formula 3: line a=heads*10;move 11;"), "adopt 1", 5);
        Due.refused(land.then("formula 2: line a=heads*10;move 10;", "formula 1: line a=heads*10;move 11;"), "adopt 1", 5);
        Due.refused(land.then("formula 2: line a=heads*9;move 10;"), "adopt 0", 5);
        // SUMS are those with floor, cap and share.
        Due.is(land.then("formula 2: line a=heads*10;move 10;total 510;"), "adopt 1", 0);
        Due.refused(land.then("formula 2: line a=heads*10;move 10;total 509;"), "adopt 1", 5);
        // What another FORMULA lets it adopt later on counts what was adopted by the one ahead.
        Due.refused(land.then("adopt 0", "formula 2: line a=heads*10;move 20;"), "adopt 1", 5);
        Due.is(land.then("adopt 0", "formula 2: line a=heads*10;move 21;"), "adopt 1", 0);
    }

    static void asked() {
        Due.says("-2,000,000,000,000: none such.");
        Due.askedBounds(BUSY, "sum 0 1 150", 0, 0, 4, NOTHING);
        Due.askedBounds(BUSY, "sum 0 1 150", 1, 0, 9, NOTHING);
        Due.askedBounds(BUSY, "sum 0 1 150", 2, 0, 999, NOTHING);
        Due.askedBounds(BUSY, "led 0 1 0", 0, 0, 4, NOTHING);
        Due.askedBounds(BUSY, "led 0 1 0", 1, 0, 9, NOTHING);
        Due.askedBounds(BUSY, "led 0 1 0", 2, 0, 34, NOTHING);
        Due.askedBounds(BUSY, "due 0 1", 0, 0, 4, NOTHING);
        Due.askedBounds(BUSY, "due 0 1", 1, 0, 9, NOTHING);
        Due.askedBounds(BUSY, "all 1 150", 0, 0, 9, NOTHING);
        Due.askedBounds(BUSY, "all 1 150", 1, 0, 999, NOTHING);
        Due.askedBounds(BUSY, "other 0 1", 0, 0, 4, NOTHING);
        Due.askedBounds(BUSY, "other 0 1", 1, 0, 9, NOTHING);
        Due.askedBounds(BUSY, "losers 1", 0, 0, 9, -1);
        Due.askedBounds(BUSY, "edge 0 1 0", 0, 0, 4, NOTHING);
        Due.askedBounds(BUSY, "edge 0 1 0", 1, 0, 9, NOTHING);
        Due.askedBounds(BUSY, "edge 0 1 0", 2, 0, 4, NOTHING);
        Due.askedBounds(BUSY, "rates 1 0 1 999999999 0", 0, 0, 9, NOTHING);
        Due.askedBounds(BUSY, "rates 1 0 1 999999999 0", 1, 0, 0, NOTHING);
        Due.askedBounds(BUSY, "rates 1 1 0 999999999 0", 2, 0, 0, NOTHING);
        Due.askedBounds(BUSY, "rates 1 0 1 999999 0", 3, 0, 999999999, NOTHING);
        Due.askedBounds(BUSY, "rates 1 0 1 999999999 0", 4, 0, 3, NOTHING);
        Due.is(BUSY, "rates 1 0 0 999999999 0", NOTHING);
        Due.is(BUSY, "rates 1 1 1 999999999 0", NOTHING);
        Due.askedBounds(BUSY, "foretold 0 0 1 0", 0, 0, 1, -1);
        Due.askedBounds(BUSY.then("mark 0 0 2 1", "mark 0 1 2 1"), "foretold 0 0 1 0", 1, 0, 2, -1);
        Due.askedBounds(BUSY, "foretold 0 0 1 0", 2, 1, 5, -1);
        Due.askedBounds(BUSY, "foretold 0 0 1 0", 3, 0, 2, -1);
        Due.askedBounds(BUSY, "doubt 0 1", 0, 0, 4, -1);
        Due.askedBounds(BUSY, "doubt 0 1", 1, 0, 9, -1);
    }

    static void counts() {
        Due.says("0 TODAY, 1 SCHOOLS, 2 OPEN in TODAY's YEAR, 3 MARKS, 4 JOINED, 5 FORMULAE, 6 proposals, 7 ADOPTED ones, 8 bytes on the tape, 9 whether a FORMULA is beside (1). NONE for others.");
        int[] want = {150, 5, 5, 13, 1, 2, 3, 1, 20, 1};
        for (int what = 0; what < 10; what++) Due.is(BUSY, "count " + what, want[what]);
        Due.askedBounds(BUSY, "count 0", 0, 0, 9, -1);
        Due.is(BUSY.then("day 299"), "count 2", 5);
        Due.is(BUSY.then("day 300"), "count 2", 4);
    }
}
