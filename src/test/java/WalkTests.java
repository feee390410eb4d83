import java.io.IOException;
import java.nio.file.Files;
import java.nio.file.Path;

/**
 * A walk through the document from "Terms" to the last promise: doc() quotes it sentence by sentence,
 * without a gap, and behind each sentence stand the checks that hold it. Bounds are told more closely in
 * BoundTests, TextBounds and SumBounds. If the document's words change, the walk says where, and goes on.
 */
public final class WalkTests {
    static final long NOTHING = Story.NOTHING;
    static String document = "";
    static int at;
    static boolean lost;

    public static void main(String[] args) throws IOException {
        Path told = Path.of("../shared/DOC.md");
        document = Files.exists(told) ? flat(Files.readString(told)) : "";
        at = Math.max(0, document.indexOf("## Terms"));
        days();
        schools();
        marks();
        grammar();
        texts();
        inForce();
        sums();
        lastAndBase();
        floorsAndCaps();
        totals();
        dues();
        moves();
        besides();
        rates();
        foretold();
        doubts();
        promisesOfTelling();
        promisesOfTexts();
        promisesOfAsking();
        promisesOfMoves();
        promisesBeside();
        System.out.println(lost ? "the document's words have changed" : "each sentence has been walked through");
        Due.end();
    }

    static String flat(String text) {
        return text.replace("```text", "").replace("```", "").replace("`", "").replaceAll("\\s+", " ");
    }

    /** The next words of the document. */
    static void doc(String words) {
        Due.says(words);
        while (at < document.length() && document.charAt(at) == ' ') at++;
        if (document.startsWith(words, at)) {
            at += words.length();
        } else if (!lost) {
            lost = true;
            System.out.println("the document doesn't go on with \"" + words + "\", but with \""
                + document.substring(Math.min(at, document.length()), Math.min(at + 60, document.length())) + "\"");
        }
    }

    static Story land(int schools) {
        String[] lines = new String[schools];
        for (int s = 0; s < schools; s++) lines[s] = "school " + s % 8 + " 0 " + s;
        return new Story(lines);
    }

    static Story of(String... lines) {
        return new Story(lines);
    }

    static void fault(String text, int place) {
        Story read = of("tape: " + text, "formula " + text.length() + " 0");
        Due.is("\"" + text + "\"", read.last(), place < 0 ? 0 : -1);
        Due.is("the fault of \"" + text + "\"", read.then("fault").last(), place);
    }

    static void sound(String text) {
        fault(text, -1);
    }

    /** What a line of one school with 3 first, 4 lower, 5 upper, 6 meals and 7 special comes to. */
    static void comes(String ex, long want) {
        Story story = of("school 6 0 0", "need 6 20", "mark 0 0 0 3", "mark 0 0 1 4", "mark 0 0 2 5", "mark 0 0 3 6", "mark 0 0 4 7", "formula 0: line a=" + ex + ";");
        Due.is("line a=" + ex, story.then("sum 0 0 0").last(), want);
    }

    static void days() {
        doc("## Terms DAYS 0 to 999: TODAY is 0 at first;");
        Due.is(of(), "count 0", 0);
        Due.is(of("day 998"), "day 999", 1);
        Due.refused(of("day 999"), "day 1000", 0);
        doc("a YEAR has 100 (the YEAR of a DAY: it by 100, cut; it BEGINS on 100 times it).");
        Due.is(land(2).then("day 399"), "join 0 1 3", -1);
        Due.is(land(2).then("day 399"), "join 0 1 4", 1);
        Due.is(land(2).then("join 0 1 4", "day 399"), "count 2", 2);
        Due.is(land(2).then("join 0 1 4", "day 400"), "count 2", 1);
    }

    static void schools() {
        doc("SCHOOLS, up to 12 (OPEN in all YEARS till one is JOINED to another):");
        Due.is(land(11), "school 0 0 0", 11);
        Due.refused(land(12), "school 0 0 0", -1);
        for (int y = 0; y < 10; y++) Due.is(land(2).then("join 0 1 6"), "open 1 " + y, y < 6 ? 1 : 0);
        doc("in a WARD 0 to 7 (its NEED 0 to 100; 0 at first), of a COUNCIL 0 to 2, at a NODE 0 to 15.");
        Due.bounds(land(3), "school 5 1 5", 0, 0, 7, -1);
        Due.bounds(land(3), "school 5 1 5", 1, 0, 2, -1);
        Due.bounds(land(3), "school 5 1 5", 2, 0, 15, -1);
        Due.bounds(land(3), "need 1 5", 1, 0, 100, 0);
        Due.is(land(1).then("formula 0: line a=1000+need;"), "sum 0 0 0", 1000);
        doc("ROADS of miles 1 to 999 between unlike NODES.");
        Due.is(land(2).then("road 0 1 1"), "far 1 0", 1);
        Due.is(land(2).then("road 0 1 999"), "far 1 0", 999);
        Due.refused(land(2), "road 0 1 1000", 0);
        Due.refused(land(2), "road 1 1 4", 0);
        doc("FAR of a SCHOOL: by ROADS the fewest miles to the NODE of another one that is OPEN, 9,999 at most and without one.");
        Story three = land(3).then("road 0 7 30", "road 7 1 40", "road 0 2 80", "road 1 2 5");
        Due.is(three, "far 0 0", 70);
        Due.is(three.then("road 2 7 20"), "far 0 0", 50);
        Due.is(three.then("join 0 1 2"), "far 0 1", 70);
        Due.is(three.then("join 0 1 2"), "far 0 2", 75);
        Due.is(three.then("join 0 1 2", "join 0 2 3"), "far 0 3", 9999);
        Due.is(land(2), "far 0 0", 9999);
    }

    static void marks() {
        doc("MARKS, up to 300: of a SCHOOL and a YEAR: 0 first, 1 lower, 2 upper (heads), 3 meals, 4 special, 5 all (told heads together), 0 to 9,999.");
        Story many = land(2);
        String[] all = new String[299];
        java.util.Arrays.fill(all, "mark 1 0 0 1");
        many = many.then(all);
        Due.is(many, "mark 0 0 0 1", 299);
        Due.refused(many.then("mark 0 0 0 1"), "mark 0 0 0 2", -1);
        Due.bounds(land(2), "mark 1 3 2 9", 2, 0, 5, -1);
        Due.bounds(land(2), "mark 1 3 2 9", 3, 0, 9999, -1);
        String[] words = {"first", "lower", "upper", "meals", "special"};
        for (int what = 0; what < 5; what++) Due.is(land(1).then("mark 0 0 " + what + " 8", "formula 0: line a=" + words[what] + ";"), "sum 0 0 0", 8);
        Due.is(land(1).then("mark 0 0 5 8", "formula 0: line a=heads+meals+special;"), "sum 0 0 0", 0);
        doc("KNOWN from the DAY on which they're told; the last told of those KNOWN holds; 0 without (all: none).");
        Story late = land(1).then("formula 0: line a=upper;", "day 7", "mark 0 0 2 5", "mark 0 0 2 6", "day 9", "mark 0 0 2 4");
        Due.is(late, "sum 0 0 6", 0);
        Due.is(late, "sum 0 0 7", 6);
        Due.is(late, "sum 0 0 8", 6);
        Due.is(late, "sum 0 0 9", 4);
        // Without a mark of all there is none to be at most; with one of 0 there is.
        Due.is(land(1).then("mark 0 0 3 5"), "doubt 0 0", 0);
        Due.is(land(1).then("mark 0 0 3 5", "mark 0 0 5 0"), "doubt 0 0", 8);
        doc("JOINED, up to 6 times: from a YEAR later than TODAY's on a SCHOOL that is OPEN then takes another one that is in; the other is OPEN no more from then on.");
        Story six = land(9).then("join 0 1 1", "join 0 2 2", "join 3 0 3", "join 4 5 9", "join 7 6 1");
        Due.is(six, "join 3 7 1", 6);
        Due.refused(six.then("join 3 7 1"), "join 3 8 1", -1);
        Due.refused(six, "join 3 0 5", -1);
        Due.refused(six, "join 0 8 4", -1);
        Due.refused(six, "join 0 8 2", -1);
        Due.is(six, "open 0 2", 1);
        Due.is(six, "open 0 3", 0);
        Due.is(six, "open 3 9", 1);
        doc("In a YEAR in which it's joined, marks (0 to 4) of both (and of what the other had taken) are the taker's, for all YEARS looked at; so is LAST.");
        Story three = land(3).then("formula 0: line a=heads*100+meals;line b=last;", "mark 0 1 0 1", "mark 1 1 1 2", "mark 2 1 2 4", "mark 2 1 3 50", "mark 0 2 0 3", "mark 1 2 0 5", "mark 2 2 0 7", "join 1 2 2", "join 0 1 3");
        Due.is(three, "led 1 2 0", 650);
        Due.is(three, "led 0 3 0", 1500);
        Due.is(three, "led 0 3 1", 100 + 650);
        Due.is(three, "led 0 2 0", 100);
        Due.is(three, "led 1 2 1", 0);
    }

    static void grammar() {
        doc("==== 2. A FORMULA is a text: {\"line\" NAME \"=\" EX [\"if\" COND] \";\" | (\"floor\" | \"cap\" | \"total\" | \"move\") NUMBER \";\" | \"order\" (\"floor\" | \"cap\") \";\" | \"share\" NAME \";\"}.");
        sound("");
        sound("line a=1;");
        sound("line a=1 if 1=1;share a;order cap;order floor;move 1;total 2;cap 3;floor 4;");
        fault("line a=1", 8);
        fault("line a=1 share a;", 9);
        fault("order share;", 6);
        fault("share 1;", 6);
        fault("line =1;", 5);
        fault("line a 1;", 7);
        doc("EX: PROD {(\"+\" | \"-\") PROD}.");
        comes("1+2-3-4", -4);
        fault("line a=1+;", 9);
        fault("line a=+1;", 7);
        doc("PROD: ATOM {(\"*\" | \"/\") ATOM}.");
        comes("2*9/4*3", 12);
        comes("2+3*4-8/4", 12);
        fault("line a=1*;", 9);
        fault("line a=/1;", 7);
        doc("ATOM: NUMBER | WORD | NAME | \"(\" EX \")\" | (\"min\" | \"max\") \"(\" EX \",\" EX \")\".");
        comes("(2+3)*4", 20);
        comes("min(3,2+5)*max(1,heads)", 36);
        Due.is(land(1).then("formula 0: line a=5;line b=a*a;"), "led 0 0 1", 25);
        fault("line a=min(1;", 12);
        fault("line a=max(1,2;", 14);
        fault("line a={1};", 7);
        doc("COND: ALL {\"or\" ALL}.");
        comes("1 if 1=2 or 2=3 or 3=3", 1);
        comes("1 if 1=2 or 2=3 or 3=4", 0);
        doc("ALL: ONE {\"and\" ONE}.");
        comes("1 if 1=1 and 2=2 and 3=3", 1);
        comes("1 if 1=1 and 2=2 and 3=4", 0);
        comes("1 if 1=1 or 2=2 and 3=4", 1);
        comes("1 if 1=2 and 2=2 or 3=3", 1);
        doc("ONE: \"not\" ONE | \"{\" COND \"}\" | EX (\"<\" | \">\" | \"=\") EX.");
        comes("1 if not 1=2", 1);
        comes("1 if not not not 1=2", 1);
        comes("1 if {1=1 or 2=2} and 3=4", 0);
        comes("1 if 2+2<2*2+1", 1);
        comes("1 if 5>5", 0);
        fault("line a=1 if 1;", 13);
        fault("line a=1 if {1=1;", 16);
        doc("WORD: first, lower, upper, heads, meals, special, need, far, last, ward.");
        String[] words = {"first", "lower", "upper", "heads", "meals", "special", "need", "far", "last", "ward"};
        long[] are = {3, 4, 5, 12, 6, 7, 20, 9999, 0, 6};
        for (int w = 0; w < 10; w++) comes(words[w], are[w]);
    }

    static void texts() {
        doc("NAME: 1 to 8 letters, none of these or of the words above; in EX, \"share\" one that a \"line\" ahead told, behind \"line\" one that none did.");
        sound("line z=1;line abcdefgh=z;share abcdefgh;");
        fault("line abcdefghi=1;", 5);
        fault("line need=1;", 5);
        fault("line share=1;", 5);
        fault("line a=1;line b=c;", 16);
        fault("line a=1;share b;", 15);
        fault("line a=1;line a=1;", 14);
        doc("NUMBER: one to seven digits; of \"floor\", \"cap\" 0 to 1,000, of \"move\" 0 to 100.");
        sound("line a=9999999;total 9999999;floor 1000;cap 1000;move 100;");
        sound("line a=0;total 0;floor 0;cap 0;move 0;");
        fault("total 10000000;", 6);
        fault("floor 1001;", 6);
        fault("cap 1001;", 4);
        fault("move 101;", 5);
        doc("Tokens as long as they go: words of letters a to z, digits, signs; between them blanks (bytes 32 and 10).");
        sound("line\na\n=\n1\n;  ");
        sound("floor1;line a=1if 1=1or 2=2;");
        fault("linea=1;", 0);
        fault("line a=1 if 1=1 or2=2or3;", 24);
        fault("line A=1;", 5);
        fault("line\ta=1;", 4);
        doc("\"(\", \"{\", \"min\", \"max\" (each with its \"(\"), \"not\": at most 8 open in one another.");
        sound("line a=((min((max(((1)),2)),3))) if not{not{not{not{1=1}}}};");
        sound("line a=1 if not{not{not{(max(1,2))=1}}} and (((1)))=1;");
        fault("line a=((((((((max(1,2)))))))));", 15);
        doc("At most 30 statements.");
        sound("move 1;".repeat(30));
        fault("move 1;".repeat(31), 210);
        doc("FAULT: the place of the first byte of the first token (or byte that begins none) with which no such text goes on (a NUMBER beyond its bounds, a NAME that isn't so, the ninth open, too);");
        fault("line a=heads heads;", 13);
        fault("line a=heads ?;", 13);
        fault("cap 2000;", 4);
        fault("line ward=2;", 5);
        fault("line a=1 if {{{{{{{{{1=1}}}}}}}}};", 20);
        doc("the text's length, if more must come;");
        fault("line a=heads", 12);
        fault("line a=heads \n ", 15);
        fault("share", 5);
        doc("the 31st statement: where it begins.");
        fault("move 1;".repeat(30) + "  cap 5;", 212);
        fault("move 1;".repeat(30) + "\n?", 211);
        doc("Each WORD and result is held to from -10^8 to 10^8; / towards 0, 0 by 0.");
        comes("9999999*11", 100000000);
        comes("0-9999999*11+1", -99999999);
        comes("9999999*11*2-1", 99999999);
        comes("(0-7)/2", -3);
        comes("7/0+1", 1);
        Due.is(land(1).then("formula 0: line a=9999999*11;line b=1;", "formula 1: line l=last;"), "sum 0 1 0", 100000000);
    }

    static void inForce() {
        doc("Taken (up to 8) it's for YEARS from one on (TODAY's or later, up to 9), KNOWN from TODAY.");
        Story seven = land(1);
        for (int i = 0; i < 7; i++) seven = seven.then("formula 0 " + i);
        Due.is(seven, "formula 0 9", 7);
        Due.refused(seven.then("formula 0 9"), "formula 0 9", -3);
        Story told = land(1).then("day 230", "formula 4: line a=5;");
        Due.is(told, "sum 0 4 230", 5);
        Due.is(told, "sum 0 9 230", 5);
        Due.is(told, "sum 0 3 230", 0);
        Due.is(told, "sum 0 4 229", 0);
        Due.is(told, "formula 0 2", 1);
        Due.refused(told, "formula 0 1", -2);
        Due.refused(told, "formula 0 10", -2);
        doc("Of a YEAR as KNOWN by a DAY: of those KNOWN for YEARS up to it those from the latest YEAR, of one YEAR those told last; none: no lines.");
        Story laws = land(1).then("formula 5: line a=1;", "formula 2: line a=2;", "formula 2: line a=3;", "day 50", "formula 2: line a=4;");
        long[] want = {0, 0, 4, 4, 4, 1, 1, 1, 1, 1};
        for (int y = 0; y < 10; y++) Due.is(laws, "sum 0 " + y + " 50", want[y]);
        for (int y = 0; y < 10; y++) Due.is(laws, "sum 0 " + y + " 49", want[y] == 4 ? 3 : want[y]);
        for (int k = 0; k < 35; k++) Due.is(laws, "led 0 1 " + k, 0);
        doc("The last \"floor\", \"cap\", \"total\", \"move\", \"order\", \"share\" holds; without: none of these (move 0; order floor).");
        Story twice = land(1).then("formula 0: floor 1;floor 2;cap 3;cap 4;total 5;total 6;move 7;move 8;order floor;order cap;line a=1;line b=1;share a;share b;");
        long[] last = {2, 4, 6, 8, 1, 11, 14, 0};
        for (int what = 0; what < 8; what++) Due.is(twice, "law 0 0 " + what, last[what]);
        long[] none = {-1, -1, -1, 0, 0, -1, 1, 0};
        for (int what = 0; what < 8; what++) Due.is(land(1).then("formula 0: line a=1;"), "law 0 0 " + what, none[what]);
    }

    static void sums() {
        doc("==== 3. SUM of a SCHOOL for a YEAR as KNOWN by a DAY: that isn't OPEN in it: 0, no lines.");
        Story closed = land(2).then("formula 0: line a=8;total 100;share a;", "join 0 1 2");
        Due.is(closed, "sum 1 1 0", 50);
        Due.is(closed, "sum 1 2 0", 0);
        for (int k = 0; k < 35; k++) Due.is(closed, "led 1 2 " + k, 0);
        Due.is(closed, "led 0 2 32", 92);
        doc("Else: LINES in their order: what EX tells, 0 if its COND doesn't hold (a later line's NAME is that).");
        Story lines = land(1).then("formula 0: line a=7;line b=a*2 if a>7;line c=b+1;line d=c*10 if b=0;");
        long[] want = {7, 0, 1, 10};
        for (int k = 0; k < 4; k++) Due.is(lines, "led 0 0 " + k, want[k]);
        Due.is(lines, "sum 0 0 0", 18);
        doc("Words: marks of the YEAR ahead (YEAR 0: of it) as KNOWN by that DAY;");
        Story marks = land(1).then("formula 0: line a=first+meals*100;", "mark 0 0 0 1", "mark 0 1 0 2", "mark 0 2 3 3", "day 60", "mark 0 1 0 5");
        Due.is(marks, "sum 0 0 60", 1);
        Due.is(marks, "sum 0 1 60", 1);
        Due.is(marks, "sum 0 2 60", 5);
        Due.is(marks, "sum 0 2 59", 2);
        Due.is(marks, "sum 0 3 60", 300);
        Due.is(marks, "sum 0 4 60", 0);
        doc("heads: first, lower, upper together;");
        comes("heads-first-lower-upper", 0);
        doc("need: NEED of the WARD (NEED, ROADS: as they are);");
        Story need = of("school 3 0 0", "school 4 0 1", "formula 0: line a=need*100000+far;", "need 3 5", "road 0 1 8", "day 500", "need 3 9", "road 0 1 11");
        Due.is(need, "sum 0 0 0", 900011);
        Due.is(need, "sum 0 9 999", 900011);
        Due.is(need, "sum 1 0 0", 11);
        doc("last: LAST.");
        Due.is(land(1).then("formula 0: line a=5;", "formula 1: line a=last+1;"), "sum 0 1 0", 6);
    }

    /** One school: YEAR 0's sum is 600 with some heads, YEAR 2 goes by another formula and other heads. */
    static Story based(int then, int now, String second) {
        return land(1).then("formula 0: line a=600;", "formula 2: " + second, "mark 0 0 1 " + then, "mark 0 1 1 " + now);
    }

    static void lastAndBase() {
        doc("LAST of a YEAR: the SUM for the YEAR ahead as KNOWN by the DAY on which the YEAR BEGINS (0 in YEAR 0).");
        Story story = land(1).then("formula 0: line a=heads;line b=last*10;", "mark 0 0 0 3", "day 100", "mark 0 0 0 4", "day 101", "mark 0 0 0 5");
        Due.is(story, "led 0 0 1", 0);
        Due.is(story, "sum 0 1 0", 3 + 40);
        Due.is(story, "sum 0 1 100", 4 + 40);
        Due.is(story, "sum 0 1 999", 5 + 40);
        Due.is(story, "sum 0 2 0", 450);
        doc("BASE: LAST times heads now by heads then (marks that SUM went by, of all that are joined now), cut, held to from -10^10 to 10^10;");
        Due.is(based(7, 5, "floor 100;"), "sum 0 2 0", 428);
        Story two = land(2).then("formula 0: line a=600;", "formula 2: floor 100;", "mark 0 0 0 2", "mark 1 0 0 5", "mark 0 1 0 3", "mark 1 1 0 6");
        Due.is(two, "sum 0 2 0", 900);
        Due.is(two, "sum 1 2 0", 720);
        Due.is(two.then("join 1 0 2"), "sum 1 2 0", 1200 * 9 / 7);
        // YEAR 1's SUM went by the taker's heads alone if they were joined by then; now it's by all that are.
        Due.is(two.then("join 1 0 1"), "sum 1 2 0", 600 * 9 / 7);
        Due.is(land(1).then("formula 0: line a=9999999*10;line b=a;", "formula 2: floor 1000;", "mark 0 0 0 1", "mark 0 1 0 9999"), "sum 0 2 0", 100000000000L);
        Due.is(land(1).then("formula 0: line a=0-9999999*10;line b=a;", "formula 2: cap 1000;", "mark 0 0 0 1", "mark 0 1 0 9999"), "sum 0 2 0", -100000000000L);
        doc("none in YEAR 0, with LAST 0, or without heads then.");
        Due.is(land(1).then("mark 0 0 0 5", "formula 0: line a=3;cap 0;"), "sum 0 0 0", 3);
        Due.is(land(1).then("mark 0 0 0 5", "formula 1: line a=3;cap 0;"), "sum 0 1 0", 3);
        Due.is(based(0, 5, "cap 0;line a=3;"), "sum 0 2 0", 3);
        Due.is(based(1, 5, "cap 0;line a=3;"), "sum 0 2 0", 0);
        doc("BARE: LINES together.");
        Due.is(land(1).then("formula 0: line a=4;line b=0-6;line c=a*b;"), "sum 0 0 0", -26);
    }

    static void floorsAndCaps() {
        doc("FLOOR of f: if there is a BASE and what it is so far is below f hundredths of BASE (cut), a line of what lacks.");
        Due.is(based(7, 5, "floor 91;line a=388;"), "led 0 2 30", 1);
        Due.is(based(7, 5, "floor 91;line a=389;"), "led 0 2 30", 0);
        Due.is(based(7, 5, "floor 91;line a=390;"), "led 0 2 30", 0);
        Due.is(based(0, 5, "floor 91;line a=1;"), "led 0 2 30", 0);
        doc("CAP of c: if it's above c hundredths (cut), a line (below 0) of what's too much.");
        Due.is(based(7, 5, "cap 91;line a=390;"), "led 0 2 31", -1);
        Due.is(based(7, 5, "cap 91;line a=389;"), "led 0 2 31", 0);
        Due.is(based(0, 5, "cap 91;line a=1000;"), "led 0 2 31", 0);
        doc("In the ORDER told first, then the other.");
        Story floor = based(6, 6, "floor 110;cap 90;line a=600;");
        Due.is(floor, "led 0 2 30", 60);
        Due.is(floor, "led 0 2 31", -120);
        Story cap = based(6, 6, "floor 110;cap 90;line a=600;order cap;");
        Due.is(cap, "led 0 2 31", -60);
        Due.is(cap, "led 0 2 30", 120);
    }

    static void totals() {
        doc("TOTAL: the rest (TOTAL less what all SCHOOLS have so far; also below 0) is parted by the \"share\" line's sums above 0 (without \"share\" by heads):");
        Story story = of("school 1 0 0", "school 0 0 1", "school 3 0 2", "school 2 0 3").then("mark 1 0 0 2", "mark 3 0 2 6");
        Due.is(story.then("formula 0: line a=ward;total 46;share a;"), "led 2 0 32", 20);
        Due.is(story.then("formula 0: line a=ward;total 46;"), "led 3 0 32", 30);
        Due.is(story.then("formula 0: line a=ward-1;total 30;share a;"), "led 0 0 32", 0);
        Due.is(story.then("formula 0: line a=ward-1;total 32;share a;"), "led 2 0 32", 20);
        Due.is(story.then("formula 0: line a=ward*10;total 30;share a;"), "led 2 0 32", -15);
        doc("each the rest times its part by all, cut towards 0, what is left coin by coin to the least SCHOOLS with a part (round again, if it must);");
        // Parts 1, 0, 3, 2 of a rest of 10: 1 and two thirds, 5, 3 and a third; the coin left goes to the first.
        long[] up = {2, 0, 5, 3};
        long[] down = {-2, 0, -5, -3};
        for (int s = 0; s < 4; s++) {
            Due.is(story.then("formula 0: line a=ward;total 16;share a;"), "led " + s + " 0 32", up[s]);
            Due.is(story.then("formula 0: line a=ward;line b=4;total 12;share a;"), "led " + s + " 0 32", down[s]);
        }
        long[] eleven = {2, 0, 6, 3};
        for (int s = 0; s < 4; s++) Due.is(story.then("formula 0: line a=ward;total 17;share a;"), "led " + s + " 0 32", eleven[s]);
        doc("without any part nothing is. That's a line, too.");
        Due.is(story.then("formula 0: line a=0-ward;total 100;share a;"), "all 0 0", -6);
        Due.is(story.then("formula 0: line a=ward;total 16;share a;"), "all 0 0", 16);
        Due.is(story.then("formula 0: line a=ward;total 16;share a;"), "due 2 0", 8);
    }

    static void dues() {
        doc("DUE of a YEAR: SUM as KNOWN by the DAY on which it BEGINS,");
        Story late = land(2).then("formula 0: line a=heads*10;move 100;", "mark 0 0 0 3", "mark 1 0 0 4", "day 100", "mark 0 0 0 5", "day 101", "mark 0 0 0 6", "mark 1 0 0 9");
        Due.is(late, "due 0 0", 30);
        Due.is(late, "led 0 1 0", 50);
        Due.is(late, "led 1 1 0", 40);
        doc("and PUT RIGHT: the SUM for the YEAR ahead as KNOWN by that DAY less that as KNOWN by the DAY on which the YEAR ahead BEGAN (YEAR 0: 0; of those that are joined to it by then, too),");
        Due.is(late, "led 0 0 33", 0);
        Due.is(late, "led 0 1 33", 20);
        Due.is(late, "led 1 1 33", 0);
        Due.is(late, "led 0 2 33", 10);
        Due.is(late, "led 1 2 33", 50);
        Due.is(late, "led 0 3 33", 0);
        Due.is(late.then("join 0 1 2"), "led 0 2 33", 60);
        Due.is(late.then("join 0 1 3"), "led 0 2 33", 10);
        doc("and what is MOVED (to it less from it).");
        Story moved = late.then("propose 0 0 1 7 2", "propose 0 1 0 2 2", "mark 0 1 0 100", "day 120", "adopt 0", "adopt 1");
        Due.is(moved, "led 0 2 34", -5);
        Due.is(moved, "led 1 2 34", 5);
        Due.is(moved, "due 0 2", 1000 + 10 - 5);
        Due.is(moved, "due 1 2", 50 + 5);
        doc("0 of a SCHOOL that isn't OPEN.");
        Due.is(moved.then("join 0 1 2"), "due 1 2", 0);
        Due.is(moved.then("join 0 1 2"), "due 0 2", 1000 + 60 - 5);
        doc("LED: lines are told in order: 0 to 29 the formula's statements that are \"line\", 30 floor, 31 cap, 32 share, 33 put right, 34 moved; each is what it is (0, if it isn't there).");
        Story led = land(1).then("mark 0 0 0 1", "mark 0 1 0 1", "formula 0: line z=100;", "formula 2: cap 90;line a=50;order cap;line b=70 if 1=1;floor 95;total 99;share b;");
        for (int k = 0; k < 35; k++) Due.is(led, "led 0 2 " + k, k == 1 ? 50 : k == 3 ? 70 : k == 30 ? 5 : k == 31 ? -30 : k == 32 ? 4 : 0);
    }

    static void moves() {
        doc("A COUNCIL MOVES: proposed up to 20 times: from a SCHOOL of it to another one of it, coins (1 to 9,999,999), for a YEAR later than TODAY's.");
        Story land = of("school 0 1 0", "school 0 1 1", "school 0 1 2", "school 0 2 3", "formula 0: line a=100;move 10;", "day 110");
        Due.is(land, "propose 1 0 1 30 2", 0);
        Due.refused(land, "propose 1 0 3 30 2", -1);
        Due.refused(land, "propose 2 0 1 30 2", -1);
        Due.refused(land, "propose 1 0 0 30 2", -1);
        Due.refused(land, "propose 1 0 1 30 1", -1);
        Due.bounds(land, "propose 1 0 1 30 2", 3, 1, 9999999, -1);
        doc("SCHOOLS may object (each once, of that COUNCIL, OPEN TODAY).");
        Story told = land.then("propose 1 0 1 30 3", "propose 1 2 1 31 3", "join 1 2 2");
        Due.is(told, "object 0 2", 1);
        Due.refused(told.then("object 0 2"), "object 0 2", 0);
        Due.refused(told, "object 0 3", 0);
        Due.refused(told.then("day 200"), "object 0 2", 0);
        doc("ADOPTED on a DAY at least 10 after it was proposed, ahead of that YEAR:");
        Due.refused(told.then("day 119"), "adopt 0", 2);
        Due.refused(told.then("day 300"), "adopt 0", 3);
        Story held = land.then("propose 1 0 1 30 3", "propose 1 2 1 31 3", "propose 1 2 1 1 3");
        Due.is(held.then("day 120"), "adopt 0", 0);
        Due.is(held.then("day 299"), "adopt 0", 0);
        doc("if not more than half of that COUNCIL's SCHOOLS that are OPEN TODAY objected,");
        Due.is(held.then("object 0 1", "day 120"), "adopt 0", 0);
        Due.refused(held.then("object 0 1", "object 0 2", "day 120"), "adopt 0", 4);
        Due.refused(told.then("object 0 1", "object 0 0", "day 200"), "adopt 0", 4);
        doc("and all that it has ADOPTED for that YEAR with this is at most \"move\" hundredths (of the FORMULA for that YEAR as KNOWN TODAY) of the SUMS of its SCHOOLS for that YEAR as KNOWN TODAY, together, cut.");
        Due.refused(held.then("day 120"), "adopt 1", 5);
        Due.refused(held.then("day 120", "adopt 0"), "adopt 2", 5);
        Due.is(held.then("day 120", "adopt 0", "formula 3: line a=100;move 11;"), "adopt 2", 0);
        Due.is(held.then("day 120", "adopt 0", "formula 3: line a=104;move 10;"), "adopt 2", 0);
        Due.refused(held.then("day 120", "adopt 0", "formula 3: line a=103;move 10;"), "adopt 2", 5);
    }

    static void besides() {
        doc("==== 4. BESIDE: another FORMULA (not in force) is told; SUMS by it are asked beside: LOSERS: SCHOOLS OPEN whose SUM by it is less.");
        Story land = land(3).then("formula 0: line a=first*10;", "mark 0 0 0 5", "mark 1 0 0 6", "mark 2 0 0 7", "beside: line a=60;line b=last/100;");
        Due.is(land, "law 0 0 7", 0);
        Due.is(land, "sum 2 0 0", 70);
        Due.is(land, "other 2 0", 60);
        Due.is(land, "losers 0", 1);
        Due.is(land.then("join 0 2 3"), "losers 3", 0);
        Due.is(land.then("join 0 2 1"), "losers 1", 1);
        doc("EDGE: what a SCHOOL's SUM would be more, if a mark (0 to 4) that it looks at were one more (LAST, heads then stay).");
        Due.is(land, "edge 0 0 0", 10);
        Due.is(land, "edge 0 1 0", 10);
        Due.is(land, "edge 0 0 1", 0);
        // BASE of 50 grows by its fifth, LAST stays: the floor is 60 and not 50 any more.
        Due.is(land.then("formula 1: floor 100;"), "edge 0 1 2", 10);
        Due.is(land.then("formula 1: line a=last;"), "edge 0 1 0", 0);
    }

    static void rates() {
        doc("RATES: two lines a, b (places among \"line\" statements) of the FORMULA for a YEAR as KNOWN TODAY, each times r tenths (0 to 20; cut), others as they are, with a total t:");
        Story land = land(1).then("formula 0: move 3;line x=100;order cap;line y=7;line z=50;");
        Due.is(land, "rates 0 0 1 999 1", 264);
        Due.is(land, "rates 0 1 2 999 1", 214);
        Due.is(land, "rates 0 0 1 62 3", 18);
        Due.is(land, "rates 0 1 3 999 1", NOTHING);
        doc("of all pairs whose BARE sums of all SCHOOLS together (of lines as they come out without rates, then times r by 10) are at most t those with the fewest LOSERS (BARE below LAST), of these the greatest sum, then the least a's, then b's.");
        Story after = land(1).then("formula 0: line x=100;line y=20;", "formula 1: line x=100;line y=x/5;line z=0;");
        Due.is(after, "rates 1 0 1 130 0", 0);
        Due.is(after, "rates 1 0 1 130 1", 130);
        Due.is(after, "rates 1 0 1 130 2", 9);
        Due.is(after, "rates 1 0 1 130 3", 20);
        Due.is(after, "rates 1 0 1 119 0", 1);
        Due.is(after, "rates 1 0 1 119 1", 118);
        Due.is(after, "rates 1 0 1 119 2", 8);
        Due.is(after, "rates 1 0 1 119 3", 19);
        Due.is(after, "rates 1 0 2 140 2", 12);
        Due.is(after, "rates 1 0 2 140 3", 0);
        // Three more losers' coins would be a greater sum; fewer losers go first.
        Story fewer = of("school 0 0 0", "school 1 0 1", "formula 0: line a=10+ward*10;", "formula 1: line a=(1-ward)*10;line b=ward*19;");
        Due.is(fewer, "rates 1 0 1 48 0", 0);
        Due.is(fewer, "rates 1 0 1 30 0", 0);
        Due.is(fewer, "rates 1 0 1 30 1", 30);
        Due.is(fewer, "rates 1 0 1 29 0", 1);
        Due.is(fewer, "rates 1 0 1 29 1", 29);
    }

    static void foretold() {
        doc("FORETOLD heads of a SCHOOL (its own marks alone) for a YEAR of n ahead (1 to 5), of an age 0 to 2, as KNOWN TODAY: of the latest two YEARS up to TODAY's with such a mark:");
        Story land = land(2).then("mark 0 0 1 9", "mark 0 1 1 20", "mark 0 3 1 24", "mark 0 4 1 90", "mark 1 3 1 500", "join 0 1 1", "day 350");
        Due.is(land, "foretold 0 1 1 0", 28);
        Due.is(land.then("day 400"), "foretold 0 1 1 0", 156);
        Due.is(land.then("mark 0 2 1 23"), "foretold 0 1 1 0", 25);
        Due.is(land, "foretold 0 1 0 0", -1);
        Due.is(land, "foretold 0 1 6 0", -1);
        Due.is(land, "foretold 0 3 1 0", -1);
        doc("the later one and n times the difference, from it less n times that (either way) to it and n times that, each 0 at least at last; none without two.");
        for (int n = 1; n < 6; n++) {
            Due.is(land, "foretold 0 1 " + n + " 0", 24 + 4 * n);
            Due.is(land, "foretold 0 1 " + n + " 1", 24);
            Due.is(land, "foretold 0 1 " + n + " 2", 24 + 8 * n);
        }
        Story down = land.then("mark 0 3 1 13");
        Due.is(down, "foretold 0 1 1 0", 6);
        Due.is(down, "foretold 0 1 1 1", 0);
        Due.is(down, "foretold 0 1 2 0", 0);
        Due.is(down, "foretold 0 1 2 1", 0);
        Due.is(down, "foretold 0 1 2 2", 13);
        Due.is(land, "foretold 1 1 1 0", -1);
        Due.is(land, "foretold 0 0 1 0", -1);
    }

    static void doubts() {
        doc("DOUBT: of a SCHOOL's own marks of a YEAR as KNOWN TODAY (those told: first, lower, upper, meals, special, all):");
        Story land = land(2).then("mark 0 5 0 10", "mark 0 5 1 10", "mark 0 5 2 10", "mark 0 5 5 31", "mark 1 5 0 1", "join 0 1 1");
        Due.is(land, "doubt 0 5", 1);
        Due.is(land, "doubt 0 4", 0);
        Due.is(land, "doubt 1 5", 0);
        Due.is(land.then("day 3", "mark 0 5 5 30"), "doubt 0 5", 0);
        doc("it must be that first, lower, upper are all together, that meals, and special, each is at most all; those that aren't told may be anything from 0 on.");
        Story sound = land.then("mark 0 5 5 30", "mark 0 5 3 30", "mark 0 5 4 30");
        Due.is(sound, "doubt 0 5", 0);
        Due.is(sound.then("mark 0 5 3 31"), "doubt 0 5", 8);
        Due.is(sound.then("mark 0 5 4 31"), "doubt 0 5", 16);
        Due.is(land(1).then("mark 0 5 0 30", "mark 0 5 3 9999", "mark 0 5 4 9999"), "doubt 0 5", 0);
        Due.is(land(1).then("mark 0 5 0 30", "mark 0 5 5 29"), "doubt 0 5", 1);
        Due.is(land(1).then("mark 0 5 0 29", "mark 0 5 5 29"), "doubt 0 5", 0);
        doc("The fewest marks that would have to be free, so that it can be; of several the least bits.");
        Due.is(sound.then("mark 0 5 3 31", "mark 0 5 4 31"), "doubt 0 5", 24);
        Due.is(sound.then("mark 0 5 0 12", "mark 0 5 3 31"), "doubt 0 5", 32);
        Due.is(sound.then("mark 0 5 0 11", "mark 0 5 3 31", "mark 0 5 4 32"), "doubt 0 5", 33);
        Due.is(sound.then("mark 0 5 1 9"), "doubt 0 5", 1);
        Due.is(sound.then("mark 0 5 1 50"), "doubt 0 5", 2);
    }

    static void promisesOfTelling() {
        doc("The constants: NONE = -1: There is none.");
        Due.is("NONE", PupilCoin.NONE, -1);
        doc("## Promise 1: A new object PupilCoin(): No SCHOOLS, FORMULAE.");
        Due.is(of(), "count 1", 0);
        Due.is(of(), "count 5", 0);
        doc("## Promise 2: day boolean day(int d): TODAY becomes a later DAY: true; false: it isn't, above 999.");
        Due.is(of("day 4"), "day 5", 1);
        Due.is(of("day 4", "day 5"), "count 0", 5);
        Due.refused(of("day 4"), "day 4", 0);
        Due.refused(of("day 4"), "day 3", 0);
        Due.refused(of("day 4"), "day 1000", 0);
        doc("## Promise 3: school int school(int ward, int council, int node): A SCHOOL: its number. NONE, doing nothing: not as told, 12 are there.");
        for (int n = 0; n < 12; n++) Due.is(land(n), "school 7 2 15", n);
        Due.refused(land(12), "school 7 2 15", -1);
        Due.refused(land(2), "school 8 2 15", -1);
        doc("## Promise 4: need boolean need(int ward, int need): NEED of a WARD: true; false: not as told.");
        Due.is(land(2), "need 1 100", 1);
        Due.refused(land(2), "need 8 100", 0);
        Due.refused(land(2).then("formula 0: line a=need;"), "need 1 101", 0);
        doc("## Promise 5: road boolean road(int a, int b, int miles): A ROAD (told again in place of what was; miles 0: none): true; false: not as told.");
        Due.is(land(2).then("road 0 1 9", "road 1 0 11"), "far 0 0", 11);
        Due.is(land(2).then("road 0 1 9"), "road 1 0 0", 1);
        Due.is(land(2).then("road 0 1 9", "road 1 0 0"), "far 0 0", 9999);
        Due.refused(land(2).then("road 0 1 9"), "road 0 16 3", 0);
        doc("## Promise 6: far int far(int school, int year): FAR in a YEAR (0 to 9). NONE: none such, not OPEN.");
        Due.is(land(2).then("road 0 1 9"), "far 1 9", 9);
        Due.is(land(2).then("road 0 1 9"), "far 1 10", -1);
        Due.is(land(2).then("road 0 1 9"), "far 2 0", -1);
        Due.is(land(2).then("road 0 1 9", "join 0 1 4"), "far 1 4", -1);
        doc("## Promise 7: mark int mark(int school, int year, int what, int v): A MARK (YEARS 0 to 9): its number. NONE, doing nothing: not as told, 300 are there.");
        Due.is(land(2).then("mark 1 9 5 0"), "mark 1 0 0 9999", 1);
        Due.bounds(land(2), "mark 1 9 5 0", 1, 0, 9, -1);
        Due.bounds(land(2), "mark 1 9 5 0", 0, 0, 1, -1);
        doc("## Promise 8: marked int marked(int school, int year, int what, int known): A SCHOOL's own MARK as KNOWN by a DAY. NONE: none told, none such.");
        Story marks = land(2).then("mark 0 2 4 7", "mark 1 2 4 8", "join 1 0 1", "day 120", "mark 1 2 4 9");
        Due.is(marks, "marked 1 2 4 120", 9);
        Due.is(marks, "marked 1 2 4 119", 8);
        Due.is(marks, "marked 0 2 4 120", 7);
        Due.is(marks, "marked 0 2 3 120", -1);
        Due.is(marks, "marked 0 2 6 120", -1);
        Due.is(marks, "marked 0 2 4 1000", -1);
        doc("## Promise 9: join int join(int taker, int other, int year): JOINED: how many times. NONE, doing nothing: not as told (both OPEN in that YEAR and all later ones so far), 6 are there.");
        Due.is(marks.then("school 0 0 0"), "join 1 2 5", 2);
        Due.refused(marks.then("school 0 0 0"), "join 2 0 5", -1);
        Due.refused(marks.then("school 0 0 0", "join 2 1 7"), "join 1 2 3", -1);
        Due.refused(marks.then("school 0 0 0", "join 2 1 7"), "join 1 2 8", -1);
        doc("## Promise 10: open int open(int school, int year): Whether a SCHOOL is OPEN in a YEAR: 1, 0. NONE: none such.");
        Due.is(marks, "open 0 0", 1);
        Due.is(marks, "open 0 1", 0);
        Due.is(marks, "open 2 1", -1);
        Due.is(marks, "open 1 -1", -1);
    }

    static void promisesOfTexts() {
        doc("## Promise 11: feed int feed(int a, int b, int c, int d, int e): Twenty bytes come behind those on the tape, of each number the highest first: how many there are. NONE, doing nothing: there would be more than 700.");
        Story tape = of("feed 1818848869 543243569 991961403 538976288 538976288");
        Due.is(tape, "feed 1 2 3 4 5", 40);
        // The tape has "line a=1; !;" and blanks.
        Due.is(tape.then("formula 20 0"), "fault", 10);
        Due.is(tape, "formula 10 0", 0);
        Due.is(tape.then("feed 1 2 3 4 5", "formula 40 0"), "fault", 10);
        String[] full = new String[35];
        java.util.Arrays.fill(full, "feed 0 0 0 0 0");
        Due.refused(of(full), "feed 1 2 3 4 5", -1);
        doc("## Promise 12: formula int formula(int n, int year): The first n bytes of the tape (which is empty then) are a FORMULA for YEARS from one on: its number. NONE: a FAULT; -2, doing nothing: n is below 0 or more than there are, no such YEAR; -3, doing nothing: 8 are there.");
        Story text = land(1).then("tape: line a=7;line b=8;");
        Due.is(text, "formula 9 3", 0);
        Due.is(text.then("formula 9 3"), "sum 0 3 0", 7);
        Due.is(text.then("formula 18 3"), "sum 0 9 0", 15);
        Due.is(text.then("formula 9 3"), "count 8", 0);
        Due.is(text, "formula 10 3", -1);
        Due.is(text.then("formula 10 3"), "count 8", 0);
        Due.is(text.then("formula 10 3"), "count 5", 0);
        Due.refused(text, "formula -1 3", -2);
        Due.refused(text, "formula 41 3", -2);
        Due.refused(text, "formula 9 10", -2);
        doc("## Promise 13: beside int beside(int n): Likewise the FORMULA BESIDE (in place of what was): 0. NONE: a FAULT (none is beside then); -2 likewise.");
        Due.is(text, "beside 9", 0);
        Due.is(text.then("beside 9"), "other 0 0", 7);
        Due.is(text.then("beside 9", "beside: line a=9;"), "other 0 0", 9);
        Due.is(text.then("beside 9", "beside: line a=;"), "other 0 0", NOTHING);
        Due.is(text, "beside 10", -1);
        Due.refused(text, "beside 41", -2);
        doc("## Promise 14: fault int fault(): The FAULT's place of the latest formula() or beside() that was a number or NONE; NONE: it had none.");
        Due.is(text.then("formula 10 3"), "fault", 9);
        Due.is(text.then("beside 10"), "fault", 9);
        Due.is(text.then("beside 10", "formula 1 3"), "fault", 9);
        Due.is(text.then("beside 10", "formula 0 3"), "fault", -1);
        doc("## Promise 15: law int law(int year, int known, int what): Of a YEAR as KNOWN by a DAY: 0 floor, 1 cap, 2 total, 3 move, 4 order (0 floor, 1 cap), 5 the statement of the share's line, 6 statements, 7 which FORMULA. NONE: none.");
        Story laws = of("formula 0 0", "formula 3: floor 1;cap 2;total 3;line a=4;move 5;line b=6;order cap;share b;");
        long[] want = {1, 2, 3, 5, 1, 5, 8, 1};
        long[] none = {-1, -1, -1, 0, 0, -1, 0, 0};
        for (int what = 0; what < 8; what++) {
            Due.is(laws, "law 3 0 " + what, want[what]);
            Due.is(laws, "law 2 0 " + what, none[what]);
            Due.is(of(), "law 2 0 " + what, what == 7 ? -1 : none[what]);
        }
        Due.is(laws, "law 3 0 8", -1);
        Due.is(laws, "law 10 0 7", -1);
        Due.is(laws, "law 3 1000 7", -1);
    }

    static void promisesOfAsking() {
        Story land = land(2).then("formula 0: line a=heads;line b=5;", "mark 0 0 0 3", "day 30", "mark 0 0 0 4", "mark 1 0 2 20");
        doc("## Promise 16: sum long sum(int school, int year, int known): SUM. -2,000,000,000,000: none such.");
        Due.is(land, "sum 0 0 29", 8);
        Due.is(land, "sum 0 0 30", 9);
        Due.is(land, "sum 2 0 30", NOTHING);
        Due.is(land, "sum 0 10 30", NOTHING);
        Due.is(land, "sum 0 0 1000", NOTHING);
        doc("## Promise 17: led long led(int school, int year, int k): Line k (0 to 34) of DUE. -2,000,000,000,000: none such.");
        Due.is(land, "led 0 1 0", 4);
        Due.is(land, "led 0 1 1", 5);
        Due.is(land, "led 0 1 33", 1);
        Due.is(land, "led 0 1 35", NOTHING);
        Due.is(land, "led 0 1 -1", NOTHING);
        Due.is(land, "led 2 1 0", NOTHING);
        doc("## Promise 18: due long due(int school, int year): DUE. -2,000,000,000,000: none such.");
        Due.is(land, "due 0 0", 8);
        Due.is(land, "due 0 1", 10);
        Due.is(land, "due 1 1", 25 + 20);
        Due.is(land, "due 2 1", NOTHING);
        Due.is(land, "due 0 -1", NOTHING);
        doc("## Promise 19: all long all(int year, int known): All SUMS of a YEAR as KNOWN by a DAY. -2,000,000,000,000: none such.");
        Due.is(land, "all 0 29", 8 + 5);
        Due.is(land, "all 0 30", 9 + 25);
        Due.is(land, "all 10 30", NOTHING);
        Due.is(land, "all 0 -1", NOTHING);
    }

    static void promisesOfMoves() {
        Story land = land(3).then("school 0 1 0", "formula 0: line a=100;move 5;");
        doc("## Promise 20: propose int propose(int council, int from, int to, int coins, int year): Proposed: the number. NONE, doing nothing: not as told, 20 are there.");
        Due.is(land.then("propose 0 0 1 5 1"), "propose 0 1 2 9 9", 1);
        String[] many = new String[20];
        java.util.Arrays.fill(many, "propose 0 0 1 5 1");
        Due.refused(land.then(many), "propose 0 0 1 5 1", -1);
        Due.refused(land, "propose 0 0 3 5 1", -1);
        doc("## Promise 21: object boolean object(int proposal, int school): A SCHOOL objects: true; false, doing nothing: none such, it may not, it did, it's ADOPTED.");
        Story asked = land.then("propose 0 0 1 5 1", "propose 0 0 1 10 1", "propose 0 1 2 11 1");
        Due.is(asked, "object 0 0", 1);
        Due.refused(asked, "object 3 0", 0);
        Due.refused(asked, "object 0 4", 0);
        Due.refused(asked, "object 0 3", 0);
        Due.refused(asked.then("object 0 0"), "object 0 0", 0);
        Due.refused(asked.then("day 10", "adopt 0"), "object 0 1", 0);
        doc("## Promise 22: adopt int adopt(int proposal): ADOPTED: 0. Not, the first of: 1 none such, it is; 2 too early; 3 too late; 4 objections; 5 too much.");
        Story later = asked.then("object 2 0", "object 2 1", "day 10");
        Due.is(later, "adopt 0", 0);
        Due.refused(later, "adopt 3", 1);
        Due.refused(later.then("adopt 0"), "adopt 0", 1);
        Due.refused(asked.then("object 2 0", "object 2 1"), "adopt 2", 2);
        Due.refused(later.then("day 100"), "adopt 2", 3);
        Due.refused(later, "adopt 2", 4);
        Due.is(later, "adopt 1", 0);
        Due.is(later.then("adopt 1"), "adopt 0", 0);
        Due.refused(later.then("adopt 1", "formula 1: line a=99;move 5;"), "adopt 0", 5);
    }

    static void promisesBeside() {
        Story land = land(2).then("formula 0: line a=heads*10;line b=meals;", "mark 0 0 0 3", "mark 0 0 3 2", "mark 1 0 0 4", "join 0 1 5");
        Story beside = land.then("beside: line a=35;", "day 20", "mark 1 0 0 1");
        doc("## Promise 23: other long other(int school, int year): BESIDE: a SCHOOL's SUM by it as KNOWN TODAY. -2,000,000,000,000: none is beside, none such.");
        Due.is(land, "other 0 0", NOTHING);
        Due.is(beside, "other 0 0", 35);
        Due.is(beside.then("beside: line a=heads;"), "other 1 0", 1);
        Due.is(beside, "other 1 5", 0);
        Due.is(beside, "other 2 0", NOTHING);
        Due.is(beside, "other 0 10", NOTHING);
        doc("## Promise 24: losers int losers(int year): LOSERS. NONE: none is beside, none such.");
        Due.is(land, "losers 0", -1);
        Due.is(land.then("beside: line a=35;"), "losers 0", 1);
        Due.is(beside, "losers 0", 0);
        Due.is(beside, "losers 10", -1);
        doc("## Promise 25: edge long edge(int school, int year, int what): EDGE (marks 0 to 4 of the YEAR that is looked at, as KNOWN TODAY). -2,000,000,000,000: none such, not OPEN.");
        Due.is(land, "edge 0 0 1", 10);
        Due.is(land, "edge 0 0 3", 1);
        Due.is(land, "edge 0 0 4", 0);
        Due.is(land, "edge 0 0 5", NOTHING);
        Due.is(land, "edge 1 4 1", 10);
        Due.is(land, "edge 1 5 1", NOTHING);
        Due.is(land, "edge 2 0 1", NOTHING);
        doc("## Promise 26: rates long rates(int year, int a, int b, int t, int what): RATES (lines 0 on, unlike ones; t 0 to 999,999,999): LOSERS (what 0), the sum (1), a's tenths (2), b's (3). -2,000,000,000,000: none such, none is at most t.");
        long[] rates = {0, 100, 14, 10};
        for (int what = 0; what < 4; what++) Due.is(land, "rates 0 0 1 100 " + what, rates[what]);
        Due.is(land, "rates 0 1 1 100 1", NOTHING);
        Due.is(land, "rates 0 2 1 100 1", NOTHING);
        Due.is(land, "rates 0 0 1 100 4", NOTHING);
        Due.is(land, "rates 0 0 1 1000000000 1", NOTHING);
        Due.is(land.then("formula 0: line a=1;line b=2;line c=9;"), "rates 0 0 1 17 1", NOTHING);
        Due.is(land.then("formula 0: line a=1;line b=2;line c=9;"), "rates 0 0 1 18 1", 18);
        doc("## Promise 27: foretold int foretold(int school, int age, int n, int what): FORETOLD: heads (what 0), from (1), to (2). NONE: none, none such.");
        Story told = land.then("day 150", "mark 1 1 0 7");
        long[] heads = {13, 7, 19};
        for (int what = 0; what < 3; what++) Due.is(told, "foretold 1 0 2 " + what, heads[what]);
        Due.is(told, "foretold 1 0 2 3", -1);
        Due.is(told, "foretold 0 0 2 0", -1);
        Due.is(told, "foretold 2 0 2 0", -1);
        doc("## Promise 28: doubt int doubt(int school, int year): DOUBT: bits. NONE: none such.");
        Due.is(told.then("mark 1 1 5 6"), "doubt 1 1", 1);
        Due.is(told, "doubt 1 1", 0);
        Due.is(told, "doubt 2 1", -1);
        Due.is(told, "doubt 1 10", -1);
        doc("## Promise 29: count int count(int what): 0 TODAY, 1 SCHOOLS, 2 OPEN in TODAY's YEAR, 3 MARKS, 4 JOINED, 5 FORMULAE, 6 proposals, 7 ADOPTED ones, 8 bytes on the tape, 9 whether a FORMULA is beside (1). NONE for others.");
        long[] counts = {20, 2, 2, 4, 1, 1, 0, 0, 0, 1};
        for (int what = 0; what < 10; what++) Due.is(beside, "count " + what, counts[what]);
        Story more = beside.then("formula 0: line a=100;move 9;", "propose 0 0 1 3 1", "propose 0 0 1 4 1", "day 40", "adopt 1", "day 500", "tape: line a");
        long[] then = {500, 2, 1, 4, 1, 2, 2, 1, 20, 1};
        for (int what = 0; what < 10; what++) Due.is(more, "count " + what, then[what]);
        Due.is(more, "count 10", -1);
        Due.is(more, "count -1", -1);
        doc("## Not promised");
    }
}
