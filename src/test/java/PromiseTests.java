/** Each promise by hand: ordinary inputs, the edges that the document names, wrong inputs. */
public final class PromiseTests {
    static final long NOTHING = -2000000000000L;
    static int wrong;
    static int checks;
    static int promise;

    public static void main(String[] args) {
        newObject();
        days();
        schools();
        needs();
        roads();
        marks();
        joins();
        tapes();
        grammar();
        places();
        bounds();
        opens();
        statementBound();
        beside();
        laws();
        lines();
        held();
        joinedSums();
        lastKeepsUp();
        knownBy();
        fullLand();
        floorsAndCaps();
        baseEdges();
        totals();
        wideTotals();
        duesAndLed();
        ledByStatements();
        proposals();
        objections();
        adoptions();
        losersAndEdges();
        rates();
        foretold();
        doubts();
        System.out.println(checks + " checks, " + wrong + " wrong");
        if (wrong != 0) System.exit(1);
    }

    static void due(String call, long got, long want) {
        checks++;
        if (got == want) return;
        wrong++;
        System.out.println("promise " + promise + ": " + call + " answered " + got + ", due is " + want);
    }

    static void due(String call, boolean got, boolean want) {
        due(call, got ? 1 : 0, want ? 1 : 0);
    }

    static void feed(PupilCoin x, String text) {
        StringBuilder padded = new StringBuilder(text);
        while (padded.length() % 20 != 0) padded.append('!');
        for (int i = 0; i < padded.length(); i += 20) {
            int[] a = new int[5];
            for (int j = 0; j < 20; j++) a[j / 4] = a[j / 4] << 8 | padded.charAt(i + j) & 255;
            x.feed(a[0], a[1], a[2], a[3], a[4]);
        }
    }

    static int tell(PupilCoin x, String text, int year) {
        feed(x, text);
        return x.formula(text.length(), year);
    }

    static int tellBeside(PupilCoin x, String text) {
        feed(x, text);
        return x.beside(text.length());
    }

    static void faulty(String text, int place) {
        PupilCoin x = new PupilCoin();
        due("\"" + text + "\"", tell(x, text, 0), place == -1 ? 0 : -1);
        due("the fault of \"" + text + "\"", x.fault(), place);
    }

    static PupilCoin land(int schools) {
        PupilCoin x = new PupilCoin();
        for (int s = 0; s < schools; s++) x.school(s % 8, 0, s);
        return x;
    }

    static void newObject() {
        promise = 1;
        PupilCoin x = new PupilCoin();
        for (int what = 0; what < 10; what++) due("count(" + what + ")", x.count(what), 0);
        promise = 29;
        due("count(-1)", x.count(-1), -1);
        due("count(10)", x.count(10), -1);
        due("fault()", x.fault(), -1);
        due("all(0, 0)", x.all(0, 0), 0);
        due("sum(0, 0, 0)", x.sum(0, 0, 0), NOTHING);
        due("law(0, 0, 7)", x.law(0, 0, 7), -1);
        due("NONE", PupilCoin.NONE, -1);
    }

    static void days() {
        promise = 2;
        PupilCoin x = new PupilCoin();
        due("day(0)", x.day(0), false);
        due("day(-1)", x.day(-1), false);
        due("day(5)", x.day(5), true);
        due("day(5)", x.day(5), false);
        due("day(4)", x.day(4), false);
        due("day(1000)", x.day(1000), false);
        due("count(0)", x.count(0), 5);
        due("day(999)", x.day(999), true);
        due("count(0)", x.count(0), 999);
    }

    static void schools() {
        promise = 3;
        PupilCoin x = new PupilCoin();
        int[][] bad = {{-1, 0, 0}, {8, 0, 0}, {0, -1, 0}, {0, 3, 0}, {0, 0, -1}, {0, 0, 16}};
        for (int[] b : bad) due("school not as told", x.school(b[0], b[1], b[2]), -1);
        for (int s = 0; s < 12; s++) due("school " + s, x.school(7, 2, 15), s);
        due("the 13th", x.school(0, 0, 0), -1);
        due("count(1)", x.count(1), 12);
        due("count(2)", x.count(2), 12);
        promise = 10;
        due("open(11, 9)", x.open(11, 9), 1);
        due("open(12, 0)", x.open(12, 0), -1);
        due("open(-1, 0)", x.open(-1, 0), -1);
        due("open(0, 10)", x.open(0, 10), -1);
        due("open(0, -1)", x.open(0, -1), -1);
    }

    static void needs() {
        promise = 4;
        PupilCoin x = land(2);
        due("need(-1, 0)", x.need(-1, 0), false);
        due("need(8, 0)", x.need(8, 0), false);
        due("need(0, -1)", x.need(0, -1), false);
        due("need(0, 101)", x.need(0, 101), false);
        tell(x, "line a=need*10+ward;", 0);
        due("sum without need", x.sum(0, 0, 0), 0);
        due("need(0, 100)", x.need(0, 100), true);
        due("sum with need", x.sum(0, 0, 0), 1000);
        due("need(0, 0)", x.need(0, 0), true);
        due("sum with a need of 0", x.sum(0, 0, 0), 0);
        due("need(0, 7)", x.need(0, 7), true);
        due("sum with another need", x.sum(0, 0, 0), 70);
        due("sum of the other ward", x.sum(1, 0, 0), 1);
    }

    static void roads() {
        promise = 5;
        PupilCoin x = new PupilCoin();
        int[][] bad = {{-1, 0, 5}, {0, -1, 5}, {16, 0, 5}, {0, 16, 5}, {3, 3, 5}, {0, 1, -1}, {0, 1, 1000}};
        for (int[] b : bad) due("road not as told", x.road(b[0], b[1], b[2]), false);
        promise = 6;
        x.school(0, 0, 0);
        due("far of the only one", x.far(0, 0), 9999);
        x.school(0, 0, 3);
        due("far without roads", x.far(0, 0), 9999);
        x.road(0, 1, 999);
        x.road(1, 3, 999);
        due("far over a node", x.far(0, 0), 1998);
        x.road(0, 2, 4);
        x.road(3, 2, 5);
        due("far by the shorter way", x.far(1, 9), 9);
        promise = 5;
        due("road told again the other way round", x.road(2, 0, 10), true);
        due("far by it", x.far(0, 0), 15);
        due("road taken away", x.road(0, 2, 0), true);
        due("far without it", x.far(0, 0), 1998);
        due("no road told where none was", x.road(9, 10, 0), true);
        promise = 6;
        x.school(0, 0, 3);
        due("far at the same node", x.far(1, 0), 0);
        x.join(1, 2, 2);
        due("far when that one is open", x.far(1, 1), 0);
        due("far when it isn't", x.far(1, 2), 1998);
        due("far of one that isn't open", x.far(2, 2), -1);
        due("far(3, 0)", x.far(3, 0), -1);
        due("far(-1, 0)", x.far(-1, 0), -1);
        due("far(0, 10)", x.far(0, 10), -1);
        due("far(0, -1)", x.far(0, -1), -1);
        PupilCoin y = new PupilCoin();
        y.school(0, 0, 0);
        y.school(0, 0, 11);
        for (int n = 0; n < 11; n++) y.road(n, n + 1, n < 10 ? 999 : 9);
        due("far of 9,999", y.far(0, 0), 9999);
        y.road(10, 11, 8);
        due("far of 9,998", y.far(0, 0), 9998);
        y.road(10, 11, 999);
        due("far of more", y.far(0, 0), 9999);
    }

    static void marks() {
        promise = 7;
        PupilCoin x = land(2);
        int[][] bad = {{-1, 0, 0, 1}, {2, 0, 0, 1}, {0, -1, 0, 1}, {0, 10, 0, 1}, {0, 0, -1, 1}, {0, 0, 6, 1}, {0, 0, 0, -1}, {0, 0, 0, 10000}};
        for (int[] b : bad) due("mark not as told", x.mark(b[0], b[1], b[2], b[3]), -1);
        due("count(3)", x.count(3), 0);
        due("mark of 9,999", x.mark(0, 9, 5, 9999), 0);
        due("mark of 0", x.mark(0, 0, 0, 0), 1);
        promise = 8;
        due("marked 9,999", x.marked(0, 9, 5, 0), 9999);
        due("marked 0", x.marked(0, 0, 0, 999), 0);
        due("none told", x.marked(1, 0, 0, 0), -1);
        x.day(50);
        due("mark later", x.mark(0, 0, 0, 7), 2);
        due("mark on the same day", x.mark(0, 0, 0, 8), 3);
        due("known ahead of it", x.marked(0, 0, 0, 49), 0);
        due("known on the day", x.marked(0, 0, 0, 50), 8);
        x.mark(1, 3, 2, 4);
        due("not known ahead of the first", x.marked(1, 3, 2, 49), -1);
        int[][] none = {{-1, 0, 0, 0}, {2, 0, 0, 0}, {0, -1, 0, 0}, {0, 10, 0, 0}, {0, 0, -1, 0}, {0, 0, 6, 0}, {0, 0, 0, -1}, {0, 0, 0, 1000}};
        for (int[] b : none) due("marked, none such", x.marked(b[0], b[1], b[2], b[3]), -1);
        promise = 7;
        for (int i = 5; i < 300; i++) due("mark " + i, x.mark(1, 1, i % 6, i), i);
        due("the 301st", x.mark(1, 1, 1, 1), -1);
        due("count(3)", x.count(3), 300);
        promise = 8;
        due("the last told", x.marked(1, 1, 5, 60), 299);
        x.day(60);
        x.join(1, 0, 1);
        due("a joined one's own", x.marked(0, 0, 0, 60), 8);
    }

    static void joins() {
        promise = 9;
        PupilCoin x = land(12);
        x.day(99);
        int[][] bad = {{-1, 0, 1}, {12, 0, 1}, {0, -1, 1}, {0, 12, 1}, {0, 0, 1}, {0, 1, 0}, {0, 1, 10}};
        for (int[] b : bad) due("join not as told", x.join(b[0], b[1], b[2]), -1);
        due("join(0, 1, 1)", x.join(0, 1, 1), 1);
        due("taken again", x.join(2, 1, 5), -1);
        due("one that's taken takes", x.join(1, 2, 5), -1);
        due("join(0, 2, 5)", x.join(0, 2, 5), 2);
        due("taken later on", x.join(3, 2, 4), -1);
        due("takes, but is taken later", x.join(2, 3, 4), -1);
        due("a taker is taken", x.join(3, 0, 7), 3);
        promise = 10;
        due("open(1, 0)", x.open(1, 0), 1);
        due("open(1, 1)", x.open(1, 1), 0);
        due("open(2, 4)", x.open(2, 4), 1);
        due("open(2, 9)", x.open(2, 9), 0);
        promise = 29;
        due("count(2)", x.count(2), 12);
        x.day(100);
        due("count(2)", x.count(2), 11);
        due("count(4)", x.count(4), 3);
        promise = 9;
        due("a year that is this one", x.join(3, 4, 1), -1);
        due("4th", x.join(3, 4, 9), 4);
        due("5th", x.join(3, 5, 2), 5);
        due("6th", x.join(3, 6, 2), 6);
        due("7th", x.join(3, 7, 2), -1);
        due("open(7, 2)", x.open(7, 2), 1);
    }

    static void tapes() {
        promise = 11;
        PupilCoin x = new PupilCoin();
        for (int i = 1; i <= 35; i++) due("feed " + i, x.feed(0, 0, 0, 0, 0), 20 * i);
        due("feed beyond 700", x.feed(0, 0, 0, 0, 0), -1);
        due("count(8)", x.count(8), 700);
        promise = 12;
        due("formula(701, 0)", x.formula(701, 0), -2);
        due("formula(-1, 0)", x.formula(-1, 0), -2);
        due("formula(0, -1)", x.formula(0, -1), -2);
        due("formula(0, 10)", x.formula(0, 10), -2);
        due("count(8)", x.count(8), 700);
        due("formula(700, 0)", x.formula(700, 0), -1);
        due("count(8)", x.count(8), 0);
        promise = 14;
        due("fault()", x.fault(), 0);
        x.feed(0x20202020, 0x20200a20, 0x0aff6c69, -1, 7);
        promise = 12;
        due("formula(1, 9)", x.formula(1, 9), 0);
        due("count(8)", x.count(8), 0);
        promise = 14;
        due("fault()", x.fault(), -1);
        promise = 11;
        x.feed(0x20202020, 0x20200a20, 0x0aff6c69, -1, 7);
        x.formula(20, 9);
        due("the byte 255's place", x.fault(), 9);
        promise = 12;
        x.day(250);
        due("formula(0, 1)", x.formula(0, 1), -2);
        due("formula(1, 2)", x.formula(1, 2), -2);
        due("fault() stays", x.fault(), 9);
        for (int n = 1; n < 8; n++) due("formula " + n, x.formula(0, 2), n);
        due("the 9th", x.formula(0, 2), -3);
        due("the 9th, not as told", x.formula(1, 2), -2);
        x.feed(1, 2, 3, 4, 5);
        due("the 9th, with a fault", x.formula(20, 2), -3);
        due("count(8)", x.count(8), 20);
        due("count(5)", x.count(5), 8);
    }

    static void grammar() {
        promise = 12;
        faulty("", -1);
        faulty(" \n ", -1);
        faulty("line a=1;", -1);
        faulty("line\na = first+lower-upper*heads/meals ;\n", -1);
        faulty("line abcdefgh=special*need-far+last*ward;", -1);
        faulty("line a=min(1,2)+max((3),min(4,5))if 1<2or 3>4and not 5=6;", -1);
        faulty("line a=1 if{1<2 and 3<4}or not{5<6};line b=a if a=b;", 50);
        faulty("floor95;cap110;total0013000;order cap;move5;line a=1;share a;", -1);
        faulty("line a=1if 1=1;", -1);
        faulty("line minx=1;line ifs=minx;", -1);
        faulty("total 9999999;line a=9999999;", -1);
    }

    static void places() {
        promise = 14;
        faulty("A", 0);
        faulty("  \t", 2);
        faulty("lines a=1;", 0);
        faulty("line", 4);
        faulty("line  ", 6);
        faulty("line a", 6);
        faulty("line a=", 7);
        faulty("line a=1", 8);
        faulty("line a=1 ", 9);
        faulty("line a=1;;", 9);
        faulty("line a 1;", 7);
        faulty("line 1=1;", 5);
        faulty("line abcdefghi=1;", 5);
        faulty("line if=1;", 5);
        faulty("line and=1;", 5);
        faulty("line move=1;", 5);
        faulty("line ward=1;", 5);
        faulty("line a=a;", 7);
        faulty("line a=1 if a<2;", 12);
        faulty("line a=1;line a=2;", 14);
        faulty("line a=1;line b=c;", 16);
        faulty("line a=not 1;", 7);
        faulty("line a={1};", 7);
        faulty("line a=-1;", 7);
        faulty("line a=1+;", 9);
        faulty("line a=1*/2;", 9);
        faulty("line a=(1;", 9);
        faulty("line a=();", 8);
        faulty("line a=1);", 8);
        faulty("line a=min 1;", 11);
        faulty("line a=max(1);", 12);
        faulty("line a=max(1,2,3);", 14);
        faulty("line a=1 if;", 11);
        faulty("line a=1 if 2;", 13);
        faulty("line a=1 if 2<3<4;", 15);
        faulty("line a=1 if 2<3 and;", 19);
        faulty("line a=1 if 2<3 not 4<5;", 16);
        faulty("line a=1 if (2<3);", 14);
        faulty("line a=1 if {2<3;", 16);
        faulty("line a=1 if {2}<3;", 14);
        faulty("line a=1 if 2<3 if 2<3;", 16);
        faulty("line a=1.5;", 8);
        faulty("line a=heads 2;", 13);
        faulty("line a=12 3;", 10);
        faulty("floor;", 5);
        faulty("floor heads;", 6);
        faulty("floor 1 1;", 8);
        faulty("order;", 5);
        faulty("order total;", 6);
        faulty("order floor cap;", 12);
        faulty("share;", 5);
        faulty("line a=1;share b;", 15);
        faulty("share a;line a=1;", 6);
        faulty("line a=1;share heads;", 15);
        faulty("if 1<2;", 0);
        faulty("a=1;", 0);
        faulty(";", 0);
        faulty("Line a=1;", 0);
    }

    static void bounds() {
        promise = 14;
        faulty("floor 1000;cap 1000;move 100;", -1);
        faulty("floor 0;cap 0;move 0;total 0;", -1);
        faulty("floor 0001000;", -1);
        faulty("floor 00001000;", 6);
        faulty("floor 1001;", 6);
        faulty("cap 1001;", 4);
        faulty("move 101;", 5);
        faulty("total 10000000;", 6);
        faulty("line a=12345678;", 7);
        faulty("line a=00000001;", 7);
        faulty("line a=99999999999999999999999;", 7);
    }

    static void opens() {
        promise = 14;
        faulty("line a=((((((((1))))))));", -1);
        faulty("line a=(((((((((1)))))))));", 15);
        faulty("line a=((((((((1))))))))+((((((((1))))))));", -1);
        faulty("line a=(((((((min(1,2))))))));", -1);
        faulty("line a=((((((((min(1,2)))))))));", 15);
        faulty("line a=max(1,max(1,max(1,max(1,max(1,max(1,max(1,max(1,(2)))))))));", 55);
        faulty("line a=min(min(min(min(min(min(min(min(1,2),2),2),2),2),2),2),2);", -1);
        faulty("line a=min(min(min(min(min(min(min(min((1),2),2),2),2),2),2),2),2);", 39);
        faulty("line a=1 if not not not not not not not not 1<2;", -1);
        faulty("line a=1 if not not not not not not not not not 1<2;", 44);
        faulty("line a=1 if not not not not not not not not (1)<2;", 44);
        faulty("line a=1 if not not not not not not not not 1<2 and not 1<2;", -1);
        faulty("line a=1 if {{{{{{{{1<2}}}}}}}};", -1);
        faulty("line a=1 if {{{{{{{{{1<2}}}}}}}}};", 20);
        faulty("line a=1 if {{{{{{{(1)<2}}}}}}};", -1);
        faulty("line a=1 if {{{{not not {not((1))<2}}}}};", 28);
    }

    static void statementBound() {
        promise = 14;
        StringBuilder text = new StringBuilder();
        for (int i = 0; i < 30; i++) text.append("move 1;");
        faulty(text.toString(), -1);
        faulty(text + "  ", -1);
        faulty(text + " move 1;", 211);
        faulty(text + "\n!", 211);
        StringBuilder lines = new StringBuilder();
        for (int i = 0; i < 30; i++) lines.append("line a").append((char) ('a' + i % 26)).append(i < 26 ? "" : "x").append("=").append(i).append(";");
        PupilCoin x = land(1);
        due("thirty lines", tell(x, lines.toString(), 0), 0);
        promise = 17;
        due("led(0, 0, 29)", x.led(0, 0, 29), 29);
        due("led(0, 0, 30)", x.led(0, 0, 30), 0);
        due("sum", x.sum(0, 0, 0), 435);
        promise = 15;
        due("law(0, 0, 6)", x.law(0, 0, 6), 30);
    }

    static void beside() {
        promise = 13;
        PupilCoin x = land(2);
        x.mark(0, 0, 0, 10);
        due("beside(-1)", x.beside(-1), -2);
        due("beside(1)", x.beside(1), -2);
        due("count(9)", x.count(9), 0);
        due("beside", tellBeside(x, "line a=heads*3;"), 0);
        due("count(9)", x.count(9), 1);
        due("count(8)", x.count(8), 0);
        due("beside(1)", x.beside(1), -2);
        due("count(9)", x.count(9), 1);
        promise = 23;
        due("other(0, 0)", x.other(0, 0), 30);
        due("other(0, 9)", x.other(0, 9), 0);
        due("other(2, 0)", x.other(2, 0), NOTHING);
        due("other(-1, 0)", x.other(-1, 0), NOTHING);
        due("other(0, 10)", x.other(0, 10), NOTHING);
        due("other(0, -1)", x.other(0, -1), NOTHING);
        x.join(1, 0, 4);
        due("other of one that isn't open", x.other(0, 4), 0);
        promise = 13;
        due("in place of what was", tellBeside(x, "line a=heads*4;"), 0);
        due("other(0, 0)", x.other(0, 0), 40);
        due("sum(0, 0, 0)", x.sum(0, 0, 0), 0);
        due("with a fault", tellBeside(x, "line a=heads*;"), -1);
        due("fault()", x.fault(), 13);
        due("count(9)", x.count(9), 0);
        due("other(0, 0)", x.other(0, 0), NOTHING);
        due("an empty one", x.beside(0), 0);
        due("fault()", x.fault(), -1);
        due("other(0, 0)", x.other(0, 0), 0);
        promise = 23;
        // LAST is by the formulae in force, whatever is beside.
        PupilCoin y = land(1);
        y.mark(0, 0, 0, 10);
        tell(y, "line a=heads*5;", 0);
        tellBeside(y, "line a=last*2;floor 300;");
        due("other(0, 1)", y.other(0, 1), 150);
        due("other(0, 0)", y.other(0, 0), 0);
        y.mark(0, 0, 0, 20);
        y.day(30);
        y.mark(0, 0, 0, 30);
        due("other as known today", y.other(0, 1), 450);
    }

    static void laws() {
        promise = 15;
        PupilCoin x = land(1);
        // Issues 5, 6 and 9: such a year has no statements, 0 of them; without "move" it's 0, without "order" floor.
        int[] without = {-1, -1, -1, 0, 0, -1, 0, -1};
        for (int what = 0; what < 8; what++) due("law without any, " + what, x.law(0, 0, what), without[what]);
        due("move of no year", x.law(-1, 0, 3), -1);
        due("move of year 10", x.law(10, 0, 3), -1);
        due("order of no day", x.law(0, -1, 4), -1);
        due("order of day 1000", x.law(0, 1000, 4), -1);
        int[][] none = {{-1, 0}, {10, 0}, {0, -1}, {0, 1000}};
        for (int[] n : none) due("statements of none such", x.law(n[0], n[1], 6), -1);
        due("without any, after a fault", tell(x, "line a=1;total 5;move 3;x", 0), -1);
        for (int what = 0; what < 8; what++) due("after a fault, " + what, x.law(0, 0, what), without[what]);
        due("beside is in force for no year", tellBeside(x, "line a=1;total 5;move 3;order cap;share a;"), 0);
        for (int what = 0; what < 8; what++) due("with one beside, " + what, x.law(0, 0, what), without[what]);
        due("without any, 8", x.law(0, 0, 8), -1);
        due("without any, -1", x.law(0, 0, -1), -1);
        x.day(20);
        due("formula 0", tell(x, "floor 90;line a=1;line b=2;share b;cap 0;floor 91;total 7;move 3;order cap;move 4;", 1), 0);
        due("formula 1", tell(x, "order cap;order floor;line c=3;", 3), 1);
        int[] want = {91, 0, 7, 4, 1, 2, 10, 0};
        for (int what = 0; what < 8; what++) due("law(1, 20, " + what + ")", x.law(1, 20, what), want[what]);
        due("law(1, 19, 7)", x.law(1, 19, 7), -1);
        due("law(0, 20, 7)", x.law(0, 20, 7), -1);
        for (int what = 0; what < 8; what++) {
            due("ahead of its day, " + what, x.law(1, 19, what), without[what]);
            due("ahead of its year, " + what, x.law(0, 20, what), without[what]);
        }
        due("law(2, 999, 7)", x.law(2, 999, 7), 0);
        int[] plain = {-1, -1, -1, 0, 0, -1, 3, 1};
        for (int what = 0; what < 8; what++) due("law(9, 20, " + what + ")", x.law(9, 20, what), plain[what]);
        due("law(1, 20, 8)", x.law(1, 20, 8), -1);
        due("law(1, 20, -1)", x.law(1, 20, -1), -1);
        due("law(-1, 20, 7)", x.law(-1, 20, 7), -1);
        due("law(10, 20, 7)", x.law(10, 20, 7), -1);
        due("law(1, -1, 7)", x.law(1, -1, 7), -1);
        due("law(1, 1000, 7)", x.law(1, 1000, 7), -1);
        x.day(30);
        due("formula 2", tell(x, "line d=4;", 1), 2);
        due("formula 3", tell(x, "line d=5;", 0), 3);
        due("told last of one year", x.law(2, 30, 7), 2);
        due("the latest year, though told ahead", x.law(3, 30, 7), 1);
        due("of year 0", x.law(0, 30, 7), 3);
        due("as known ahead", x.law(1, 29, 7), 0);
        promise = 16;
        due("sum by it", x.sum(0, 2, 30), 4);
        due("sum as known ahead", x.sum(0, 2, 29), 7);
        due("sum of year 0", x.sum(0, 0, 30), 5);
        due("sum as known ahead of any", x.sum(0, 0, 29), 0);
    }

    static void lines() {
        promise = 16;
        PupilCoin x = new PupilCoin();
        x.school(5, 0, 0);
        x.school(5, 0, 1);
        x.road(0, 1, 13);
        x.need(5, 40);
        for (int what = 0; what < 6; what++) x.mark(0, 0, what, 1 << what);
        tell(x, "line a=first+lower*10+upper*100+heads*1000+meals*10000+special*100000;"
            + "line b=need*1000+far*10+ward-last;line c=a/0+b;line d=7-9/2*2-1;line e=(0-7)/2;line f=min(a,3)-max(4,5);"
            + "line g=1 if not{a<5 or a>5};line h=2 if a=b or 1<2 and 3<2;line i=3 if not a=b and not 2<1;"
            + "line j=4 if not a<5 or 1=2;line k=heads/2*2;", 0);
        long[] want = {1 + 20 + 400 + 7000 + 80000 + 1600000, 40000 + 130 + 5, 40135, -2, -3, -2, 0, 0, 3, 4, 6};
        long sum = 0;
        for (int k = 0; k < want.length; k++) {
            due("line " + k, x.led(0, 0, k), want[k]);
            sum += want[k];
        }
        due("sum", x.sum(0, 0, 0), sum);
        due("sum in year 1 looks at year 0, and at last", x.sum(0, 1, 0), 1687421 + 40135 - sum + 40135 - sum - 2 - 3 - 2 + 3 + 4 + 6);
        due("sum in year 2 looks at year 1", x.led(0, 2, 0), 0);
        due("sum(-1, 0, 0)", x.sum(-1, 0, 0), NOTHING);
        due("sum(2, 0, 0)", x.sum(2, 0, 0), NOTHING);
        due("sum(0, -1, 0)", x.sum(0, -1, 0), NOTHING);
        due("sum(0, 10, 0)", x.sum(0, 10, 0), NOTHING);
        due("sum(0, 0, -1)", x.sum(0, 0, -1), NOTHING);
        due("sum(0, 0, 1000)", x.sum(0, 0, 1000), NOTHING);
        due("sum(0, 0, 999)", x.sum(0, 0, 999), sum);
        PupilCoin y = land(2);
        tell(y, "line a=heads;", 0);
        y.mark(0, 4, 1, 9);
        y.day(7);
        y.mark(0, 4, 1, 5);
        promise = 16;
        due("year 5 as known ahead", y.sum(0, 5, 6), 9);
        due("year 5 as known", y.sum(0, 5, 7), 5);
        due("year 4", y.sum(0, 4, 7), 0);
        promise = 19;
        y.mark(1, 4, 0, 30);
        due("all(5, 6)", y.all(5, 6), 9);
        due("all(5, 7)", y.all(5, 7), 35);
        due("all(-1, 0)", y.all(-1, 0), NOTHING);
        due("all(10, 0)", y.all(10, 0), NOTHING);
        due("all(0, -1)", y.all(0, -1), NOTHING);
        due("all(0, 1000)", y.all(0, 1000), NOTHING);
    }

    static void held() {
        promise = 16;
        PupilCoin x = land(1);
        tell(x, "line a=9999999*9999999;line b=0-a*a;line c=a+a;line d=b-a;line e=a*a/a;line f=b*2/3;line g=min(a+1,a)-a;line h=a-1+2;", 0);
        long[] want = {100000000, -100000000, 100000000, -100000000, 1, -33333333, 0, 100000000};
        for (int k = 0; k < want.length; k++) due("held line " + k, x.led(0, 0, k), want[k]);
        // Lines together aren't held, but LAST is, as a word.
        PupilCoin y = land(1);
        tell(y, "line a=100*9999999;line b=a;line c=last;", 0);
        due("lines together", y.sum(0, 0, 0), 200000000);
        due("last as a word", y.led(0, 1, 2), 100000000);
        due("with it", y.sum(0, 1, 100), 300000000);
    }

    static void joinedSums() {
        promise = 16;
        PupilCoin x = land(4);
        tell(x, "line a=heads*10;line b=last;line c=meals;line d=special;", 0);
        for (int s = 0; s < 4; s++) {
            for (int y = 0; y < 5; y++) x.mark(s, y, 0, 1 << 4 * s);
            x.mark(s, 2, 3, 1 + s);
            x.mark(s, 2, 4, 2 * s);
        }
        x.join(1, 2, 2);
        x.join(0, 1, 3);
        due("own heads in year 1", x.led(1, 1, 0), 160);
        due("both in year 2", x.led(1, 2, 0), 2720);
        due("LAST of both in year 2", x.led(1, 2, 1), 320 + 5120);
        due("the other in year 2", x.sum(2, 2, 0), 0);
        due("and what the other had taken in year 3", x.led(0, 3, 0), 2730);
        due("meals of them", x.led(0, 3, 2), 1 + 2 + 3);
        due("special of them", x.led(0, 3, 3), 2 + 4);
        long own = 10 + 20 + 30;
        long taken = 2720 + 5440;
        due("LAST of them in year 3", x.led(0, 3, 1), own - 10 - 20 + 30 - 30 + taken);
        due("one beside them", x.led(3, 3, 0), 40960);
        // A taker of a school that takes one later on has that one's marks then, too.
        PupilCoin y = land(3);
        tell(y, "line a=heads;", 0);
        for (int s = 0; s < 3; s++) y.mark(s, 6, 1, 1 + 10 * s);
        y.mark(0, 3, 1, 5);
        y.mark(1, 3, 1, 6);
        y.mark(2, 3, 1, 7);
        y.join(1, 2, 7);
        y.join(0, 1, 4);
        due("in year 4", y.sum(0, 4, 0), 11);
        due("the one that is taken later", y.sum(2, 4, 0), 7);
        due("in year 7", y.sum(0, 7, 0), 33);
        due("the one that is taken", y.sum(2, 7, 0), 0);
    }

    /** LAST goes by needs and roads as they are, and by all that is told meanwhile. */
    static void lastKeepsUp() {
        promise = 16;
        PupilCoin x = land(2);
        tell(x, "line a=need+heads if far<9999;line b=last;", 0);
        due("LAST at first", x.sum(0, 2, 0), 0);
        x.road(0, 1, 5);
        x.need(0, 3);
        due("LAST with a need and a road", x.sum(0, 2, 0), 9);
        x.need(0, 5);
        due("LAST with another need", x.sum(0, 2, 0), 15);
        x.mark(0, 0, 0, 100);
        due("LAST with a mark", x.sum(0, 2, 0), 215);
        x.road(0, 1, 0);
        due("LAST without the road", x.sum(0, 2, 0), 0);
        x.school(0, 0, 0);
        due("LAST with a school beside it", x.sum(0, 2, 0), 215);
        due("LAST of that one", x.sum(2, 2, 0), 15);
        due("LAST of year 3", x.sum(0, 3, 0), 220);
        x.join(0, 2, 3);
        due("LAST of year 3 with one joined", x.sum(0, 3, 0), 230);
        x.join(0, 1, 2);
        due("LAST of year 3 with one joined earlier", x.sum(0, 3, 0), 230);
        due("LAST of year 4", x.sum(0, 4, 0), 230);
        tell(x, "line a=1;line b=last;", 1);
        // Year 0: 105, 0, 5; year 1: 106, 1, 6; year 2: 108, none, 7.
        due("LAST by another formula", x.sum(0, 3, 0), 116);
    }

    /** What is told between the days that a year's sum, LAST and heads then go by. */
    static void knownBy() {
        promise = 17;
        PupilCoin x = land(2);
        tell(x, "line a=heads*10;line b=last;", 0);
        tell(x, "line a=heads;line b=last;floor 100;", 2);
        x.mark(0, 0, 0, 10);
        x.mark(0, 0, 3, 90);
        x.mark(0, 1, 0, 20);
        due("floor in year 2 by heads then, meals aside", x.led(0, 2, 30), 400 - 20 - 200);
        x.day(150);
        x.mark(0, 0, 0, 20);
        x.mark(0, 1, 0, 30);
        // Year 1 is 200 and LAST of 100 as known by 200; heads then are 20 as known by 200.
        due("line a of year 2 as known by 200", x.led(0, 2, 0), 30);
        due("LAST of year 2", x.led(0, 2, 1), 300);
        due("heads then as known by 200", x.led(0, 2, 30), 300 * 30 / 20 - 30 - 300);
        due("put right in year 2: year 1 as known by 100 was 200", x.led(0, 2, 33), 100);
        x.day(250);
        x.mark(0, 1, 0, 35);
        due("a mark told later is none of year 2's", x.led(0, 2, 0), 30);
        // Year 2 goes by another formula than year 1: 35 and LAST and a floor; 30 and those before.
        due("put right in year 3", x.led(0, 3, 33), 525 - 450);
        due("due of year 3", x.due(0, 3), 525 + 75);
        promise = 9;
        PupilCoin y = land(2);
        tell(y, "line a=100;", 0);
        tell(y, "line a=last;", 3);
        due("LAST of one", y.sum(0, 3, 0), 100);
        y.join(0, 1, 2);
        due("LAST of one that had taken the other by then", y.sum(0, 3, 0), 100);
        due("the other's", y.sum(1, 3, 0), 0);
        PupilCoin z = land(2);
        tell(z, "line a=100/heads;", 0);
        tell(z, "line a=last;", 3);
        z.mark(0, 1, 0, 5);
        z.mark(1, 1, 0, 20);
        due("LAST ahead of joining", z.sum(0, 3, 0), 20);
        z.join(0, 1, 2);
        due("LAST is by the heads of both, joined", z.sum(0, 3, 0), 4);
    }

    /** All that may be there is there: twelve schools, twenty proposals, eight formulae. */
    static void fullLand() {
        promise = 3;
        PupilCoin x = new PupilCoin();
        for (int s = 0; s < 12; s++) x.school(s % 8, s % 3, s);
        for (int s = 0; s < 12; s++) x.mark(s, 0, 0, 1);
        for (int n = 0; n < 8; n++) tell(x, "line a=heads;line b=last;floor 100;cap 100;total 120;move 100;", 0);
        for (int p = 0; p < 20; p++) x.propose(2, 2, 5, 1, 1);
        for (int s = 2; s < 12; s += 3) x.object(19, s);
        x.join(0, 1, 1);
        x.join(0, 2, 1);
        x.day(10);
        promise = 22;
        for (int p = 0; p < 19; p++) due("adopt " + p, x.adopt(p), 0);
        due("objections of all", x.adopt(19), 4);
        promise = 17;
        due("moved", x.led(5, 1, 34), 19);
        due("moved from one that isn't open", x.led(2, 1, 34), 0);
        due("a share of a full land", x.led(11, 0, 32), 9);
        promise = 19;
        due("all", x.all(1, 100), 120);
        due("the taker's part", x.sum(0, 1, 100), 30);
        promise = 26;
        due("rates of a full land", x.rates(1, 0, 1, 999999999, 1), 12 * 2 + 120 * 2);
        promise = 21;
        due("object(20, 5)", x.object(20, 5), false);
        due("object(19, 12)", x.object(19, 12), false);
        promise = 22;
        due("adopt(20)", x.adopt(20), 1);
    }

    /** One school with 10 heads in year 0 and others in year 1; year 2 goes by those, with LAST 1000. */
    static PupilCoin based(String law, int now) {
        PupilCoin x = land(1);
        x.mark(0, 0, 0, 10);
        x.mark(0, 1, 2, now);
        tell(x, "line a=1000;", 0);
        tell(x, law, 2);
        return x;
    }

    static void floorsAndCaps() {
        promise = 17;
        PupilCoin x = based("line a=900;floor 95;", 10);
        due("floor", x.led(0, 2, 30), 50);
        due("sum", x.sum(0, 2, 200), 950);
        x = based("line a=949;floor 95;", 10);
        due("one below floor", x.led(0, 2, 30), 1);
        x = based("line a=950;floor 95;", 10);
        due("at the floor", x.led(0, 2, 30), 0);
        x = based("line a=1200;cap 110;", 10);
        due("cap", x.led(0, 2, 31), -100);
        due("sum", x.sum(0, 2, 200), 1100);
        x = based("line a=1100;cap 110;", 10);
        due("at the cap", x.led(0, 2, 31), 0);
        x = based("line a=500;floor 95;", 5);
        due("by heads", x.led(0, 2, 30), 0);
        x = based("line a=500;floor 99;", 7);
        due("by heads, cut", x.led(0, 2, 30), 193);
        x = based("line a=1000;floor 120;cap 110;", 10);
        due("floor first", x.led(0, 2, 30), 200);
        due("then cap", x.led(0, 2, 31), -100);
        x = based("line a=1000;order cap;floor 120;cap 110;", 10);
        due("cap first", x.led(0, 2, 31), 0);
        due("then floor", x.led(0, 2, 30), 200);
        x = based("line a=1500;order cap;floor 120;cap 110;", 10);
        due("cap first", x.led(0, 2, 31), -400);
        due("then floor", x.led(0, 2, 30), 100);
        x = based("line a=1500;order cap;order floor;floor 120;cap 110;", 10);
        due("the last order holds", x.led(0, 2, 31), -400);
        due("and no floor", x.led(0, 2, 30), 0);
        x = based("line a=50;cap 0;", 10);
        due("a cap of 0", x.led(0, 2, 31), -50);
        x = based("line a=0-50;floor 0;", 10);
        due("a floor of 0", x.led(0, 2, 30), 50);
        x = based("line a=50;cap 110;", 0);
        due("BASE is 0 without heads now", x.led(0, 2, 31), -50);
    }

    static void baseEdges() {
        promise = 16;
        PupilCoin x = land(1);
        tell(x, "line a=1000;floor 200;", 0);
        x.mark(0, 0, 0, 10);
        due("no BASE in year 0", x.sum(0, 0, 0), 1000);
        due("BASE in year 1: heads then are those of year 0", x.sum(0, 1, 0), 2000);
        PupilCoin y = based("line a=1;floor 100;", 10);
        y.mark(0, 0, 0, 0);
        due("no BASE without heads then", y.sum(0, 2, 200), 1);
        PupilCoin z = land(1);
        z.mark(0, 0, 0, 10);
        z.mark(0, 1, 0, 10);
        tell(z, "line a=1;floor 100;", 2);
        due("no BASE with LAST 0", z.sum(0, 2, 200), 1);
        // Below 0 a BASE is cut towards 0, too: -10 by 3 times 10 is -33, 95 hundredths of it -31.
        PupilCoin w = land(1);
        w.mark(0, 0, 0, 3);
        w.mark(0, 1, 0, 10);
        tell(w, "line a=0-10;", 0);
        tell(w, "line a=0-100;floor 95;", 2);
        due("a BASE below 0", w.sum(0, 2, 200), -31);
        // Heads then are as known when the year begins, heads now as known by the day.
        PupilCoin v = land(1);
        tell(v, "line a=100 if heads<50;floor 100;", 0);
        v.mark(0, 0, 0, 10);
        v.day(60);
        v.mark(0, 0, 0, 20);
        v.day(120);
        v.mark(0, 0, 0, 40);
        due("year 1 as known by day 59", v.sum(0, 1, 59), 100);
        due("year 1 as known by day 100", v.sum(0, 1, 100), 100);
        due("year 1 as known by day 120", v.sum(0, 1, 120), 200);
        // Heads then are those of all that are joined now.
        PupilCoin u = land(2);
        tell(u, "line a=100*heads;", 0);
        tell(u, "line a=0;floor 100;", 2);
        u.mark(0, 0, 0, 10);
        u.mark(1, 0, 0, 30);
        u.mark(0, 1, 0, 20);
        u.mark(1, 1, 0, 60);
        u.join(0, 1, 2);
        due("LAST of both by heads of both", u.sum(0, 2, 200), 8000);
        // BASE is held to ten milliards.
        PupilCoin t = land(1);
        tell(t, "line a=9999999*100;line b=a;line c=a;", 0);
        t.mark(0, 0, 0, 1);
        t.mark(0, 1, 0, 9999);
        tell(t, "line a=1;floor 1000;", 2);
        due("BASE held", t.sum(0, 2, 200), 100000000000L);
    }

    static void totals() {
        promise = 16;
        PupilCoin x = land(4);
        x.mark(0, 0, 0, 1);
        x.mark(1, 0, 0, 1);
        x.mark(2, 0, 0, 1);
        tell(x, "line a=10;total 41;", 0);
        due("by heads: the least one gets what is left", x.sum(0, 0, 0), 11);
        due("by heads", x.sum(1, 0, 0), 10);
        due("without a part", x.sum(3, 0, 0), 10);
        due("all", x.all(0, 0), 41);
        tell(x, "line a=10;total 42;", 0);
        due("two coins left", x.sum(1, 0, 0), 11);
        due("not the third", x.sum(2, 0, 0), 10);
        tell(x, "line a=10;total 38;", 0);
        due("below 0: the first", x.sum(0, 0, 0), 9);
        due("below 0: the second", x.sum(1, 0, 0), 9);
        due("below 0: the third", x.sum(2, 0, 0), 10);
        due("all", x.all(0, 0), 38);
        tell(x, "line a=10;total 0;", 0);
        due("a total of 0", x.all(0, 0), 0);
        due("its coins", x.sum(0, 0, 0), -4);
        x.need(0, 4);
        x.need(1, 2);
        tell(x, "line a=10*need-20;line b=5;share a;total 100;", 0);
        // Lines are 20, 0, -20, -20 and 5 each: the rest is 100 all to school 0.
        due("by a line's sums above 0", x.led(0, 0, 32), 100);
        due("a sum of 0 is no part", x.led(1, 0, 32), 0);
        due("one below 0 is none", x.led(2, 0, 32), 0);
        x.need(0, 2);
        due("without any part nothing is", x.led(0, 0, 32), 0);
        due("all", x.all(0, 0), 0 + 0 - 20 - 20 + 20);
        tell(x, "total 5;", 0);
        PupilCoin y = land(3);
        y.mark(1, 0, 0, 1);
        y.mark(2, 0, 0, 1);
        tell(y, "total 5;", 0);
        due("no coin left over to one without a part", y.led(0, 0, 32), 0);
        due("it goes to the least one with a part", y.led(1, 0, 32), 3);
        PupilCoin z = land(1);
        z.mark(0, 0, 0, 1);
        z.mark(0, 1, 0, 1);
        tell(z, "line a=50;", 0);
        tell(z, "line a=100;cap 110;total 200;", 1);
        due("the rest goes by the cap's line too", z.led(0, 1, 32), 200 - 55);
        due("a total without lines", x.all(0, 0), 5);
        due("its coins", x.sum(0, 0, 0), 2);
        x.join(0, 1, 1);
        due("joined ones part once", x.led(0, 1, 32), 4);
        due("all in year 1", x.all(1, 0), 5);
        due("of one that isn't open", x.led(1, 1, 32), 0);
    }

    static void wideTotals() {
        promise = 16;
        PupilCoin x = land(3);
        tell(x, "line a=9999999*100;line b=a*need/100;", 0);
        for (int s = 0; s < 3; s++) {
            x.mark(s, 0, 0, 1);
            x.mark(s, 1, 0, 9999);
        }
        x.need(0, 100);
        x.need(1, 99);
        x.need(2, 98);
        tell(x, "line a=9999999*10;line b=a/100*need;floor 1000;total 7;share b;", 2);
        // Each BASE is held: each has 10^11 ahead of the share, the rest is 7 - 3 * 10^11.
        java.math.BigInteger rest = java.math.BigInteger.valueOf(7 - 300000000000L);
        long[] part = new long[3];
        java.math.BigInteger parts = java.math.BigInteger.ZERO;
        for (int s = 0; s < 3; s++) {
            part[s] = 999999L * (100 - s);
            parts = parts.add(java.math.BigInteger.valueOf(part[s]));
        }
        long left = rest.longValueExact();
        long[] want = new long[3];
        for (int s = 0; s < 3; s++) {
            want[s] = rest.multiply(java.math.BigInteger.valueOf(part[s])).divide(parts).longValueExact();
            left -= want[s];
        }
        for (int s = 0; left < 0; s++, left++) want[s]--;
        for (int s = 0; s < 3; s++) due("a wide share " + s, x.led(s, 2, 32), want[s]);
        due("all", x.all(2, 200), 7);
    }

    static void duesAndLed() {
        promise = 18;
        // On day 0 the marks were told, so they were known when year 0 began.
        PupilCoin y = land(2);
        tell(y, "line a=heads*10;line b=last/10;", 0);
        y.mark(0, 0, 0, 10);
        y.mark(1, 0, 0, 20);
        due("due(0, 0)", y.due(0, 0), 100);
        y.day(1);
        y.mark(0, 0, 0, 15);
        due("due(0, 0)", y.due(0, 0), 100);
        due("due(0, 1): 150 and 15, and 50 put right", y.due(0, 1), 150 + 15 + 50);
        promise = 17;
        due("put right", y.led(0, 1, 33), 50);
        due("none in year 0", y.led(0, 0, 33), 0);
        due("line b", y.led(0, 1, 1), 15);
        due("no line", y.led(0, 1, 2), 0);
        y.day(170);
        y.mark(0, 0, 0, 5);
        // Year 1 as known by 200 is 50 and a tenth of LAST, 150; by 100 it was 150 and that.
        due("put right in year 2", y.led(0, 2, 33), -100);
        y.join(0, 1, 3);
        y.mark(1, 1, 0, 7);
        y.day(210);
        y.mark(1, 1, 0, 8);
        due("not yet joined", y.led(0, 3, 33), 10);
        due("of one that isn't open", y.led(1, 3, 33), 0);
        due("due of one that isn't open", y.due(1, 3), 0);
        for (int k = 0; k < 35; k++) due("led of one that isn't open", y.led(1, 3, k), 0);
        int[][] bad = {{-1, 0, 0}, {2, 0, 0}, {0, -1, 0}, {0, 10, 0}, {0, 0, -1}, {0, 0, 35}};
        for (int[] b : bad) due("led, none such", y.led(b[0], b[1], b[2]), NOTHING);
        promise = 18;
        for (int i = 0; i < 4; i++) due("due, none such", y.due(bad[i][0], bad[i][1]), NOTHING);
        long sum = 0;
        for (int k = 0; k < 35; k++) sum += y.led(0, 3, k);
        due("the lines together", y.due(0, 3), sum);
    }

    /** Issue 12: 0 to 29 of led are the formula's statements, those that are no "line" are 0. */
    static void ledByStatements() {
        promise = 17;
        PupilCoin x = land(1);
        x.mark(0, 0, 0, 3);
        x.mark(0, 1, 0, 3);
        tell(x, "floor 5;line a=7;", 0);
        due("a floor is no line", x.led(0, 0, 0), 0);
        due("the line behind it", x.led(0, 0, 1), 7);
        due("behind the last", x.led(0, 0, 2), 0);
        tell(x, "line z=1;", 0);
        tell(x, "move 5;line a=7;cap 900;line b=8 if 1>2;order cap;line c=a+2;share c;total 40;floor 1;line d=last;", 2);
        long[] want = {0, 7, 0, 0, 0, 9, 0, 0, 0, 1};
        for (int k = 0; k < 30; k++) due("statement " + k, x.led(0, 2, k), k < want.length ? want[k] : 0);
        // LAST and BASE are 1: 17 go down to the cap's 9, and the rest of 31 is shared.
        due("its cap", x.led(0, 2, 31), 9 - 17);
        due("its share", x.led(0, 2, 32), 40 - 9);
        due("another year's", x.led(0, 1, 0), 1);
        promise = 15;
        due("the share's line among the statements", x.law(2, 0, 5), 5);
        promise = 18;
        due("the lines together", x.due(0, 2), 40);
        promise = 26;
        // RATES count by the places among the "line" statements: 1 is b, 2 is c, 3 is d.
        due("rates by the lines' places", x.rates(2, 2, 3, 999999999, 1), 7 + 18 + 2);
        due("none of a statement's place", x.rates(2, 5, 1, 999999999, 1), NOTHING);
        promise = 17;
        PupilCoin y = land(1);
        StringBuilder text = new StringBuilder();
        for (int i = 0; i < 28; i++) text.append("cap 9;");
        tell(y, text + "line a=4;line b=5;", 0);
        due("statement 27", y.led(0, 0, 27), 0);
        due("statement 28", y.led(0, 0, 28), 4);
        due("statement 29", y.led(0, 0, 29), 5);
        due("line 0 of 28 others", y.led(0, 0, 0), 0);
        // As KNOWN when the year begins, not as known today.
        PupilCoin z = land(1);
        tell(z, "floor 5;line a=7;", 0);
        z.day(5);
        tell(z, "line a=9;", 0);
        due("statement 0 of the year's beginning", z.led(0, 0, 0), 0);
        due("statement 1 of the year's beginning", z.led(0, 0, 1), 7);
        due("statement 0 of the next year's", z.led(0, 1, 0), 9);
    }

    static void proposals() {
        promise = 20;
        PupilCoin x = new PupilCoin();
        x.school(0, 0, 0);
        x.school(0, 0, 0);
        x.school(0, 1, 0);
        x.school(0, 1, 0);
        x.day(199);
        int[][] bad = {{-1, 0, 1, 5, 2}, {3, 0, 1, 5, 2}, {1, 0, 1, 5, 2}, {0, 0, 2, 5, 2}, {0, 2, 0, 5, 2}, {0, 0, 0, 5, 2}, {0, -1, 1, 5, 2},
            {0, 4, 1, 5, 2}, {0, 0, 4, 5, 2}, {0, 0, -1, 5, 2}, {0, 0, 1, 0, 2}, {0, 0, 1, 10000000, 2}, {0, 0, 1, 5, 1}, {0, 0, 1, 5, 10}, {0, 0, 1, -5, 2}};
        for (int[] b : bad) due("propose, not as told", x.propose(b[0], b[1], b[2], b[3], b[4]), -1);
        due("count(6)", x.count(6), 0);
        for (int p = 0; p < 20; p++) due("propose " + p, x.propose(p % 2, p % 2 * 2, p % 2 * 2 + 1, p == 0 ? 9999999 : 1, 2 + p % 8), p);
        due("the 21st", x.propose(0, 0, 1, 5, 2), -1);
        due("count(6)", x.count(6), 20);
    }

    static void objections() {
        promise = 21;
        PupilCoin x = new PupilCoin();
        for (int s = 0; s < 5; s++) x.school(0, s < 4 ? 0 : 1, s);
        tell(x, "line a=1000;move 100;", 0);
        x.join(0, 3, 1);
        x.propose(0, 0, 1, 5, 2);
        due("object(-1, 0)", x.object(-1, 0), false);
        due("object(1, 0)", x.object(1, 0), false);
        due("object(0, -1)", x.object(0, -1), false);
        due("object(0, 5)", x.object(0, 5), false);
        due("of another council", x.object(0, 4), false);
        due("object(0, 0)", x.object(0, 0), true);
        due("again", x.object(0, 0), false);
        due("object(0, 3)", x.object(0, 3), true);
        due("object(0, 1)", x.object(0, 1), true);
        promise = 22;
        x.day(10);
        due("three of four", x.adopt(0), 4);
        x.day(100);
        // School 3 is open no more: two of three objected.
        due("two of three", x.adopt(0), 4);
        x.propose(0, 0, 1, 5, 2);
        promise = 21;
        due("not open today", x.object(1, 3), false);
        due("object(1, 2)", x.object(1, 2), true);
        x.day(110);
        promise = 22;
        due("one of three", x.adopt(1), 0);
        promise = 21;
        due("when it's adopted", x.object(1, 0), false);
        promise = 22;
        PupilCoin y = new PupilCoin();
        for (int s = 0; s < 4; s++) y.school(0, 0, s);
        tell(y, "line a=1000;move 100;", 0);
        y.join(0, 3, 1);
        y.join(0, 2, 1);
        y.propose(0, 0, 1, 5, 2);
        y.object(0, 2);
        y.object(0, 3);
        y.object(0, 1);
        due("none can be told ahead of ten days", y.adopt(0), 2);
        y.day(100);
        due("of those open today one of two objected", y.adopt(0), 0);
    }

    static void adoptions() {
        promise = 22;
        PupilCoin x = new PupilCoin();
        x.school(0, 1, 0);
        x.school(0, 1, 1);
        x.school(0, 2, 2);
        tell(x, "line a=501;move 10;total 5000;share a;", 0);
        // Each has 1,667 or 1,666 with its share; the council's two have 3,334, a tenth of that is 333.
        due("adopt(-1)", x.adopt(-1), 1);
        due("adopt(0)", x.adopt(0), 1);
        x.propose(1, 0, 1, 333, 1);
        x.propose(1, 0, 1, 334, 1);
        x.propose(1, 0, 1, 333, 1);
        x.propose(1, 1, 0, 33, 2);
        x.propose(1, 1, 0, 301, 2);
        x.propose(1, 1, 0, 300, 2);
        x.day(9);
        due("too early", x.adopt(0), 2);
        x.day(10);
        due("too much by one", x.adopt(1), 5);
        due("all that may be", x.adopt(0), 0);
        due("it is", x.adopt(0), 1);
        due("with what was adopted", x.adopt(2), 5);
        due("another year's", x.adopt(3), 0);
        due("too much with it", x.adopt(4), 5);
        due("just so much with it", x.adopt(5), 0);
        promise = 29;
        due("count(7)", x.count(7), 3);
        promise = 17;
        due("moved from", x.led(0, 1, 34), -333);
        due("moved to", x.led(1, 1, 34), 333);
        due("moved in year 2", x.led(0, 2, 34), 333);
        due("moved in year 3", x.led(0, 3, 34), 0);
        due("not the third's", x.led(2, 1, 34), 0);
        promise = 18;
        due("due with it", x.due(0, 1), 1667 - 333);
        promise = 22;
        x.propose(1, 0, 1, 1, 1);
        x.day(95);
        x.propose(1, 0, 1, 1, 1);
        x.day(100);
        due("too late", x.adopt(6), 3);
        due("too early ahead of too late", x.adopt(7), 2);
        PupilCoin y = land(2);
        y.propose(0, 0, 1, 1, 1);
        y.day(20);
        due("without a formula", y.adopt(0), 5);
        tell(y, "line a=100;", 1);
        due("without move", y.adopt(0), 5);
        tell(y, "line a=100;move 1;", 1);
        due("two hundredths of 100", y.adopt(0), 0);
        PupilCoin z = land(2);
        tell(z, "line a=100;move 1;", 0);
        z.propose(0, 0, 1, 1, 3);
        z.join(0, 1, 2);
        z.day(50);
        due("one of the two is open in that year", z.adopt(0), 0);
        PupilCoin w = land(2);
        tell(w, "line a=99;move 1;", 0);
        w.propose(0, 0, 1, 1, 3);
        w.join(0, 1, 2);
        w.day(50);
        due("cut", w.adopt(0), 5);
    }

    static void losersAndEdges() {
        promise = 24;
        PupilCoin x = land(4);
        tell(x, "line a=10*heads;", 0);
        for (int s = 0; s < 4; s++) x.mark(s, 0, s % 3, s + 1);
        due("none is beside", x.losers(0), -1);
        tellBeside(x, "line a=25;");
        due("losers(0)", x.losers(0), 2);
        due("losers(2)", x.losers(2), 0);
        due("losers(-1)", x.losers(-1), -1);
        due("losers(10)", x.losers(10), -1);
        tellBeside(x, "line a=30;");
        due("as much is no loss", x.losers(0), 1);
        x.join(0, 3, 1);
        due("both that are open lose", x.losers(1), 1);
        promise = 25;
        PupilCoin y = land(2);
        tell(y, "line a=first*7+meals*3 if heads>1;line b=special*100;floor 100;", 0);
        y.mark(0, 0, 0, 1);
        due("a mark that brings a line in", y.edge(0, 0, 0), 14);
        due("another age", y.edge(0, 0, 2), 7);
        due("meals", y.edge(0, 0, 3), 0);
        due("special", y.edge(0, 0, 4), 100);
        due("edge(0, 0, 5)", y.edge(0, 0, 5), NOTHING);
        due("edge(0, 0, -1)", y.edge(0, 0, -1), NOTHING);
        due("edge(2, 0, 0)", y.edge(2, 0, 0), NOTHING);
        due("edge(-1, 0, 0)", y.edge(-1, 0, 0), NOTHING);
        due("edge(0, 10, 0)", y.edge(0, 10, 0), NOTHING);
        due("edge(0, -1, 0)", y.edge(0, -1, 0), NOTHING);
        y.join(0, 1, 3);
        due("of one that isn't open", y.edge(1, 3, 0), NOTHING);
        PupilCoin z = land(2);
        tell(z, "line a=100*heads;", 0);
        tell(z, "line a=first+last;floor 200;", 1);
        z.mark(0, 0, 0, 4);
        z.mark(1, 0, 0, 4);
        // LAST is 400, heads then are 4, whatever the mark is: the floor goes from 800 to 1,000.
        due("LAST and heads then stay", z.edge(0, 1, 0), 200);
        tell(z, "line a=first;total 900;", 1);
        // The rest of 892 is parted 446 to each; with one more 891 is by 5 and 4: 495 and 396.
        due("with a total", z.edge(0, 1, 0), 5 + 495 - 450);
        z.day(50);
        z.mark(0, 0, 0, 8);
        // 888 by 8 and 4 gives 592, in all 600; 887 by 9 and 4 gives 614 and the coin left, in all 624.
        due("as known today", z.edge(0, 1, 0), 24);
    }

    static void rates() {
        promise = 26;
        PupilCoin x = land(2);
        x.mark(0, 0, 0, 10);
        x.mark(1, 0, 0, 5);
        tell(x, "line a=100*heads;", 0);
        tell(x, "floor 0;line a=heads*70;line c=7;line b=heads*20;cap 999;", 1);
        // LAST is 1,000 and 500, BARE 70r + 20q + 7 and half of that but for 7: 7r + 2q may be 132.
        due("losers", x.rates(1, 0, 2, 2000, 0), 0);
        due("the greatest sum", x.rates(1, 0, 2, 2000, 1), 105 * 14 + 30 * 17 + 14);
        due("a's tenths", x.rates(1, 0, 2, 2000, 2), 14);
        due("b's tenths", x.rates(1, 0, 2, 2000, 3), 17);
        due("the other way round, a's", x.rates(1, 2, 0, 2000, 2), 3);
        due("the other way round, b's", x.rates(1, 2, 0, 2000, 3), 18);
        due("at most t: what none reach", x.rates(1, 0, 2, 13, 1), NOTHING);
        due("at most t: what is left at 0", x.rates(1, 0, 2, 14, 1), 14);
        due("its losers", x.rates(1, 0, 2, 14, 0), 2);
        due("one loser by fifteens", x.rates(1, 0, 2, 999999999, 1), 15 * 70 * 2 + 15 * 20 * 2 + 14);
        due("t of 0", x.rates(1, 0, 2, 0, 0), NOTHING);
        int[][] bad = {{-1, 0, 2, 9999, 0}, {10, 0, 2, 9999, 0}, {1, -1, 2, 9999, 0}, {1, 0, 3, 9999, 0}, {1, 3, 0, 9999, 0}, {1, 0, -1, 9999, 0},
            {1, 1, 1, 9999, 0}, {1, 0, 2, -1, 0}, {1, 0, 2, 1000000000, 0}, {1, 0, 2, 9999, -1}, {1, 0, 2, 9999, 4}, {0, 0, 1, 9999, 0}};
        for (int[] b : bad) due("rates, none such", x.rates(b[0], b[1], b[2], b[3], b[4]), NOTHING);
        PupilCoin y = new PupilCoin();
        due("without a formula", y.rates(0, 0, 1, 5, 0), NOTHING);
        tell(y, "line a=10;line b=a*2;", 0);
        due("without schools", y.rates(0, 0, 1, 0, 2), 0);
        y.school(0, 0, 0);
        // b stays at 20 times its tenths, whatever a's are.
        due("the least a of one sum", y.rates(0, 0, 1, 40, 2), 0);
        due("its b", y.rates(0, 0, 1, 40, 3), 20);
        due("the least a where b is a's", y.rates(0, 1, 0, 40, 2), 10);
        tell(y, "line a=0-15;line b=0;", 0);
        due("cut towards 0, with no loser", y.rates(0, 0, 1, 0, 2), 0);
        due("fewest losers first: below 0 loses", y.rates(0, 0, 1, 0, 0), 0);
        due("the least b of one sum", y.rates(0, 0, 1, 0, 3), 0);
        // A loser by a total of three; the sum of more losers would be greater.
        PupilCoin z = land(2);
        z.mark(0, 0, 0, 1);
        tell(z, "line a=10*first;line b=5;", 0);
        tell(z, "line a=20*first;line b=15-10*first;", 1);
        // LAST is 15 and 5; BARE is 2r + q/2 and 3q/2 (cut): none loses from q of 4 on with r of 7.
        due("no losers at 22", z.rates(1, 0, 1, 22, 0), 0);
        due("their sum", z.rates(1, 0, 1, 22, 1), 22);
    }

    static void foretold() {
        promise = 27;
        PupilCoin x = land(2);
        x.mark(0, 0, 1, 50);
        due("with one year", x.foretold(0, 1, 1, 0), -1);
        x.mark(0, 1, 1, 80);
        due("a later year is none yet", x.foretold(0, 1, 1, 0), -1);
        x.day(199);
        due("heads", x.foretold(0, 1, 1, 0), 110);
        due("from", x.foretold(0, 1, 1, 1), 80);
        due("to", x.foretold(0, 1, 1, 2), 140);
        due("five ahead", x.foretold(0, 1, 5, 0), 230);
        due("five ahead, to", x.foretold(0, 1, 5, 2), 380);
        x.day(500);
        x.mark(0, 4, 1, 70);
        due("fewer, of years apart", x.foretold(0, 1, 2, 0), 50);
        due("fewer, from", x.foretold(0, 1, 2, 1), 30);
        due("fewer, to", x.foretold(0, 1, 2, 2), 70);
        x.mark(0, 5, 1, 40);
        due("below 0", x.foretold(0, 1, 2, 0), 0);
        due("below 0, from", x.foretold(0, 1, 2, 1), 0);
        due("below 0, to is by what it was", x.foretold(0, 1, 2, 2), 40);
        x.mark(0, 4, 1, 40);
        due("the last told", x.foretold(0, 1, 5, 2), 40);
        x.join(0, 1, 6);
        x.mark(1, 4, 0, 3);
        x.mark(1, 5, 0, 4);
        x.day(700);
        due("its own marks alone", x.foretold(0, 0, 1, 0), -1);
        due("a joined one's own", x.foretold(1, 0, 1, 0), 5);
        int[][] bad = {{-1, 1, 1, 0}, {2, 1, 1, 0}, {0, -1, 1, 0}, {0, 3, 1, 0}, {0, 1, 0, 0}, {0, 1, 6, 0}, {0, 1, 1, -1}, {0, 1, 1, 3}};
        for (int[] b : bad) due("foretold, none such", x.foretold(b[0], b[1], b[2], b[3]), -1);
    }

    static long doubtOf(int... marks) {
        PupilCoin x = land(1);
        for (int what = 0; what < marks.length; what++) {
            if (marks[what] >= 0) x.mark(0, 3, what, marks[what]);
        }
        return x.doubt(0, 3);
    }

    static void doubts() {
        promise = 28;
        due("none told", doubtOf(), 0);
        due("as it must be", doubtOf(1, 2, 3, 6, 6, 6), 0);
        due("too few together", doubtOf(1, 2, 3, 0, 0, 7), 1);
        due("an age that isn't told", doubtOf(1, -1, 3, 0, 0, 7), 0);
        due("as much as all, an age isn't told", doubtOf(1, -1, 6, 0, 0, 7), 0);
        due("an age alone, as much as all", doubtOf(7, -1, -1, -1, -1, 7), 0);
        due("more than all", doubtOf(1, -1, 9, 0, 0, 7), 4);
        due("more than all by either", doubtOf(8, -1, 9, 0, 0, 7), 32);
        due("both ages", doubtOf(8, -1, 9, 7, 8, 7), 32);
        due("meals above all", doubtOf(1, 2, 3, 7, 0, 6), 8);
        due("special above all", doubtOf(1, 2, 3, 6, 7, 6), 16);
        due("meals above ages, all isn't told", doubtOf(1, 2, 3, 7, 0, -1), 1);
        due("meals above, an age isn't told", doubtOf(1, 2, -1, 7, 9, -1), 0);
        due("meals and special above all", doubtOf(1, 2, 3, 7, 7, 6), 24);
        due("marks but for ages", doubtOf(-1, -1, -1, 7, 8, 8), 0);
        due("marks but for ages, above", doubtOf(-1, -1, -1, 9, 8, 8), 8);
        due("both above", doubtOf(-1, -1, -1, 9, 9, 8), 32);
        PupilCoin x = land(1);
        x.mark(0, 0, 5, 4);
        x.mark(0, 0, 3, 5);
        due("doubt(0, 0)", x.doubt(0, 0), 8);
        due("doubt(0, 1)", x.doubt(0, 1), 0);
        x.day(3);
        x.mark(0, 0, 5, 5);
        due("the last told", x.doubt(0, 0), 0);
        due("doubt(-1, 0)", x.doubt(-1, 0), -1);
        due("doubt(1, 0)", x.doubt(1, 0), -1);
        due("doubt(0, -1)", x.doubt(0, -1), -1);
        due("doubt(0, 10)", x.doubt(0, 10), -1);
    }
}
