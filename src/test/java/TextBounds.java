import java.util.List;

/** Each sentence that names a bound of a FORMULA's text: a step inside, a step outside, and the FAULT's place. */
public final class TextBounds {
    static final List<String> WORDS = List.of("first", "lower", "upper", "heads", "meals", "special", "need", "far", "last", "ward");
    static final List<String> KEYS = List.of("line", "if", "floor", "cap", "total", "move", "order", "share", "min", "max", "or", "and", "not");

    public static void main(String[] args) {
        bytes();
        letters();
        blanks();
        longTokens();
        names();
        told();
        numbers();
        settings();
        opens();
        mixedOpens();
        statements();
        moreMustCome();
        whole();
        held();
        wordsHeld();
        Due.end();
    }

    /** A text's fault, -1 without one; read as a FORMULA and as the one BESIDE. */
    static void fault(String text, int place) {
        Story told = new Story("tape: " + text);
        String n = "" + text.length();
        Due.is(shown(text), told.then("formula " + n + " 0").last(), place < 0 ? 0 : -1);
        Due.is("the fault of " + shown(text), told.then("formula " + n + " 0", "fault").last(), place);
        Due.is("count 5 behind " + shown(text), told.then("formula " + n + " 0", "count 5").last(), place < 0 ? 1 : 0);
        Due.is("beside: " + shown(text), told.then("beside " + n).last(), place < 0 ? 0 : -1);
        Due.is("beside, the fault of " + shown(text), told.then("beside " + n, "fault").last(), place);
        Due.is("count 9 behind " + shown(text), told.then("beside " + n, "count 9").last(), place < 0 ? 1 : 0);
    }

    static String shown(String text) {
        return "\"" + text.replace("\n", "\\n") + "\"";
    }

    static String times(String text, int n) {
        return text.repeat(n);
    }

    static void sound(String text) {
        fault(text, -1);
    }

    static void bytes() {
        Due.says("words of letters a to z, digits, signs; between them blanks (bytes 32 and 10); or byte that begins none");
        for (int b = 0; b < 256; b++) {
            boolean blank = b == 32 || b == 10;
            boolean digit = b >= '0' && b <= '9';
            char c = (char) b;
            fault("" + c, blank ? -1 : 0);
            fault("line a=1" + c, b == ';' ? -1 : blank || digit || "+-*/".indexOf(c) >= 0 ? 9 : 8);
            fault("line a=heads" + c, b == ';' ? -1 : blank || "+-*/".indexOf(c) >= 0 ? 13 : b >= 'a' && b <= 'z' ? 7 : 12);
            fault("line a=1;" + c, blank ? -1 : 9);
            fault("line a=1 if 1" + c, blank || digit || "+-*/<>=".indexOf(c) >= 0 ? 14 : 13);
            fault("line a=" + c, blank || c == '(' || digit ? 8 : 7);
            fault("line a=1 if " + c, blank || c == '(' || c == '{' || digit ? 13 : 12);
            fault("line" + c + "a=1;", blank ? -1 : b >= 'a' && b <= 'z' ? 0 : 4);
            fault("line a=1" + c + "if 1=1;", blank || digit ? -1 : ";+-*/".indexOf(c) >= 0 ? 9 : 8);
        }
    }

    static void letters() {
        Due.says("NAME: 1 to 8 letters (of letters a to z)");
        for (int b = 0; b < 256; b++) {
            boolean letter = b >= 'a' && b <= 'z';
            boolean blank = b == 32 || b == 10;
            char c = (char) b;
            fault("line " + c + "=1;", letter ? -1 : blank ? 6 : 5);
            fault("line q" + c + "q=1;", letter ? -1 : blank ? 7 : c == '=' ? 7 : 6);
        }
    }

    static void blanks() {
        Due.says("between them blanks (bytes 32 and 10)");
        sound(" ");
        sound("\n");
        sound(times(" \n", 350));
        sound(" \nline\n\na = 1 +\n 2 if 1 < 2 ; ");
        fault("line a\t=1;", 6);
        fault("line a\r=1;", 6);
        fault("line a=1;\0", 9);
        sound("line a=min (1,2)+max\n(1,2);");
        sound("line a=1if 1=1;");
        sound("line a=1if 1=1or 2=2and 3=3;");
        sound("line a=1 if 1=1 and not 1=1;");
        fault("line a=1 if 1=1 andnot 1=1;", 16);
        sound("line a=1 if not1=1;");
        fault("line a=1 if nota=1;", 12);
        fault("l ine a=1;", 0);
        fault("line a=1 2;", 9);
        fault("line a b=1;", 7);
        fault("line a=he ads;", 7);
    }

    static void longTokens() {
        Due.says("Tokens as long as they go");
        fault("linea=1;", 0);
        fault("linea line", 0);
        fault("floor1cap1;", 6);
        sound("floor1;cap1;");
        fault("line a=heads1;", 12);
        fault("line a=1heads;", 8);
        fault("line a=1;line b=aa;", 16);
        fault("line a=headss;", 7);
        fault("line a=head;", 7);
        fault("order floorcap;", 6);
        fault("line ab=1;line a=ab;line abc=b;", 29);
        sound("line ab=1;line a=ab;line abc=a;");
        fault("line a=1;share aa;", 15);
        fault("line a=minmax(1,2);", 7);
    }

    static void names() {
        Due.says("NAME: 1 to 8 letters, none of these or of the words above");
        sound("line a=1;");
        sound("line abcdefg=1;");
        sound("line abcdefgh=1;line b=abcdefgh;share abcdefgh;");
        fault("line abcdefghi=1;", 5);
        fault("line abcdefgh=1;line b=abcdefghi;", 23);
        fault("line abcdefgh=1;share abcdefghi;", 22);
        fault("line abcdefgh=1;line abcdefghi=1;", 21);
        fault("line " + times("a", 600) + "=1;", 5);
        sound("line zzzzzzzz=1;line zzzzzzza=zzzzzzzz;line b=zzzzzzza;");
        for (String word : WORDS) {
            fault("line " + word + "=1;", 5);
            fault("line a=1;share " + word + ";", 15);
            sound("line a=" + word + ";");
            sound("line a=1 if " + word + "=" + word + ";");
            sound("line " + word.substring(1) + "=1;line a=" + word.substring(1) + "+" + word + ";");
            fault(word, 0);
        }
        for (String key : KEYS) {
            fault("line " + key + "=1;", 5);
            fault("line a=1;share " + key + ";", 15);
            fault("line a=" + key + ";", key.equals("min") || key.equals("max") ? 10 : 7);
            fault("line a=1+" + key + "=1;", key.equals("min") || key.equals("max") ? 12 : 9);
            String longer = key + "x";
            sound("line " + longer + "=1;line a=" + longer + ";share " + longer + ";");
        }
        for (String other : List.of("years", "all", "known", "of", "ex", "by", "none", "name", "lin", "nott")) sound("line " + other + "=1;");
    }

    static void told() {
        Due.says("in EX, \"share\" one that a \"line\" ahead told, behind \"line\" one that none did");
        sound("line a=1;line b=a;share a;share b;");
        fault("line a=b;line b=1;", 7);
        fault("line a=a;", 7);
        fault("line a=1 if a=1;", 12);
        fault("line a=1;line b=1+b;", 18);
        fault("line a=1;line b=1 if 1=1 and b=2;", 29);
        fault("line a=1;line a=2;", 14);
        fault("line a=1;line b=2;line a=3;", 23);
        fault("line a=1;line b=2;line b=3;", 23);
        fault("share a;line a=1;", 6);
        fault("share a;", 6);
        fault("line a=1;share b;line b=1;", 15);
        fault("share ;", 6);
        fault("share 1;", 6);
        StringBuilder all = new StringBuilder();
        for (int i = 0; i < 28; i++) all.append("line a").append((char) ('a' + i % 26)).append(i / 26 == 0 ? "" : "a").append("=1;");
        sound(all + "line x=aa;share aba;");
        sound(all + "line x=aba;share x;");
        fault(all + "line aba=1;", all.length() + 5);
        fault(all + "line aa=1;", all.length() + 5);
        fault(all + "line x=aca;", all.length() + 7);
    }

    static void numbers() {
        Due.says("NUMBER: one to seven digits");
        for (int n = 1; n < 12; n++) {
            fault("line a=" + times("9", n) + ";", n < 8 ? -1 : 7);
            fault("line a=" + times("0", n) + ";", n < 8 ? -1 : 7);
            fault("total " + times("9", n) + ";", n < 8 ? -1 : 6);
            fault("total " + times("0", n) + ";", n < 8 ? -1 : 6);
            fault("line a=1 if 1<" + times("7", n) + ";", n < 8 ? -1 : 14);
            fault("line a=" + times("9", n), n < 8 ? 7 + n : 7);
        }
        fault("line a=" + times("1", 600) + ";", 7);
        fault("line a=4294967297;", 7);
        Due.is(new Story("school 0 0 0", "formula 0: line a=9999999;"), "sum 0 0 0", 9999999);
        Due.is(new Story("school 0 0 0", "formula 0: line a=0000010;"), "sum 0 0 0", 10);
        Due.is(new Story("formula 0: total 9999999;"), "law 0 0 2", 9999999);
        Due.is(new Story("formula 0: total 0;"), "law 0 0 2", 0);
    }

    static void settings() {
        Due.says("of \"floor\", \"cap\" 0 to 1,000, of \"move\" 0 to 100 (a NUMBER beyond its bounds)");
        for (String word : List.of("floor", "cap", "move", "total")) {
            int most = word.equals("move") ? 100 : word.equals("total") ? 9999999 : 1000;
            int what = word.equals("floor") ? 0 : word.equals("cap") ? 1 : word.equals("total") ? 2 : 3;
            for (int v : new int[] {0, 1, most - 1, most}) {
                sound(word + " " + v + ";");
                Due.is(new Story("formula 0: " + word + " " + v + ";"), "law 0 0 " + what, v);
            }
            fault(word + " " + (most + 1) + ";", word.length() + 1);
            fault(word + "  " + (most + 1), word.length() + 2);
            fault(word + " 9999999;", most == 9999999 ? -1 : word.length() + 1);
            fault(word + " -1;", word.length() + 1);
            fault(word + " a;", word.length() + 1);
            fault(word + " ;", word.length() + 1);
            fault(word + " 1 2;", word.length() + 3);
            fault(word + " 1", word.length() + 2);
        }
        sound("floor 0001000;");
        sound("move 0000100;");
        fault("floor 0001001;", 6);
        fault("move 0000101;", 5);
        sound("order floor;order cap;");
        for (String word : List.of("line", "total", "move", "order", "share", "heads", "a", "1", ";")) fault("order " + word + ";", 6);
    }

    static void opens() {
        Due.says("\"(\", \"{\", \"min\", \"max\" (each with its \"(\"), \"not\": at most 8 open in one another");
        for (int n = 7; n < 12; n++) {
            fault("line a=" + times("(", n) + "1" + times(")", n) + ";", n < 9 ? -1 : 15);
            fault("line a=" + times("min(", n) + "1" + times(",1)", n) + ";", n < 9 ? -1 : 39);
            fault("line a=" + times("max(1,", n) + "1" + times(")", n) + ";", n < 9 ? -1 : 55);
            fault("line a=1 if " + times("{", n) + "1=1" + times("}", n) + ";", n < 9 ? -1 : 20);
            fault("line a=1 if " + times("not ", n) + "1=1;", n < 9 ? -1 : 44);
            fault("line a=1 if " + times("(", n) + "1" + times(")", n) + "=1;", n < 9 ? -1 : 20);
            fault("line a=1 if 1=" + times("(", n) + "1" + times(")", n) + ";", n < 9 ? -1 : 22);
            // The ninth is a fault though more must come, or nothing comes.
            fault("line a=" + times("(", n), n < 9 ? 7 + n : 15);
            fault("line a=" + times("min(", n), n < 9 ? 7 + 4 * n : 39);
            fault("line a=1 if " + times("{", n), n < 9 ? 12 + n : 20);
        }
        // "min" is open with its "(", so the fault is at the word, even without the "(".
        fault("line a=" + times("(", 8) + "max", 15);
        fault("line a=" + times("(", 8) + "max 1", 15);
        fault("line a=" + times("(", 7) + "max 1", 18);
        sound("line a=" + times("(", 7) + "max(1,2)" + times(")", 7) + ";");
        // Those beside one another aren't open in one another.
        sound("line a=" + times("(", 8) + "1" + times(")", 8) + "+" + times("(", 8) + "1" + times(")", 8) + ";");
        sound("line a=" + times("(1)+", 40) + "1;");
        sound("line a=min(" + times("(", 7) + "1" + times(")", 7) + "," + times("(", 7) + "1" + times(")", 7) + ");");
        fault("line a=min(" + times("(", 7) + "1" + times(")", 7) + "," + times("(", 8) + "1" + times(")", 8) + ");", 34);
        sound("line a=1 if " + times("not ", 8) + "1=1 and " + times("not ", 8) + "1=1 or " + times("not ", 8) + "1=1;");
        fault("line a=1 if " + times("not ", 8) + "1=1 and " + times("not ", 9) + "1=1;", 84);
        sound("line a=" + times("(", 8) + "1" + times(")", 8) + " if " + times("{", 8) + "1=1" + times("}", 8) + ";");
    }

    static void mixedOpens() {
        Due.says("at most 8 open in one another (the ninth open, too)");
        sound("line a=1 if " + times("not ", 4) + times("{", 4) + "1=1" + times("}", 4) + ";");
        fault("line a=1 if " + times("not ", 4) + times("{", 5) + "1=1" + times("}", 5) + ";", 32);
        fault("line a=1 if " + times("not ", 4) + times("{", 4) + "not 1=1" + times("}", 4) + ";", 32);
        fault("line a=1 if " + times("not ", 4) + times("{", 4) + "1=min(1,2)" + times("}", 4) + ";", 34);
        fault("line a=1 if " + times("not ", 8) + "(1)=1;", 44);
        fault("line a=1 if " + times("not ", 8) + "1=(1);", 46);
        sound("line a=1 if " + times("not ", 7) + "(1)=(1);");
        fault("line a=1 if " + times("not ", 7) + "((1))=(1);", 41);
        fault("line a=1 if " + times("not ", 7) + "(1)=((1));", 45);
        // A "not" is open no more behind its ONE.
        sound("line a=1 if not 1=1 and " + times("{", 8) + "1=1" + times("}", 8) + ";");
        fault("line a=1 if not{1=1 and " + times("{", 7) + "1=1" + times("}", 7) + "};", 30);
        sound("line a=1 if {not 1=1 and " + times("{", 7) + "1=1" + times("}", 7) + "};");
    }

    static void statements() {
        Due.says("At most 30 statements. the 31st statement: where it begins");
        for (String one : List.of("floor 1;", "cap 1;", "total 1;", "move 1;", "order cap;")) {
            sound(times(one, 29));
            sound(times(one, 30));
            sound(times(one, 30) + " \n");
            fault(times(one, 31), 30 * one.length());
            fault(times(one, 30) + " \n" + one, 30 * one.length() + 2);
            fault(times(one, 30) + "share", 30 * one.length());
            fault(times(one, 30) + "?", 30 * one.length());
            fault(times(one, 30) + ";", 30 * one.length());
            Due.is(new Story("formula 0: " + times(one, 30)), "law 0 0 6", 30);
        }
        StringBuilder lines = new StringBuilder();
        for (int i = 0; i < 30; i++) lines.append("line a").append((char) ('a' + i % 26)).append(i < 26 ? "" : "b").append("=").append(i + 1).append(";");
        sound(lines.toString());
        fault(lines + "line b=1;", lines.length());
        fault(lines + "share aa;", lines.length());
        Story all = new Story("school 0 0 0", "formula 0: " + lines);
        for (int k = 0; k < 30; k++) Due.is(all, "led 0 0 " + k, k + 1);
        Due.is(all, "sum 0 0 0", 465);
        String shared = times("move 1;", 28) + "line a=7;share a;";
        sound(shared);
        Due.is(new Story("formula 0: " + shared), "law 0 0 5", 28);
        Due.is(new Story("school 0 0 0", "formula 0: " + shared), "led 0 0 28", 7);
        fault("move 1;" + shared, 7 * 29 + 9);
    }

    static void moreMustCome() {
        Due.says("the text's length, if more must come");
        String text = "line ab = max ( 1 , heads ) if not { 1 < 2 or 3 = 4 } and 5 > 6 ; share ab ; order cap ; floor 5 ;";
        sound(text);
        // Cut behind each blank: more must come, but behind a ";" and at the beginning.
        for (int n = 0; n < text.length(); n++) {
            if (n > 0 && text.charAt(n - 1) != ' ') continue;
            boolean ends = n == 0 || text.charAt(n - 2) == ';';
            fault(text.substring(0, n), ends ? -1 : n);
            fault(text.substring(0, n) + "\n ", ends ? -1 : n + 2);
            fault(text.substring(0, n) + "?", n);
        }
    }

    static void whole() {
        Due.says("700 bytes on the tape");
        String line = "line a=" + times("1+", 345) + "1;";
        String full = line + times(" ", 700 - line.length());
        sound(full);
        sound(times(" ", 700 - line.length()) + line);
        Due.is(new Story("school 0 0 0", "formula 0: " + full), "sum 0 0 0", 346);
        fault(times(" ", 700), -1);
        fault("line a=" + times("1+", 346) + "1", 700);
        fault(times(" ", 699) + "?", 699);
        fault("line a=1" + times(" ", 692), 700);
        Due.says("The first n bytes of the tape are a FORMULA");
        firstBytes();
        fault("line a=" + times("1+", 345) + "abc", 697);
        fault("line a=" + times("1+", 344) + "heads", 700);
        fault("line a=" + times("1+", 344) + "  999", 700);
        fault(times(" ", 695) + "order", 700);
        fault(times(" ", 692) + "line a=1", 700);
        sound(times(" ", 692) + "floor 1;");
        // A full text behind full ones, sound or not.
        Story many = new Story("school 0 0 0", "formula 0: " + full);
        for (int i = 0; i < 4; i++) many = many.then("formula 0: line a=" + times("1+", 345) + "?;", "formula 0: " + full);
        Due.is(many, "law 0 0 7", 4);
        Due.is(many, "sum 0 0 0", 346);
        sound("line a=" + times("1*", 340) + "1 if 1=1;");
        sound("line a=1 if " + times("1=1or ", 110) + "1=1;");
        sound("line a=1 if " + times("1=1and ", 95) + "1=1;");
        Due.is(new Story("school 0 0 0", "formula 0: line a=8 if " + times("1=2or ", 110) + "1=1;"), "sum 0 0 0", 8);
        Due.is(new Story("school 0 0 0", "formula 0: line a=8 if " + times("1=1and ", 95) + "1=2;"), "sum 0 0 0", 0);
    }

    static void firstBytes() {
        String text = "line abcdefghi=12345678;";
        Story tape = new Story("tape: " + text);
        int[] place = {-1, 0, 0, 0, 4, 5, 6, 7, 8, 9, 10, 11, 12, 13, 5};
        for (int n = 0; n < place.length; n++) Due.is(tape.then("formula " + n + " 0"), "fault", place[n]);
        Story number = new Story("tape: line abcdefgh=12345678;");
        for (int n = 14; n < 22; n++) Due.is(number.then("formula " + n + " 0"), "fault", n);
        Due.is(number.then("formula 22 0"), "fault", 14);
        Due.is(new Story("tape: floor 10011;").then("formula 9 0"), "fault", 9);
        Due.is(new Story("tape: floor 10011;").then("formula 10 0"), "fault", 6);
        Story shorter = new Story("tape: floor 5;floor 6;").then("formula 8 0");
        Due.is(shorter, "law 0 0 0", 5);
        Due.is(shorter, "count 8", 0);
    }

    static void is(String ex, long want) {
        Due.is("line a=" + ex, new Story("school 0 0 0", "mark 0 0 0 3", "formula 0: line a=" + ex + ";", "sum 0 0 0").last(), want);
    }

    static void held() {
        Due.says("Each WORD and result is held to from -10^8 to 10^8; / towards 0, 0 by 0.");
        is("9999999*10+9", 99999999);
        is("9999999*10+10", 100000000);
        is("9999999*10+11", 100000000);
        is("9999999*10+11-1", 99999999);
        is("0-9999999*10-9", -99999999);
        is("0-9999999*10-10", -100000000);
        is("0-9999999*10-11", -100000000);
        is("0-9999999*10-11+1", -99999999);
        is("10000*10000", 100000000);
        is("10000*10001", 100000000);
        is("10000*10001-10000*10000", 0);
        is("9999*10001", 99999999);
        is("(0-10000)*10000", -100000000);
        is("(0-10000)*10001", -100000000);
        is("(0-9999)*10001", -99999999);
        is("(0-10000)*(0-10001)", 100000000);
        is("9999999*9999999/9999999", 10);
        is("9999999*9999999*9999999*9999999/100", 1000000);
        is("7/2", 3);
        is("(0-7)/2", -3);
        is("7/(0-2)", -3);
        is("(0-7)/(0-2)", 3);
        is("1/2", 0);
        is("(0-1)/2", 0);
        is("7/0", 0);
        is("(0-7)/0", 0);
        is("0/0", 0);
        is("5+7/0*3", 5);
        is("7/(3-first)", 0);
        is("9999999*11/1", 100000000);
        is("min(9999999*11,9999999*10+10)-100*1000000", 0);
        is("max(0-9999999*11,0-9999999*12)", -100000000);
        is("1 if 9999999*11=9999999*12", 1);
        is("1 if 9999999*10+9<9999999*12", 1);
        is("1 if 9999999*11<9999999*12", 0);
        is("1 if 0-9999999*11>0-9999999*12", 0);
        is("1-2-3", -4);
        is("8/2/2", 2);
        is("8/2*2", 8);
        is("2+3*4", 14);
        is("(2+3)*4", 20);
        is("min(3,2)", 2);
        is("min(2,2)", 2);
        is("max(3,2)", 3);
        is("max(2,3)", 3);
        Due.says("COND: ALL {\"or\" ALL}. ALL: ONE {\"and\" ONE}. ONE: \"not\" ONE | \"{\" COND \"}\" | EX (\"<\" | \">\" | \"=\") EX.");
        is("1 if 1<2", 1);
        is("1 if 2<2", 0);
        is("1 if 3>2", 1);
        is("1 if 2>2", 0);
        is("1 if 2=2", 1);
        is("1 if 2=3", 0);
        is("1 if 1=1 or 1=1 and 1=2", 1);
        is("1 if {1=1 or 1=1} and 1=2", 0);
        is("1 if 1=2 and 1=1 or 1=1", 1);
        is("1 if not 1=1 or 1=1", 1);
        is("1 if not{1=1 or 1=1}", 0);
        is("1 if not 1=2 and 1=2", 0);
        is("1 if not not 1=1", 1);
        String[] yes = {"1<2", "2>1", "3=3", "{1<2}", "not 2<1"};
        String[] no = {"2<1", "1>2", "3=4", "{2<1}", "not 1<2"};
        for (int i = 0; i < 5; i++) {
            is("1 if not " + yes[i], 0);
            is("1 if not " + no[i], 1);
            for (int j = 0; j < 5; j++) {
                is("1 if " + yes[i] + " and " + yes[j], 1);
                is("1 if " + yes[i] + " and " + no[j], 0);
                is("1 if " + no[i] + " and " + yes[j], 0);
                is("1 if " + yes[i] + " or " + no[j], 1);
                is("1 if " + no[i] + " or " + yes[j], 1);
                is("1 if " + no[i] + " or " + no[j], 0);
                is("1 if not{" + yes[i] + " and " + yes[j] + "}", 0);
            }
        }
    }

    static void wordsHeld() {
        Due.says("Each WORD and result is held to from -10^8 to 10^8");
        // LAST is 10^8 less one, 10^8, one more, and the same below 0; the sum isn't held.
        String[] sums = {"9999999*10+9", "9999999*10+10", "9999999*10+10;line b=1", "9999999*11;line b=9999999*11"};
        long[] want = {99999999, 100000000, 100000000, 100000000};
        long[] whole = {99999999, 100000000, 100000001, 200000000};
        for (int i = 0; i < 4; i++) {
            Story up = new Story("school 0 0 0", "formula 0: line a=" + sums[i] + ";", "formula 1: line l=last;line m=last-last;");
            Due.is(up, "sum 0 0 0", whole[i]);
            Due.is(up, "sum 0 1 0", want[i]);
            Story down = new Story("school 0 0 0", "formula 0: line a=0-(" + sums[i].replace(";line b=", ");line b=0-(") + ");", "formula 1: line l=last;");
            Due.is(down, "sum 0 0 0", -whole[i]);
            Due.is(down, "sum 0 1 0", -want[i]);
        }
        Story most = new Story("formula 0: line a=heads;line b=meals;line c=special;line d=last;");
        String[] all = new String[12];
        for (int s = 0; s < 12; s++) all[s] = "school 0 0 " + s;
        most = most.then(all);
        for (int s = 0; s < 12; s++) {
            for (int what = 0; what < 5; what++) most = most.then("mark " + s + " 1 " + what + " 9999");
        }
        for (int s = 1; s < 7; s++) most = most.then("join 0 " + s + " 2");
        Due.is(most, "led 0 2 0", 7 * 3 * 9999);
        Due.is(most, "led 0 2 1", 7 * 9999);
        Due.is(most, "led 0 2 2", 7 * 9999);
        Due.is(most, "led 11 2 0", 3 * 9999);
    }
}
