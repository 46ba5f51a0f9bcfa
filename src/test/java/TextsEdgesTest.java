import java.util.function.Supplier;

/** Boundary cases of promises 16 to 20: texts of custom and law, and what is told by them. */
public final class TextsEdgesTest extends Edges {
    private static final int CUSTOM = -1;

    public static void main(String[] args) {
        textRefused();
        textFaults();
        textWords();
        textNumbers();
        textEnds();
        textKept();
        force();
        bar();
        why();
        quarrel();
        end(16, 20);
    }

    private static void textRefused() {
        refused(16, "UNKNOWN: SHEET below 0", UNKNOWN, x -> x.text(0, 0, 0, -1, 1, 0, 5));
        refused(16, "UNKNOWN: SHEET above 3", UNKNOWN, x -> x.text(0, 0, 0, 4, 1, 0, 5));
        refused(16, "OUTSIDE: land below CUSTOM's -1", OUTSIDE, x -> x.text(-2, 0, 0, 2, 1, 0, 5));
        refused(16, "OUTSIDE: land above 5", OUTSIDE, x -> x.text(6, 0, 0, 2, 1, 0, 5));
        refused(16, "OUTSIDE: from below 0", OUTSIDE, x -> x.text(0, -1, 0, 2, 1, 0, 5));
        refused(16, "OUTSIDE: to above 9999", OUTSIDE, x -> x.text(0, 0, 10000, 2, 1, 0, 5));
        refused(16, "OUTSIDE: from above 9999", OUTSIDE, x -> x.text(0, 10000, 10000, 2, 1, 0, 5));
        refused(16, "OUTSIDE: to is ahead of from, too", OUTSIDE, x -> x.text(0, 6, 5, 2, 1, 0, 5));
        refused(16, "OUTSIDE: to is ahead of from, of CUSTOM, too", OUTSIDE, x -> x.text(-1, 1, 0, 2, 1, 0, 5));
        refused(16, "OUTSIDE: lane below 0", OUTSIDE, x -> x.text(0, 0, 0, 2, -1, 0, 5));
        refused(16, "OUTSIDE: lane above 2", OUTSIDE, x -> x.text(0, 0, 0, 2, 3, 0, 5));
        refused(16, "UNKNOWN comes ahead of OUTSIDE: land", UNKNOWN, x -> x.text(6, 0, 0, 4, 1, 0, 5));
        refused(16, "UNKNOWN comes ahead of OUTSIDE: days", UNKNOWN, x -> x.text(0, 1, 0, 4, 1, 0, 5));
        refused(16, "UNKNOWN comes ahead of OUTSIDE: lane", UNKNOWN, x -> x.text(0, 0, 0, 4, 3, 0, 5));
        refused(16, "OUTSIDE: land comes ahead of NULL", OUTSIDE, x -> x.text(6, 0, 0, 3, 1, 0, 5));
        refused(16, "OUTSIDE: days come ahead of CAST", OUTSIDE, x -> x.text(0, 6, 5, 2, 0, 0, 5));
        refused(16, "OUTSIDE: lane comes ahead of SIZE", OUTSIDE, x -> x.text(0, 0, 0, 2, 3, 0, -1));
        refused(16, "OUTSIDE: land comes ahead of the FIRST FAULT", OUTSIDE, x -> x.text(6, 0, 0, 0, 2, 0, 4));
    }

    private static void textFaults() {
        refused(16, "CAST: shorts taken as bytes", CAST, x -> x.text(0, 0, 0, 2, 0, 0, 5));
        refused(16, "CAST: shorts taken as ints", CAST, x -> x.text(0, 0, 0, 2, 2, 0, 5));
        refused(16, "CAST, though no cell is taken", CAST, x -> x.text(0, 0, 0, 2, 2, 0, 0));
        refused(16, "NULL", NULL, x -> x.text(0, 0, 0, 3, 1, 0, 5));
        refused(16, "NULL, though no cell is taken", NULL, x -> x.text(0, 0, 0, 3, 1, 0, 0));
        refused(16, "nothing is no CAST", NULL, lostSheet(), x -> x.text(0, 0, 0, 2, 0, 0, 5));
        refused(16, "SIZE: n below 0", SIZE, x -> x.text(0, 0, 0, 2, 1, 0, -1));
        refused(16, "SIZE: n far below 0", SIZE, x -> x.text(0, 0, 0, 2, 1, 0, MIN));
        refused(16, "INDEX: i below 0", INDEX, x -> x.text(0, 0, 0, 2, 1, -1, 5));
        refused(16, "INDEX: one cell beyond", INDEX, x -> x.text(0, 0, 0, 2, 1, 0, 6));
        refused(16, "INDEX: one cell beyond, from a later i on", INDEX, x -> x.text(0, 0, 0, 2, 1, 3, 3));
        refused(16, "INDEX: the greatest i and n", INDEX, x -> x.text(0, 0, 0, 2, 1, MAX, MAX));
        refused(16, "INDEX: the least i", INDEX, x -> x.text(0, 0, 0, 2, 1, MIN, MAX));
        refused(16, "INDEX: if none of them is taken, too: below", INDEX, x -> x.text(0, 0, 0, 2, 1, -1, 0));
        refused(16, "INDEX: if none of them is taken, too: beyond", INDEX, x -> x.text(0, 0, 0, 2, 1, 6, 0));
        refused(16, "CAST comes ahead of SIZE", CAST, x -> x.text(0, 0, 0, 2, 0, 0, -1));
        refused(16, "CAST comes ahead of INDEX", CAST, x -> x.text(0, 0, 0, 2, 0, 9, 9));
        refused(16, "NULL comes ahead of SIZE", NULL, x -> x.text(0, 0, 0, 3, 1, 0, -1));
        refused(16, "NULL comes ahead of INDEX", NULL, x -> x.text(0, 0, 0, 3, 1, -1, 1));
        refused(16, "SIZE comes ahead of INDEX", SIZE, x -> x.text(0, 0, 0, 2, 1, -1, -1));
        refused(16, "INDEX comes ahead of the FIRST FAULT", INDEX, x -> x.text(0, 0, 0, 0, 2, 0, 5));
    }

    private static Supplier<PedlarBook> lostSheet() {
        return () -> {
            PedlarBook x = land();
            x.lose(2);
            return x;
        };
    }

    /** The FIRST FAULT of codes that are no TEXT. */
    private static void noText(String words, int place, String codes) {
        Supplier<PedlarBook> written = () -> {
            PedlarBook x = land();
            int[] cells = new int[codes.length()];
            for (int i = 0; i < cells.length; i++) cells[i] = codes.charAt(i);
            write(x, 3, 1, cells);
            return x;
        };
        refused(16, words + ": '" + codes + "'", -100 - place, written,
                x -> x.text(0, 0, 9999, 3, 1, 0, codes.length()));
    }

    private static void isText(PedlarBook x, int number, String codes) {
        due(number, text(x, 0, 0, 9999, codes));
        due(0, x.fault());
    }

    private static void textWords() {
        noText("FIRST FAULT: the first code with which no TEXT goes on", 0, "a1");
        noText("FIRST FAULT: a capital is no letter of a clause", 0, "S1");
        noText("FIRST FAULT: no clause begins with ;", 0, ";s1");
        noText("FIRST FAULT: no clause begins with a digit", 0, "1");
        noText("FIRST FAULT: a letter where a digit is due", 1, "sp1");
        noText("FIRST FAULT: ; where a digit is due", 1, "s;p1");
        noText("FIRST FAULT: / (47) is no digit", 1, "s/");
        noText("FIRST FAULT: : (58) is no digit", 1, "s:");
        noText("FIRST FAULT: / (47) is no digit within a number", 2, "p1/");
        noText("FIRST FAULT: : (58) is no ;", 2, "p1:s1");
        noText("FIRST FAULT: < (60) is no ;", 2, "p1<s1");
        noText("FIRST FAULT: a letter without ; between", 2, "s1p1");
        noText("FIRST FAULT: in a later clause", 3, "s1;x1");
        noText("FIRST FAULT: two ; between", 3, "s1;;p1");
        noText("FIRST FAULT: in the last clause of six", 16, "s1;s1;s1;s1;s1;sx");
        noText("FIRST FAULT: the first one, though more follow", 1, "sx;yy;9");
        noText("one to six clauses: a ; behind the sixth", 17, "s1;s1;s1;s1;s1;s1;");
        noText("one to six clauses: a seventh", 17, "s1;s1;s1;s1;s1;s1;s1");
        edge(16, "the letters s, p, y, b, u, f, h, and no other code", () -> {
            String letters = "spybufh";
            for (int code = -2; code < 260; code++) {
                boolean letter = code > 0 && letters.indexOf((char) code) >= 0;
                PedlarBook x = new PedlarBook();
                write(x, 0, 2, code, '1');
                due(letter ? 0 : -100, x.text(0, 0, 0, 0, 2, 0, 2));
            }
        });
        edge(16, "one to six clauses", () -> {
            PedlarBook x = bare();
            isText(x, 0, "s1");
            isText(x, 1, "s1;p1");
            isText(x, 2, "s1;p1;y1");
            isText(x, 3, "s1;p1;y1;b1");
            isText(x, 4, "s1;p1;y1;b1;u1");
            isText(x, 5, "s1;p1;y1;b1;u1;h1");
            isText(x, 6, "y0001;y0001;y0001;y0001;y0001;y9999");
        });
    }

    private static void textNumbers() {
        noText("s (0 .. 10): above", 1, "s11");
        noText("p (0 .. 99): above", 1, "p100");
        noText("y (1 .. 9999): below", 1, "y0");
        noText("y (1 .. 9999): below, of four digits", 1, "y0000");
        noText("b (0 .. 7): above", 1, "b8");
        noText("u (0 .. 7): above", 1, "u8");
        noText("f (0 .. 7): above", 1, "f8");
        noText("h (0 .. 2): above", 1, "h3");
        noText("if it is not as told, it is its first one: though a wrong code follows", 1, "s99x");
        noText("if it is not as told, it is its first one: in a later clause", 4, "s1;p999;x");
        noText("a number is read as up to four digits: a fifth one does not go on", 5, "y12345");
        noText("a number is read as up to four digits: a fifth one behind zeros", 5, "s00010");
        noText("a number is read as up to four digits: four that are not as told come first", 1, "s00110");
        noText("a number is read as up to four digits: 9999 is not as told of p", 1, "p99990");
        noText("a number is read as up to four digits: 0000 is not as told of y", 1, "y00001");
        edge(16, "the least and the greatest number of each letter, of 1 to 4 digits", () -> {
            PedlarBook x = bare();
            isText(x, 0, "s0;s10;p0;p99;y1;y9999");
            isText(x, 1, "b0;b7;u0;u7;f0;f7");
            isText(x, 2, "h0;h2");
            isText(x, 3, "s0010;s010;s0000;s00;s000");
            isText(x, 4, "p0099;b0007;h002;y0001");
            due(0, x.force(0, 0, 0));
            due(99, x.force(1, 0, 0));
            due(1, x.force(2, 0, 0));
            due(2, x.force(3, 0, 0));
        });
        edge(16, "digits 48 .. 57: each of them", () -> {
            PedlarBook x = bare();
            for (int digit = 1; digit <= 9; digit++) {
                isText(x, digit - 1, "y" + digit);
                due(digit, x.force(2, 0, 0));
            }
            isText(x, 9, "y1203");
            due(1203, x.force(2, 0, 0));
        });
    }

    private static void textEnds() {
        noText("how many codes there are, if it just ends too soon: none at all", 0, "");
        noText("how many codes there are, if it just ends too soon: behind a letter", 1, "s");
        noText("how many codes there are, if it just ends too soon: behind a ;", 3, "s1;");
        noText("how many codes there are, if it just ends too soon: behind a later letter", 4, "s1;p");
        noText("how many codes there are, if it just ends too soon: of five clauses and a ;", 15, "s1;s1;s1;s1;s1;");
        edge(16, "from n cells of a SHEET from i on: nothing ahead or behind is looked at", () -> {
            PedlarBook x = land();
            due(-100, x.text(0, 0, 0, 2, 1, 5, 0));
            due(0, x.fault());
            due(-100, x.text(0, 0, 0, 2, 1, 1, 4));
            due(-101, x.text(0, 0, 0, 2, 1, 3, 1));
            due(-103, x.text(0, 0, 0, 2, 1, 0, 3));
            due(2, x.text(0, 0, 0, 2, 1, 3, 2));
            due(3, x.text(0, 0, 0, 2, 1, 0, 2));
            due(4, x.text(0, 0, 0, 2, 1, 0, 5));
            due(2, x.force(1, 0, 0));
        });
        edge(16, "of 60 cells up to the last one, in each LANE", () -> {
            for (int lane = 0; lane < 3; lane++) {
                PedlarBook x = bare();
                x.sheet(3, lane, 60);
                x.put(3, 55, 'y');
                for (int i = 56; i < 60; i++) x.put(3, i, '4');
                due(0, x.text(5, 0, 0, 3, lane, 55, 5));
                due(4444, x.force(2, 5, 0));
                due(1, x.text(5, 0, 0, 3, lane, 55, 2));
                due(4, x.force(2, 5, 0));
                due(-100, x.text(5, 0, 0, 3, lane, 0, 60));
                x.put(3, 59, 'p');
                due(-101, x.text(5, 0, 0, 3, lane, 59, 1));
            }
        });
        edge(16, "codes are cut to their LANE as they are put, and are not cut as they are read", () -> {
            PedlarBook x = bare();
            write(x, 0, 0, 's' + 256, '3' - 256);
            due(0, x.text(0, 0, 0, 0, 0, 0, 2));
            due(3, x.force(0, 0, 0));
            write(x, 0, 1, 's' + 256, '3');
            due(-100, x.text(0, 0, 0, 0, 1, 0, 2));
            write(x, 0, 1, 's' + 65536, '5');
            due(1, x.text(0, 0, 0, 0, 1, 0, 2));
            write(x, 0, 2, 's', '3' + 65536);
            due(-101, x.text(0, 0, 0, 0, 2, 0, 2));
            write(x, 0, 2, 's', MIN);
            due(-101, x.text(0, 0, 0, 0, 2, 0, 2));
            write(x, 0, 2, 's', MAX);
            due(-101, x.text(0, 0, 0, 0, 2, 0, 2));
        });
        edge(16, "what a SHEET has later does not change a TEXT", () -> {
            PedlarBook x = land();
            due(2, x.text(0, 0, 0, 2, 1, 0, 5));
            x.put(2, 1, '9');
            x.lose(2);
            due(1, x.force(0, 0, 0));
            due(2, x.force(1, 0, 0));
        });
    }

    private static PedlarBook allTexts() {
        PedlarBook x = land();
        for (int k = x.many(6); k < 10; k++) x.text(5, 9999, 9999, 2, 1, 0, 2);
        return x;
    }

    private static void textKept() {
        edge(16, "TEXTS, 10 ever, numbered as they come, of LANDS 0 .. 5 or CUSTOM, in DAYS 0 .. 9999", () -> {
            PedlarBook x = bare();
            write(x, 0, 0, 'h', '2');
            for (int t = 0; t < 10; t++) due(t, x.text(t % 7 - 1, 0, t * 1111, 0, 0, 0, 2));
            due(10, x.many(6));
            due(FULL, x.text(0, 0, 0, 0, 0, 0, 2));
            due(9, x.why(3, 0, 1, 9999));
        });
        refused(16, "FULL", FULL, TextsEdgesTest::allTexts, x -> x.text(0, 0, 0, 2, 1, 0, 5));
        refused(16, "-100 less it comes ahead of FULL", -103, TextsEdgesTest::allTexts,
                x -> x.text(0, 0, 0, 2, 1, 0, 3));
        refused(16, "-100 less it comes ahead of FULL: no code", -100, TextsEdgesTest::allTexts,
                x -> x.text(0, 0, 0, 2, 1, 0, 0));
        refused(16, "INDEX comes ahead of FULL", INDEX, TextsEdgesTest::allTexts, x -> x.text(0, 0, 0, 2, 1, 0, 6));
        refused(16, "OUTSIDE comes ahead of FULL", OUTSIDE, TextsEdgesTest::allTexts,
                x -> x.text(6, 0, 0, 2, 1, 0, 5));
        edge(16, "a TEXT that is refused tells nothing, neither its clauses ahead of the fault", () -> {
            PedlarBook x = bare();
            due(-106, text(x, 0, 0, 9999, "s9;p9;x"));
            due(4, x.force(0, 0, 0));
            due(0, x.force(1, 0, 0));
            due(0, text(x, 0, 0, 9999, "h1"));
            due(4, x.force(0, 0, 0));
            due(0, x.force(1, 0, 0));
        });
    }

    private static void force() {
        refused(17, "OUTSIDE: letter below 0", OUTSIDE, x -> x.force(-1, 0, 0));
        refused(17, "OUTSIDE: letter above 3", OUTSIDE, x -> x.force(4, 0, 0));
        refused(17, "OUTSIDE: LAND below 0 (CUSTOM is no LAND)", OUTSIDE, x -> x.force(0, -1, 0));
        refused(17, "OUTSIDE: LAND above 5", OUTSIDE, x -> x.force(0, 6, 0));
        refused(17, "OUTSIDE: DAY below 0", OUTSIDE, x -> x.force(0, 0, -1));
        refused(17, "OUTSIDE: DAY above 9999", OUTSIDE, x -> x.force(0, 0, 10000));
        edge(17, "where nothing is: s is 4, p is 0, y: 0, h is 0", () -> {
            PedlarBook x = new PedlarBook();
            int[] dues = {4, 0, 0, 0};
            for (int letter = 0; letter < 4; letter++) {
                due(dues[letter], x.force(letter, 0, 0));
                due(dues[letter], x.force(letter, 5, 9999));
            }
        });
        edge(17, "a TEXT that tells of other letters alone leaves it so", () -> {
            PedlarBook x = bare();
            text(x, 0, 0, 9999, "b0;u1;f2");
            due(4, x.force(0, 0, 0));
            text(x, 0, 0, 9999, "s0;y7");
            due(0, x.force(0, 0, 0));
            due(0, x.force(1, 0, 0));
            due(7, x.force(2, 0, 0));
            due(0, x.force(3, 0, 0));
        });
        edge(17, "in force that DAY: its first and its last one, and none beside", () -> {
            for (int land = -1; land < 1; land++) {
                PedlarBook x = bare();
                text(x, land, 10, 20, "s7");
                due(4, x.force(0, 0, 9));
                due(7, x.force(0, 0, 10));
                due(7, x.force(0, 0, 20));
                due(4, x.force(0, 0, 21));
            }
        });
        edge(17, "in force on DAYS 0 and 9999", () -> {
            PedlarBook x = bare();
            text(x, 5, 0, 0, "p1");
            text(x, 5, 9999, 9999, "p2");
            due(1, x.force(1, 5, 0));
            due(0, x.force(1, 5, 1));
            due(0, x.force(1, 5, 9998));
            due(2, x.force(1, 5, 9999));
        });
        edge(17, "by the LAW of that LAND, no other one's", () -> {
            PedlarBook x = bare();
            text(x, 3, 0, 9999, "h2");
            for (int land = 0; land < 6; land++) due(land == 3 ? 2 : 0, x.force(3, land, 50));
        });
        edge(17, "with the greatest number, if it tells of it", () -> {
            PedlarBook x = bare();
            text(x, 0, 0, 9999, "p1;s1");
            text(x, 0, 0, 9999, "p2");
            text(x, 0, 0, 50, "p3");
            due(3, x.force(1, 0, 50));
            due(2, x.force(1, 0, 51));
            due(1, x.force(0, 0, 51));
        });
        edge(17, "in it the last clause of it", () -> {
            PedlarBook x = bare();
            text(x, 0, 0, 9999, "s9;s8;p1;s0");
            due(0, x.force(0, 0, 0));
            text(x, 0, 0, 9999, "s1;s2;s3;s4;s5;s6");
            due(6, x.force(0, 0, 0));
        });
        edge(17, "if there is none, by CUSTOM likewise: a LAW goes ahead of a later CUSTOM", () -> {
            PedlarBook x = bare();
            text(x, 0, 10, 20, "s1");
            text(x, CUSTOM, 0, 9999, "s2;s3");
            text(x, CUSTOM, 15, 30, "s7");
            due(3, x.force(0, 0, 9));
            due(1, x.force(0, 0, 15));
            due(1, x.force(0, 0, 20));
            due(7, x.force(0, 0, 21));
            due(3, x.force(0, 0, 31));
            due(7, x.force(0, 1, 15));
        });
    }

    private static void bar() {
        refused(18, "OUTSIDE: GOOD below 0", OUTSIDE, x -> x.bar(-1, 0, 0));
        refused(18, "OUTSIDE: GOOD above 7", OUTSIDE, x -> x.bar(8, 0, 0));
        refused(18, "OUTSIDE: LAND below 0", OUTSIDE, x -> x.bar(0, -1, 0));
        refused(18, "OUTSIDE: LAND above 5", OUTSIDE, x -> x.bar(0, 6, 0));
        refused(18, "OUTSIDE: DAY below 0", OUTSIDE, x -> x.bar(0, 0, -1));
        refused(18, "OUTSIDE: DAY above 9999", OUTSIDE, x -> x.bar(0, 0, 10000));
        edge(18, "where nothing is told a GOOD is free", () -> {
            for (int good = 0; good < 8; good++) due(0, new PedlarBook().bar(good, 5, 9999));
        });
        edge(18, "free (0), barred (1), barred unless by licence (2): GOODS 0 and 7", () -> {
            PedlarBook x = bare();
            text(x, 0, 0, 9999, "b0;b7");
            text(x, 1, 0, 9999, "u0;u7");
            text(x, 2, 0, 9999, "f0;f7");
            for (int land = 0; land < 3; land++) {
                due((land + 1) % 3, x.bar(0, land, 0));
                due((land + 1) % 3, x.bar(7, land, 0));
                due(0, x.bar(1, land, 0));
                due(0, x.bar(6, land, 0));
            }
        });
        edge(18, "of b, u, f: one thing, of a GOOD: the last clause of any of them", () -> {
            PedlarBook x = bare();
            text(x, 0, 0, 9999, "b1;u1;f1;u2;b2");
            due(0, x.bar(1, 0, 0));
            due(1, x.bar(2, 0, 0));
            text(x, 0, 0, 9999, "u1");
            due(2, x.bar(1, 0, 0));
            due(1, x.bar(2, 0, 0));
        });
        edge(18, "a LAW that frees goes ahead of CUSTOM that bars, on its DAYS alone", () -> {
            PedlarBook x = bare();
            text(x, 0, 10, 20, "f3");
            text(x, CUSTOM, 5, 25, "b3");
            int[] days = {4, 5, 9, 10, 20, 21, 25, 26};
            int[] bars = {0, 1, 1, 0, 0, 1, 1, 0};
            for (int k = 0; k < days.length; k++) due(bars[k], x.bar(3, 0, days[k]));
            due(1, x.bar(3, 1, 10));
        });
    }

    private static void why() {
        refused(19, "OUTSIDE: letter below 0", OUTSIDE, x -> x.why(-1, 0, 0, 0));
        refused(19, "OUTSIDE: letter above 4", OUTSIDE, x -> x.why(5, 0, 0, 0));
        refused(19, "OUTSIDE: GOOD below 0, of letter 4", OUTSIDE, x -> x.why(4, -1, 0, 0));
        refused(19, "OUTSIDE: GOOD above 7, of letter 4", OUTSIDE, x -> x.why(4, 8, 0, 0));
        refused(19, "OUTSIDE: LAND below 0", OUTSIDE, x -> x.why(0, 0, -1, 0));
        refused(19, "OUTSIDE: LAND above 5", OUTSIDE, x -> x.why(4, 0, 6, 0));
        refused(19, "OUTSIDE: DAY below 0", OUTSIDE, x -> x.why(0, 0, 0, -1));
        refused(19, "OUTSIDE: DAY above 9999", OUTSIDE, x -> x.why(4, 0, 0, 10000));
        edge(19, "it (good) is not looked at else", () -> {
            PedlarBook x = land();
            int[] goods = {MIN, -1, 0, 7, 8, MAX};
            int[] texts = {0, 0, 0, 1};
            for (int letter = 0; letter < 4; letter++) {
                for (int good : goods) due(texts[letter], x.why(letter, good, 1, 50));
            }
        });
        edge(19, "NONE: nothing is told", () -> {
            PedlarBook x = land();
            due(NONE, x.why(3, 0, 0, 50));
            due(NONE, x.why(4, 0, 1, 50));
            due(NONE, x.why(3, 0, 1, 100));
            due(NONE, x.why(4, 1, 0, 50));
            due(1, x.why(4, 1, 1, 99));
            due(NONE, x.why(4, 1, 1, 100));
            due(NONE, new PedlarBook().why(0, 0, 0, 0));
        });
        edge(19, "a TEXT that tells just what is so where nothing is told is the one by which it is told", () -> {
            PedlarBook x = bare();
            text(x, CUSTOM, 0, 9999, "s4;p0;h0;f5");
            due(0, x.why(0, 0, 0, 0));
            due(0, x.why(1, 0, 0, 0));
            due(NONE, x.why(2, 0, 0, 0));
            due(0, x.why(3, 0, 0, 0));
            due(0, x.why(4, 5, 0, 0));
            due(NONE, x.why(4, 4, 0, 0));
        });
        edge(19, "TEXTS 0 and 9, a LAW ahead of a greater number of CUSTOM", () -> {
            PedlarBook x = bare();
            text(x, 4, 0, 50, "y5;u7");
            for (int t = 1; t < 10; t++) text(x, CUSTOM, 0, 9999, "y6;b7");
            due(0, x.why(2, 0, 4, 50));
            due(9, x.why(2, 0, 4, 51));
            due(0, x.why(4, 7, 4, 50));
            due(9, x.why(4, 7, 4, 51));
            due(9, x.why(4, 7, 3, 50));
        });
    }

    private static void quarrel() {
        refused(20, "OUTSIDE: letter below 0", OUTSIDE, x -> x.quarrel(-1, 0, 0, 0));
        refused(20, "OUTSIDE: letter above 4", OUTSIDE, x -> x.quarrel(5, 0, 0, 0));
        refused(20, "OUTSIDE: GOOD below 0, of letter 4", OUTSIDE, x -> x.quarrel(4, -1, 0, 0));
        refused(20, "OUTSIDE: GOOD above 7, of letter 4", OUTSIDE, x -> x.quarrel(4, 8, 0, 0));
        refused(20, "OUTSIDE: LAND below 0", OUTSIDE, x -> x.quarrel(0, 0, -1, 0));
        refused(20, "OUTSIDE: LAND above 5", OUTSIDE, x -> x.quarrel(0, 0, 6, 0));
        refused(20, "OUTSIDE: DAY below 0", OUTSIDE, x -> x.quarrel(0, 0, 0, -1));
        refused(20, "OUTSIDE: DAY above 9999", OUTSIDE, x -> x.quarrel(0, 0, 0, 10000));
        edge(20, "if both, a LAW and CUSTOM, tell of it: one of them alone is no quarrel", () -> {
            PedlarBook x = bare();
            due(0, x.quarrel(0, 0, 0, 0));
            text(x, 0, 0, 50, "s1;b1");
            due(0, x.quarrel(0, 0, 0, 50));
            due(0, x.quarrel(4, 1, 0, 50));
            text(x, CUSTOM, 50, 99, "s2;u1");
            due(0, x.quarrel(0, 0, 0, 49));
            due(1, x.quarrel(0, 0, 0, 50));
            due(0, x.quarrel(0, 0, 0, 51));
            due(0, x.quarrel(4, 1, 0, 49));
            due(1, x.quarrel(4, 1, 0, 50));
            due(0, x.quarrel(4, 1, 0, 51));
            due(0, x.quarrel(0, 0, 1, 50));
        });
        edge(20, "and not the same: by what is told in the end, not by any clause", () -> {
            PedlarBook x = bare();
            text(x, 0, 0, 9999, "s1;s5;b2;f2");
            text(x, CUSTOM, 0, 9999, "s5;f2");
            due(0, x.quarrel(0, 0, 0, 0));
            due(0, x.quarrel(4, 2, 0, 0));
            text(x, CUSTOM, 10, 10, "s1;b2");
            due(1, x.quarrel(0, 0, 0, 10));
            due(1, x.quarrel(4, 2, 0, 10));
            due(0, x.quarrel(0, 0, 0, 11));
        });
        edge(20, "two LAWS, or two TEXTS of CUSTOM, do not quarrel", () -> {
            PedlarBook x = bare();
            text(x, 0, 0, 9999, "h1");
            text(x, 0, 0, 9999, "h2");
            due(0, x.quarrel(3, 0, 0, 0));
            text(x, CUSTOM, 0, 9999, "p1");
            text(x, CUSTOM, 0, 9999, "p2");
            due(0, x.quarrel(1, 0, 0, 0));
        });
        edge(20, "one that tells what is so where nothing is told quarrels, too", () -> {
            PedlarBook x = bare();
            text(x, 0, 0, 9999, "s4;f3");
            text(x, CUSTOM, 0, 9999, "s5;b3");
            due(1, x.quarrel(0, MIN, 0, 0));
            due(1, x.quarrel(4, 3, 0, 0));
            due(0, x.quarrel(4, 2, 0, 0));
        });
    }
}
