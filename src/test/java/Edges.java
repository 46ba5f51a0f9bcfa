import java.util.ArrayList;
import java.util.List;
import java.util.function.Supplier;
import java.util.function.ToLongFunction;

/**
 * What the tests of boundary cases share: one small test for each sentence of the document that names one, told with
 * its promise's number and its words.
 */
abstract class Edges {
    static final int MIN = Integer.MIN_VALUE, MAX = Integer.MAX_VALUE;
    static final int UNKNOWN = -1, OUTSIDE = -2, STATE = -3, FULL = -4, NONE = -9;
    static final int NULL = -11, CAST = -12, INDEX = -13, SIZE = -14;
    static final long LOST = Long.MIN_VALUE;
    private static final int LOOKS_OF_ONE_OBJECT = 200;
    private static final List<ToLongFunction<PedlarBook>> LOOKS = looks();

    private static String sentence = "";
    private static int tests = 0;
    private static int checks = 0;
    private static int wrong = 0;
    private static final boolean[] tested = new boolean[55];

    static void edge(int promise, String words, Runnable test) {
        begin(promise, words);
        test.run();
        if (checks == 0) fail("nothing is checked");
    }

    /** The answer that is due stands first. */
    static void due(long want, long got) {
        checks++;
        if (want != got) fail("check " + checks + ": answered " + got + ", due is " + want);
    }

    static void refused(int promise, String words, long want, ToLongFunction<PedlarBook> call) {
        refused(promise, words, want, Edges::land, call);
    }

    /** A refusal or a FAULT: the answer, what fault() tells then, and that nothing else has changed. */
    static void refused(int promise, String words, long want, Supplier<PedlarBook> made,
            ToLongFunction<PedlarBook> call) {
        refusedWith(promise, words, want, want <= NULL && want >= SIZE ? (int) (-10 - want) : 0, made, call);
    }

    /** Of a call that answers a long: LOST, and this FAULT (0: a refusal). */
    static void lost(int promise, String words, int fault, ToLongFunction<PedlarBook> call) {
        refusedWith(promise, words, LOST, fault, Edges::land, call);
    }

    private static void refusedWith(int promise, String words, long want, int fault, Supplier<PedlarBook> made,
            ToLongFunction<PedlarBook> call) {
        begin(promise, words);
        for (int start = 0; start < LOOKS.size(); start += LOOKS_OF_ONE_OBJECT) {
            PedlarBook left = made.get();
            PedlarBook asked = made.get();
            due(want, call.applyAsLong(asked));
            due(namesFaults(promise) ? fault : left.fault(), asked.fault());
            int end = Math.min(LOOKS.size(), start + LOOKS_OF_ONE_OBJECT);
            for (ToLongFunction<PedlarBook> look : LOOKS.subList(start, end)) {
                due(look.applyAsLong(left), look.applyAsLong(asked));
            }
        }
    }

    /** Promises whose line names FAULTS: only these calls change what fault() tells. */
    private static boolean namesFaults(int promise) {
        switch (promise) {
            case 10: case 16: case 36: case 44: case 46: case 47: case 48: case 51: return true;
            default: return false;
        }
    }

    private static void begin(int promise, String words) {
        sentence = "promise " + promise + ", \"" + words + "\"";
        tested[promise] = true;
        checks = 0;
        tests++;
    }

    private static void fail(String how) {
        wrong++;
        System.out.println(sentence + ": " + how);
    }

    static void end(int firstPromise, int lastPromise) {
        for (int promise = firstPromise; promise <= lastPromise; promise++) {
            if (tested[promise]) continue;
            wrong++;
            System.out.println("promise " + promise + " has no test");
        }
        System.out.println(tests + " sentences, " + wrong + " wrong answers");
        if (wrong != 0) System.exit(1);
    }

    /** PLACES in LANDS 0, 1, 2; BANDS with 2 MEN and a BOY, with none, with 3 BOYS; two HOUSES; a PACK of each kind. */
    static PedlarBook bare() {
        PedlarBook x = new PedlarBook();
        x.place(0);
        x.place(1);
        x.place(2);
        x.band(2, 1);
        x.band(0, 0);
        x.band(0, 3);
        x.house(500);
        x.house(80);
        x.pack(0, 0, 0);
        x.pack(1, 1, 1);
        x.pack(2, 2, 0);
        return x;
    }

    /** Something of everything, SHEET 3 with nothing, and 2 (CAST) as the latest FAULT. */
    static PedlarBook land() {
        PedlarBook x = bare();
        x.walk(0, 1, 10, 20);
        x.walk(1, 1, 15, 25);
        x.walk(2, 0, 30, 40);
        x.walk(0, 0, 35, 36);
        x.entry(0, 0, 1, 10, 5, 10);
        x.entry(0, 2, 1, 4, 9, 12);
        x.entry(1, 0, 2, 20, 3, 20);
        x.entry(2, 1, 3, 7, 2, 30);
        x.entry(2, 3, 3, 1, 0, 31);
        text(x, -1, 0, 9999, "s5;y30;p7");
        text(x, 1, 0, 99, "u1;h1");
        x.lose(3);
        x.licence(0, 1, 0, 11);
        x.door(0, 1, 0, 50, 12);
        x.door(1, 2, 1, 60, 20);
        x.door(2, 0, 2, 70, 31);
        x.paid(0, 5, 13);
        x.send(0, 7, 14);
        x.owe(0, 1, 100);
        x.owe(1, 6, 50);
        x.party(0, 0, 60);
        x.party(6, 1, 0);
        write(x, 0, 2, 0, 1, 2, 1);
        write(x, 1, 0, 0, 1, 5, 40, 2, 1, 1, 40);
        write(x, 2, 1, 's', '1', ';', 'p', '2');
        x.round(0, 2, 0, 2);
        x.round(0, 2, 1, 3);
        x.right(0, 0, 0, 5, 15);
        x.right(1, 0, 1, 10, 20);
        x.offer(0, 0, 0, 400, 30);
        x.offer(1, 1, 1, 80, 20);
        x.tell(0, 2);
        x.taken(0, 0, 2);
        return x;
    }

    static void write(PedlarBook x, int k, int lane, int... cells) {
        x.sheet(k, lane, cells.length);
        for (int i = 0; i < cells.length; i++) x.put(k, i, cells[i]);
    }

    /** A TEXT by way of SHEET 3. */
    static int text(PedlarBook x, int land, int from, int to, String codes) {
        int[] cells = new int[codes.length()];
        for (int i = 0; i < cells.length; i++) cells[i] = codes.charAt(i);
        write(x, 3, 1, cells);
        return x.text(land, from, to, 3, 1, 0, cells.length);
    }

    /** Calls by which everything can be seen; those that change something stand last. */
    private static List<ToLongFunction<PedlarBook>> looks() {
        List<ToLongFunction<PedlarBook>> all = new ArrayList<>();
        for (int w = 0; w < 10; w++) {
            int what = w;
            all.add(x -> x.many(what));
        }
        all.add(x -> x.trace());
        addBandLooks(all);
        addPackLooks(all);
        addTextLooks(all);
        addDebtLooks(all);
        addPartyLooks(all);
        addRoundLooks(all);
        addSheetLooks(all);
        all.add(x -> x.licence(2, 5, 9998, 9998));
        all.add(x -> x.right(2, 1, 0, 9998, 9998));
        for (int p = 0; p < 3; p++) {
            int pack = p;
            all.add(x -> x.send(pack, 1, 9999));
        }
        return all;
    }

    private static void addBandLooks(List<ToLongFunction<PedlarBook>> all) {
        int[] days = {0, 10, 20, 25, 36, 9999};
        for (int b = -1; b < 3; b++) {
            int band = b;
            for (int d : days) {
                all.add(x -> x.day(band, d));
                all.add(x -> x.knows(band, d));
            }
            for (int w = 0; w < 4; w++) {
                int who = w;
                all.add(x -> x.share(band, 0, 9999, who));
            }
            for (int e0 = 0; e0 < 6; e0++) {
                int e = e0;
                all.add(x -> x.known(e, band));
            }
        }
    }

    private static void addPackLooks(List<ToLongFunction<PedlarBook>> all) {
        for (int p = 0; p < 3; p++) {
            int pack = p;
            for (int g = 0; g < 8; g++) {
                int good = g;
                all.add(x -> x.held(pack, good, 9999));
                all.add(x -> x.as(pack, good, 9999, 9999));
            }
            all.add(x -> x.unallowed(pack));
            all.add(x -> x.credit(pack, 13));
            all.add(x -> x.credit(pack, 9999));
        }
        for (int e0 = 0; e0 < 6; e0++) {
            int e = e0;
            for (int w = 0; w < 6; w++) {
                int what = w;
                all.add(x -> x.told(e, what));
            }
        }
    }

    private static void addTextLooks(List<ToLongFunction<PedlarBook>> all) {
        for (int l = 0; l < 3; l++) {
            int land = l;
            for (int c = 0; c < 4; c++) {
                int letter = c;
                all.add(x -> x.force(letter, land, 50));
                all.add(x -> x.why(letter, 0, land, 50));
            }
            for (int g = 0; g < 8; g++) {
                int good = g;
                all.add(x -> x.bar(good, land, 50));
                all.add(x -> x.quarrel(4, good, land, 50));
            }
        }
    }

    private static void addDebtLooks(List<ToLongFunction<PedlarBook>> all) {
        for (int d = 0; d < 4; d++) {
            int debt = d;
            for (int w = 0; w < 8; w++) {
                int what = w;
                all.add(x -> x.due(debt, what));
            }
        }
    }

    private static void addPartyLooks(List<ToLongFunction<PedlarBook>> all) {
        for (int b = 0; b < 10; b++) {
            int by = b;
            for (int t = 0; t < 10; t++) {
                int to = t;
                all.add(x -> x.owes(by, to));
                if (b < 2) all.add(x -> x.pays(by, to));
            }
        }
        all.add(x -> x.ruin());
    }

    private static void addRoundLooks(List<ToLongFunction<PedlarBook>> all) {
        int[] days = {5, 10, 15, 20};
        for (int r0 = 0; r0 < 3; r0++) {
            int r = r0;
            for (int d : days) all.add(x -> x.holder(r, d));
            all.add(x -> x.two(r));
            all.add(x -> x.walked(r, 0, 0, 9999));
        }
        for (int s = 0; s < 9; s++) {
            int set = s;
            all.add(x -> x.judge(set));
        }
        all.add(x -> x.best(0));
        all.add(x -> x.best(1));
    }

    private static void addSheetLooks(List<ToLongFunction<PedlarBook>> all) {
        for (int k0 = 0; k0 < 4; k0++) {
            int k = k0;
            for (int i0 = -1; i0 < 10; i0++) {
                int i = i0;
                for (int l = 0; l < 3; l++) {
                    int lane = l;
                    all.add(x -> x.cell(k, i, lane));
                    all.add(x -> x.fault());
                }
            }
        }
    }
}
