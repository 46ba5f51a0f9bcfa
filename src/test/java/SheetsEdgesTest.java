import java.util.List;
import java.util.function.ToLongFunction;

/** Boundary cases of promises 44 to 54: sheets, telling, kinds, trace, faults, counts. */
public final class SheetsEdgesTest extends Edges {
    public static void main(String[] args) {
        sheet();
        lose();
        put();
        cell();
        copyFaults();
        copyCells();
        tell();
        show();
        taken();
        takenOfItsOwn();
        trace();
        fault();
        many();
        end(44, 54);
    }

    private static void sheet() {
        refused(44, "UNKNOWN: below 0", UNKNOWN, x -> x.sheet(-1, 0, 1));
        refused(44, "UNKNOWN: above 3", UNKNOWN, x -> x.sheet(4, 0, 1));
        refused(44, "OUTSIDE: lane below 0", OUTSIDE, x -> x.sheet(0, -1, 1));
        refused(44, "OUTSIDE: lane above 2", OUTSIDE, x -> x.sheet(0, 3, 1));
        refused(44, "OUTSIDE: n above 60", OUTSIDE, x -> x.sheet(0, 0, 61));
        refused(44, "OUTSIDE: n far above 60", OUTSIDE, x -> x.sheet(0, 0, MAX));
        refused(44, "SIZE: a length below 0", SIZE, x -> x.sheet(0, 0, -1));
        refused(44, "SIZE: a length far below 0", SIZE, x -> x.sheet(0, 0, MIN));
        refused(44, "SIZE: of a SHEET that has nothing it leaves nothing", SIZE, x -> x.sheet(3, 0, -1));
        refused(44, "UNKNOWN comes ahead of OUTSIDE", UNKNOWN, x -> x.sheet(4, 3, 61));
        refused(44, "UNKNOWN comes ahead of SIZE", UNKNOWN, x -> x.sheet(4, 0, -1));
        refused(44, "OUTSIDE: lane comes ahead of SIZE", OUTSIDE, x -> x.sheet(0, 3, -1));
        edge(44, "a row of 0 .. 60 numbers", () -> {
            for (int lane = 0; lane < 3; lane++) {
                PedlarBook x = new PedlarBook();
                due(1, x.sheet(0, lane, 0));
                due(INDEX, x.put(0, 0, 1));
                due(1, x.sheet(3, lane, 60));
                due(1, x.put(3, 59, 1));
                due(INDEX, x.put(3, 60, 1));
            }
        });
        edge(44, "a new row: 0 at first, though the one ahead of it was not", () -> {
            PedlarBook x = new PedlarBook();
            x.sheet(1, 2, 60);
            for (int i = 0; i < 60; i++) x.put(1, i, -1);
            due(1, x.sheet(1, 0, 60));
            for (int i = 0; i < 60; i++) due(0, x.cell(1, i, 0));
        });
        edge(44, "a new row has its own length, and its own LANE", () -> {
            PedlarBook x = new PedlarBook();
            x.sheet(1, 2, 10);
            x.put(1, 5, 7);
            x.sheet(1, 0, 2);
            due(INDEX, x.put(1, 2, 1));
            x.sheet(1, 1, 10);
            due(0, x.cell(1, 5, 1));
            due(LOST, x.cell(1, 5, 2));
            due(2, x.fault());
            due(LOST, x.cell(1, 5, 0));
            due(2, x.fault());
        });
        edge(44, "each SHEET has its own row", () -> {
            PedlarBook x = new PedlarBook();
            for (int k = 0; k < 4; k++) x.sheet(k, 2, 60);
            for (int k = 0; k < 4; k++) {
                x.put(k, 0, 10 + k);
                x.put(k, 59, 20 + k);
            }
            x.sheet(1, 2, 60);
            for (int k = 0; k < 4; k++) {
                due(k == 1 ? 0 : 10 + k, x.cell(k, 0, 2));
                due(k == 1 ? 0 : 20 + k, x.cell(k, 59, 2));
            }
        });
    }

    private static void lose() {
        refused(45, "UNKNOWN: below 0", UNKNOWN, x -> x.lose(-1));
        refused(45, "UNKNOWN: above 3", UNKNOWN, x -> x.lose(4));
        edge(45, "1; 0: it had nothing", () -> {
            PedlarBook x = land();
            for (int k = 0; k < 4; k++) {
                due(k == 3 ? 0 : 1, x.lose(k));
                due(0, x.lose(k));
                due(NULL, x.put(k, 0, 1));
            }
        });
        edge(45, "an empty row is not nothing", () -> {
            PedlarBook x = new PedlarBook();
            x.sheet(2, 1, 0);
            due(1, x.lose(2));
            due(0, x.lose(2));
        });
        edge(45, "the other SHEETS have what they had", () -> {
            PedlarBook x = land();
            x.lose(1);
            due(2, x.cell(0, 2, 2));
            due('s', x.cell(2, 0, 1));
        });
        edge(45, "what comes behind it is 0 at first", () -> {
            PedlarBook x = land();
            x.lose(0);
            x.sheet(0, 2, 4);
            for (int i = 0; i < 4; i++) due(0, x.cell(0, i, 2));
        });
    }

    private static void put() {
        refused(46, "UNKNOWN: below 0", UNKNOWN, x -> x.put(-1, 0, 5));
        refused(46, "UNKNOWN: above 3", UNKNOWN, x -> x.put(4, 0, 5));
        refused(46, "NULL", NULL, x -> x.put(3, 0, 5));
        refused(46, "INDEX: below 0", INDEX, x -> x.put(0, -1, 5));
        refused(46, "INDEX: how many there are", INDEX, x -> x.put(0, 4, 5));
        refused(46, "INDEX: the least number", INDEX, x -> x.put(0, MIN, 5));
        refused(46, "INDEX: the greatest number", INDEX, x -> x.put(0, MAX, 5));
        refused(46, "INDEX: of an empty row", INDEX, () -> {
            PedlarBook x = land();
            x.sheet(1, 0, 0);
            return x;
        }, x -> x.put(1, 0, 5));
        refused(46, "UNKNOWN comes ahead of INDEX", UNKNOWN, x -> x.put(4, -1, 5));
        refused(46, "NULL comes ahead of INDEX", NULL, x -> x.put(3, -1, 5));
        edge(46, "the first and the last cell", () -> {
            PedlarBook x = land();
            due(1, x.put(0, 0, 77));
            due(1, x.put(0, 3, 88));
            due(77, x.cell(0, 0, 2));
            due(1, x.cell(0, 1, 2));
            due(2, x.cell(0, 2, 2));
            due(88, x.cell(0, 3, 2));
            due(0, x.fault());
        });
        int[] values = {0, 1, -1, 127, 128, 129, 255, 256, 257, -127, -128, -129, -255, -256, -257, 32767, 32768, 32769,
            65535, 65536, 65537, -32768, -32769, -65535, -65536, MAX, MIN};
        edge(46, "what comes to a cell of it is cut to its LANE: bytes", () -> {
            PedlarBook x = land();
            for (int v : values) {
                due(1, x.put(1, 0, v));
                due((byte) v, x.cell(1, 0, 0));
            }
            x.put(1, 0, 128);
            due(-128, x.cell(1, 0, 0));
            x.put(1, 0, -129);
            due(127, x.cell(1, 0, 0));
        });
        edge(46, "what comes to a cell of it is cut to its LANE: shorts", () -> {
            PedlarBook x = land();
            for (int v : values) {
                due(1, x.put(2, 0, v));
                due((short) v, x.cell(2, 0, 1));
            }
            x.put(2, 0, 32768);
            due(-32768, x.cell(2, 0, 1));
            x.put(2, 0, -32769);
            due(32767, x.cell(2, 0, 1));
        });
        edge(46, "ints are not cut", () -> {
            PedlarBook x = land();
            for (int v : values) {
                due(1, x.put(0, 0, v));
                due(v, x.cell(0, 0, 2));
            }
        });
    }

    private static void cell() {
        lost(47, "LOST: UNKNOWN, below 0", 0, x -> x.cell(-1, 0, 0));
        lost(47, "LOST: UNKNOWN, above 3", 0, x -> x.cell(4, 0, 0));
        lost(47, "LOST: OUTSIDE, lane below 0", 0, x -> x.cell(0, 0, -1));
        lost(47, "LOST: OUTSIDE, lane above 2", 0, x -> x.cell(0, 0, 3));
        lost(47, "FAULTS CAST: ints as bytes", 2, x -> x.cell(0, 0, 0));
        lost(47, "FAULTS CAST: ints as shorts", 2, x -> x.cell(0, 0, 1));
        lost(47, "FAULTS CAST: bytes as shorts", 2, x -> x.cell(1, 0, 1));
        lost(47, "FAULTS CAST: shorts as ints", 2, x -> x.cell(2, 0, 2));
        lost(47, "FAULTS NULL", 1, x -> x.cell(3, 0, 0));
        lost(47, "FAULTS NULL: nothing is no CAST, of whatever LANE it is taken", 1, x -> x.cell(3, 0, 2));
        lost(47, "FAULTS INDEX: below 0", 3, x -> x.cell(0, -1, 2));
        lost(47, "FAULTS INDEX: how many there are", 3, x -> x.cell(0, 4, 2));
        lost(47, "FAULTS INDEX: the least number", 3, x -> x.cell(0, MIN, 2));
        lost(47, "FAULTS INDEX: the greatest number", 3, x -> x.cell(0, MAX, 2));
        lost(47, "UNKNOWN comes ahead of NULL", 0, x -> x.cell(4, 0, 0));
        lost(47, "OUTSIDE comes ahead of NULL", 0, x -> x.cell(3, 0, 3));
        lost(47, "OUTSIDE comes ahead of INDEX", 0, x -> x.cell(0, -1, 3));
        lost(47, "CAST comes ahead of INDEX", 2, x -> x.cell(0, -1, 0));
        lost(47, "NULL comes ahead of INDEX", 1, x -> x.cell(3, -1, 0));
        edge(47, "nothing is no CAST: a SHEET that has lost its row, taken as of its LANE and of another", () -> {
            PedlarBook x = land();
            x.lose(0);
            for (int lane = 0; lane < 3; lane++) {
                due(LOST, x.cell(0, 0, lane));
                due(1, x.fault());
            }
        });
        edge(47, "the first and the last cell, of each LANE; a cell that is 0 is not LOST", () -> {
            PedlarBook x = land();
            due(0, x.cell(0, 0, 2));
            due(1, x.cell(0, 3, 2));
            due(0, x.cell(1, 0, 0));
            due(40, x.cell(1, 7, 0));
            due('s', x.cell(2, 0, 1));
            due('2', x.cell(2, 4, 1));
            due(0, x.fault());
        });
        edge(47, "an empty row: CAST as of another LANE, INDEX as of its own", () -> {
            PedlarBook x = new PedlarBook();
            x.sheet(0, 1, 0);
            due(LOST, x.cell(0, 0, 0));
            due(2, x.fault());
            due(LOST, x.cell(0, 0, 1));
            due(3, x.fault());
        });
        edge(47, "the least int is a number, not LOST", () -> {
            PedlarBook x = land();
            x.put(0, 0, MIN);
            due(-2147483648L, x.cell(0, 0, 2));
            due(0, x.fault());
        });
    }

    /** Ints 10 .. 14 in SHEET 0, 20 .. 22 in SHEET 1, shorts in SHEET 2, nothing in SHEET 3. */
    private static PedlarBook rows() {
        PedlarBook x = land();
        write(x, 0, 2, 10, 11, 12, 13, 14);
        write(x, 1, 2, 20, 21, 22);
        write(x, 2, 1, 30, 31);
        return x;
    }

    private static void noCopy(String words, long want, ToLongFunction<PedlarBook> call) {
        refused(48, words, want, SheetsEdgesTest::rows, call);
    }

    private static void copyFaults() {
        noCopy("UNKNOWN: the first, below 0", UNKNOWN, x -> x.copy(-1, 0, 0, 0, 1));
        noCopy("UNKNOWN: the first, above 3", UNKNOWN, x -> x.copy(4, 0, 0, 0, 1));
        noCopy("UNKNOWN: the other, below 0", UNKNOWN, x -> x.copy(0, 0, -1, 0, 1));
        noCopy("UNKNOWN: the other, above 3", UNKNOWN, x -> x.copy(0, 0, 4, 0, 1));
        noCopy("NULL: the first", NULL, x -> x.copy(3, 0, 0, 0, 1));
        noCopy("NULL: the other", NULL, x -> x.copy(0, 0, 3, 0, 1));
        noCopy("NULL: both, the same", NULL, x -> x.copy(3, 0, 3, 0, 0));
        noCopy("NULL, though no cell goes", NULL, x -> x.copy(0, 0, 3, 0, 0));
        noCopy("CAST: unlike LANES", CAST, x -> x.copy(0, 0, 2, 0, 1));
        noCopy("CAST: unlike LANES, a shorter one to a longer one", CAST, x -> x.copy(2, 0, 0, 0, 1));
        noCopy("CAST, though no cell goes", CAST, x -> x.copy(0, 0, 2, 0, 0));
        noCopy("INDEX: i below 0", INDEX, x -> x.copy(0, -1, 1, 0, 1));
        noCopy("INDEX: j below 0", INDEX, x -> x.copy(0, 0, 1, -1, 1));
        noCopy("INDEX: n below 0", INDEX, x -> x.copy(0, 0, 1, 0, -1));
        noCopy("INDEX: n below 0, behind some cells", INDEX, x -> x.copy(0, 2, 1, 2, -1));
        noCopy("INDEX: n far below 0", INDEX, x -> x.copy(0, 0, 1, 0, MIN));
        noCopy("INDEX: i and n beyond by one cell", INDEX, x -> x.copy(0, 3, 1, 0, 3));
        noCopy("INDEX: j and n beyond by one cell", INDEX, x -> x.copy(0, 0, 1, 1, 3));
        noCopy("INDEX: i beyond, if none is taken, too", INDEX, x -> x.copy(0, 6, 1, 0, 0));
        noCopy("INDEX: j beyond, if none is taken, too", INDEX, x -> x.copy(0, 0, 1, 4, 0));
        noCopy("INDEX: i below 0, if none is taken, too", INDEX, x -> x.copy(0, -1, 1, 0, 0));
        noCopy("INDEX: j below 0, if none is taken, too", INDEX, x -> x.copy(0, 0, 1, -1, 0));
        noCopy("INDEX: the greatest i and n", INDEX, x -> x.copy(0, MAX, 1, 0, MAX));
        noCopy("INDEX: the greatest j and n", INDEX, x -> x.copy(0, 0, 1, MAX, MAX));
        noCopy("INDEX: the greatest n", INDEX, x -> x.copy(0, 1, 0, 1, MAX));
        noCopy("INDEX: within one SHEET", INDEX, x -> x.copy(0, 0, 0, 1, 5));
        noCopy("UNKNOWN (the other) comes ahead of NULL (the first)", UNKNOWN, x -> x.copy(3, 0, 4, 0, 1));
        noCopy("UNKNOWN comes ahead of INDEX", UNKNOWN, x -> x.copy(4, -1, 0, -1, -1));
        noCopy("NULL (the first) comes ahead of INDEX", NULL, x -> x.copy(3, -1, 0, 0, 1));
        noCopy("NULL (the other) comes ahead of INDEX", NULL, x -> x.copy(0, -1, 3, 0, 1));
        noCopy("CAST comes ahead of INDEX", CAST, x -> x.copy(0, -1, 2, 0, 1));
        noCopy("CAST comes ahead of INDEX: n", CAST, x -> x.copy(0, 0, 2, 0, -1));
        edge(48, "NULL comes ahead of CAST: what was lost has no LANE", () -> {
            PedlarBook x = rows();
            x.lose(2);
            due(NULL, x.copy(0, 0, 2, 0, 1));
            due(NULL, x.copy(2, 0, 0, 0, 1));
            due(1, x.fault());
        });
    }

    private static void areCells(PedlarBook x, int k, int... cells) {
        for (int i = 0; i < cells.length; i++) due(cells[i], x.cell(k, i, 2));
    }

    private static void copyCells() {
        edge(48, "n: none go from any place up to the end", () -> {
            PedlarBook x = rows();
            due(0, x.copy(0, 5, 1, 3, 0));
            due(0, x.copy(0, 0, 1, 0, 0));
            due(0, x.fault());
            areCells(x, 0, 10, 11, 12, 13, 14);
            areCells(x, 1, 20, 21, 22);
        });
        edge(48, "an empty row: none go from it and to it", () -> {
            PedlarBook x = rows();
            x.sheet(1, 2, 0);
            due(0, x.copy(0, 0, 1, 0, 0));
            due(0, x.copy(1, 0, 0, 5, 0));
            due(0, x.copy(1, 0, 1, 0, 0));
            due(INDEX, x.copy(1, 0, 0, 0, 1));
        });
        edge(48, "up to the last cell of both", () -> {
            PedlarBook x = rows();
            due(3, x.copy(0, 2, 1, 0, 3));
            areCells(x, 1, 12, 13, 14);
            areCells(x, 0, 10, 11, 12, 13, 14);
            due(1, x.copy(1, 2, 0, 0, 1));
            areCells(x, 0, 14, 11, 12, 13, 14);
        });
        edge(48, "perhaps the same, as they were: forward", () -> {
            PedlarBook x = rows();
            due(4, x.copy(0, 0, 0, 1, 4));
            areCells(x, 0, 10, 10, 11, 12, 13);
        });
        edge(48, "perhaps the same, as they were: backward", () -> {
            PedlarBook x = rows();
            due(4, x.copy(0, 1, 0, 0, 4));
            areCells(x, 0, 11, 12, 13, 14, 14);
        });
        edge(48, "perhaps the same, onto itself", () -> {
            PedlarBook x = rows();
            due(5, x.copy(0, 0, 0, 0, 5));
            areCells(x, 0, 10, 11, 12, 13, 14);
        });
        edge(48, "all 60 cells, of each LANE", () -> {
            for (int lane = 0; lane < 3; lane++) {
                PedlarBook x = new PedlarBook();
                x.sheet(0, lane, 60);
                x.sheet(3, lane, 60);
                for (int i = 0; i < 60; i++) x.put(0, i, 60 - i);
                due(60, x.copy(0, 0, 3, 0, 60));
                for (int i = 0; i < 60; i++) due(60 - i, x.cell(3, i, lane));
                due(INDEX, x.copy(0, 0, 3, 0, 61));
                due(INDEX, x.copy(0, 1, 3, 0, 60));
            }
        });
    }

    private static void tell() {
        refused(49, "OUTSIDE: what below 0", OUTSIDE, x -> x.tell(-1, 0));
        refused(49, "OUTSIDE: what above 1", OUTSIDE, x -> x.tell(2, 0));
        refused(49, "UNKNOWN: PACK below 0", UNKNOWN, x -> x.tell(0, -1));
        refused(49, "UNKNOWN: PACK that is not there", UNKNOWN, x -> x.tell(0, 3));
        refused(49, "UNKNOWN: DEBT below 0", UNKNOWN, x -> x.tell(1, -1));
        refused(49, "UNKNOWN: DEBT that is not there", UNKNOWN, x -> x.tell(1, 3));
        refused(49, "OUTSIDE comes ahead of UNKNOWN", OUTSIDE, x -> x.tell(2, -1));
        edge(49, "a PACK without ENTRIES, of each kind", () -> {
            int[] tellings = {0, 10, 10};
            for (int kind = 0; kind < 3; kind++) due(tellings[kind], bare().tell(0, kind));
        });
        edge(49, "PACK: how many ENTRIES it has, up to 60; ROUND: and 10; BOUGHT: both", () -> {
            int[] tellings = {60, 70, 130};
            for (int kind = 0; kind < 3; kind++) {
                PedlarBook x = bare();
                for (int e = 0; e < 60; e++) x.entry(kind, 0, 0, 1, 0, 0);
                due(tellings[kind], x.tell(0, kind));
            }
        });
        edge(49, "DOOR: its COIN, not what is left; LEFT: and 1; RAGS: both", () -> {
            PedlarBook x = bare();
            for (int kind = 0; kind < 3; kind++) x.door(kind, 0, 0, 1, 0);
            for (int kind = 0; kind < 3; kind++) x.door(kind, 0, 0, 9999, 0);
            for (int kind = 0; kind < 3; kind++) x.paid(3 + kind, 9999, 0);
            int[] tellings = {1, 2, 3, 9999, 10000, 19999};
            for (int k = 0; k < 6; k++) due(tellings[k], x.tell(1, k));
        });
        edge(49, "a DEBT of a kind is none of the like PACK: their kinds are their own", () -> {
            PedlarBook x = bare();
            x.door(2, 0, 0, 5, 0);
            due(11, x.tell(1, 0));
            due(0, x.tell(0, 0));
        });
    }

    private static void show() {
        refused(50, "UNKNOWN: below 0", UNKNOWN, x -> x.show(-1));
        refused(50, "UNKNOWN: not there", UNKNOWN, x -> x.show(3));
        edge(50, "its number; BOUGHT ones have their own: 60", () -> {
            PedlarBook x = new PedlarBook();
            x.band(0, 0);
            x.house(0);
            for (int p = 0; p < 12; p++) x.pack(p % 3, 0, 0);
            for (int p = 0; p < 12; p++) due(p % 3 == 2 ? 60 : p, x.show(p));
            due(UNKNOWN, x.show(12));
        });
        edge(50, "SHOWN by a lent body (4); BOUGHT ones have their own (5)", () -> {
            for (int kind = 0; kind < 3; kind++) {
                PedlarBook x = bare();
                x.show(kind);
                due(kind == 2 ? 5 : 4, x.trace());
            }
        });
    }

    private static void taken() {
        refused(51, "OUTSIDE: what below 0", OUTSIDE, x -> x.taken(-1, 0, 0));
        refused(51, "OUTSIDE: what above 1", OUTSIDE, x -> x.taken(2, 0, 0));
        refused(51, "OUTSIDE: kind below 0", OUTSIDE, x -> x.taken(0, 0, -1));
        refused(51, "OUTSIDE: kind above 2", OUTSIDE, x -> x.taken(1, 0, 3));
        refused(51, "UNKNOWN: PACK below 0", UNKNOWN, x -> x.taken(0, -1, 0));
        refused(51, "UNKNOWN: PACK that is not there", UNKNOWN, x -> x.taken(0, 3, 0));
        refused(51, "UNKNOWN: DEBT below 0", UNKNOWN, x -> x.taken(1, -1, 0));
        refused(51, "UNKNOWN: DEBT that is not there", UNKNOWN, x -> x.taken(1, 3, 0));
        refused(51, "OUTSIDE: what comes ahead of UNKNOWN", OUTSIDE, x -> x.taken(2, 3, 0));
        refused(51, "OUTSIDE: kind comes ahead of UNKNOWN", OUTSIDE, x -> x.taken(0, 3, 3));
        for (int w = 0; w < 2; w++) {
            int what = w;
            String of = w == 0 ? "PACK" : "DEBT";
            refused(51, "CAST: a " + of + " of kind 0 is none of kind 1", CAST, x -> x.taken(what, 0, 1));
            refused(51, "CAST: a " + of + " of kind 0 is none of kind 2", CAST, x -> x.taken(what, 0, 2));
            refused(51, "CAST: a " + of + " of kind 1 is none of kind 2", CAST, x -> x.taken(what, 1, 2));
            edge(51, "a " + of + " taken as one of its kind, or of one that its kind is: 1", () -> {
                PedlarBook x = land();
                for (int own = 0; own < 3; own++) {
                    for (int kind = 0; kind <= own; kind++) {
                        due(1, x.taken(what, own, kind));
                        due(0, x.fault());
                    }
                }
            });
        }
    }

    private static void takenOfItsOwn() {
        edge(51, "a PACK's kind is not its number's DEBT's: CAST of the one, 1 of the other", () -> {
            PedlarBook x = bare();
            x.door(2, 0, 0, 1, 0);
            x.door(0, 0, 0, 1, 0);
            due(CAST, x.taken(0, 0, 2));
            due(1, x.taken(1, 0, 2));
            due(1, x.taken(0, 1, 1));
            due(CAST, x.taken(1, 1, 1));
        });
    }

    private static void trace() {
        edge(52, "0 at first", () -> due(0, new PedlarBook().trace()));
        edge(52, "bodies leave their number as they begin: of each kind", () -> {
            int[] packs = {1, 2 * 31 + 1, ((3 * 31 + 2) * 31 + 1) * 31 + 1};
            int[] debts = {6, 7 * 31 + 6, ((8 * 31 + 7) * 31 + 6) * 31 + 6};
            for (int kind = 0; kind < 3; kind++) {
                PedlarBook x = bare();
                x.tell(0, kind);
                due(packs[kind], x.trace());
                x = land();
                int before = x.trace();
                x.tell(1, kind);
                int steps = kind == 0 ? 31 : kind == 1 ? 31 * 31 : 31 * 31 * 31 * 31;
                due(before * steps + debts[kind], x.trace());
            }
        });
        edge(52, "an int that wraps", () -> {
            PedlarBook x = bare();
            int wrapped = 0;
            boolean below = false;
            for (int time = 0; time < 100; time++) {
                x.tell(0, 0);
                wrapped = 31 * wrapped + 1;
                below |= wrapped < 0;
                due(wrapped, x.trace());
                x.show(2);
                wrapped = 31 * wrapped + 5;
                due(wrapped, x.trace());
            }
            due(1, below ? 1 : 0);
        });
        edge(52, "refused calls, and those without bodies, leave none", () -> {
            PedlarBook x = land();
            int before = x.trace();
            x.tell(2, 0);
            x.tell(0, 3);
            x.tell(1, 3);
            x.show(3);
            x.taken(0, 2, 2);
            x.taken(0, 0, 2);
            x.entries(0, 1, 0, 0, 2);
            due(before, x.trace());
        });
    }

    private static void fault() {
        edge(53, "0 ahead of any", () -> due(0, new PedlarBook().fault()));
        edge(53, "1 NULL, 2 CAST, 3 INDEX, 4 SIZE: it answers -10 less it", () -> {
            PedlarBook x = land();
            due(-11, x.put(3, 0, 0));
            due(1, x.fault());
            due(-12, x.round(0, 0, 0, 1));
            due(2, x.fault());
            due(-13, x.put(0, 4, 0));
            due(3, x.fault());
            due(-14, x.sheet(0, 0, -1));
            due(4, x.fault());
            due(4, x.fault());
        });
        List<ToLongFunction<PedlarBook>> good = List.of(x -> x.entries(0, 1, 0, 0, 0), x -> x.text(0, 0, 0, 2, 1, 0, 5),
                x -> x.round(0, 2, 0, 1), x -> x.sheet(3, 0, 0), x -> x.put(0, 0, 0), x -> x.cell(0, 0, 2),
                x -> x.copy(0, 0, 0, 0, 0), x -> x.taken(0, 0, 0));
        edge(53, "0: the latest call that names one came to none", () -> {
            for (ToLongFunction<PedlarBook> call : good) {
                PedlarBook x = land();
                due(2, x.fault());
                due(1, call.applyAsLong(x) >= 0 ? 1 : 0);
                due(0, x.fault());
            }
        });
        List<ToLongFunction<PedlarBook>> refusedOnes = List.of(x -> x.entries(3, 1, 0, 0, 0),
                x -> x.text(0, 0, 0, 4, 1, 0, 5), x -> x.round(0, 3, 0, 1), x -> x.sheet(0, 0, 61), x -> x.put(4, 0, 0),
                x -> x.cell(4, 0, 2), x -> x.copy(0, 0, 4, 0, 0), x -> x.taken(2, 0, 0));
        edge(53, "0: the latest call that names one was refused", () -> {
            for (ToLongFunction<PedlarBook> call : refusedOnes) {
                PedlarBook x = land();
                due(1, call.applyAsLong(x) < 0 ? 1 : 0);
                due(0, x.fault());
            }
        });
        edge(53, "0: it was refused behind its FAULTS: by a row, by the FIRST FAULT, by n, by a PLACE, as FULL", () -> {
            PedlarBook x = land();
            x.put(1, 0, 9);
            x.taken(0, 0, 2);
            due(OUTSIDE, x.entries(0, 1, 0, 0, 1));
            due(0, x.fault());
            x.taken(0, 0, 2);
            due(-100, x.text(0, 0, 0, 2, 1, 5, 0));
            due(0, x.fault());
            x.taken(0, 0, 2);
            due(OUTSIDE, x.round(0, 2, 0, 0));
            due(0, x.fault());
            x.put(0, 0, 3);
            x.taken(0, 0, 2);
            due(UNKNOWN, x.round(0, 2, 0, 1));
            due(0, x.fault());
            for (int r = 2; r < 10; r++) due(r, x.round(0, 2, 1, 1));
            x.taken(0, 0, 2);
            due(FULL, x.round(0, 2, 1, 1));
            due(0, x.fault());
        });
        edge(53, "calls that name none leave it", () -> {
            PedlarBook x = land();
            for (ToLongFunction<PedlarBook> call : callsWithoutFaults()) {
                call.applyAsLong(x);
                due(2, x.fault());
            }
        });
    }

    private static List<ToLongFunction<PedlarBook>> callsWithoutFaults() {
        return List.of(x -> x.place(0), x -> x.band(0, 0), x -> x.house(0), x -> x.walk(0, 0, 99, 99),
                x -> x.day(0, 0), x -> x.meet(0, 1, 0), x -> x.pack(0, 0, 0), x -> x.entry(0, 0, 0, 1, 1, 99),
                x -> x.told(0, 0), x -> x.held(0, 0, 0), x -> x.known(0, 0), x -> x.as(0, 0, 0, 0),
                x -> x.knows(0, 0), x -> x.force(0, 0, 0), x -> x.bar(0, 0, 0), x -> x.why(0, 0, 0, 0),
                x -> x.quarrel(0, 0, 0, 0), x -> x.licence(0, 0, 0, 0), x -> x.unallowed(0),
                x -> x.door(0, 0, 0, 1, 0), x -> x.due(0, 0), x -> x.paid(0, 1, 20), x -> x.dead(0, 20),
                x -> x.send(0, 1, 0), x -> x.credit(0, 0), x -> x.share(0, 0, 0, 0), x -> x.owe(0, 1, 0),
                x -> x.owes(0, 1), x -> x.ring(), x -> x.party(0, 0, 0), x -> x.pays(0, 1), x -> x.ruin(),
                x -> x.right(0, 0, 0, 0, 0), x -> x.holder(0, 0), x -> x.two(0), x -> x.walked(0, 0, 0, 0),
                x -> x.offer(0, 0, 0, 0, 0), x -> x.best(0), x -> x.judge(0), x -> x.tell(0, 0), x -> x.show(0),
                x -> x.trace(), x -> x.fault(), x -> x.many(0), x -> x.lose(0), x -> x.lose(0), x -> x.lose(4),
                x -> x.place(6), x -> x.credit(0, -1), x -> x.tell(0, 99), x -> x.show(99));
    }

    private static void many() {
        refused(54, "OUTSIDE: below 0", OUTSIDE, x -> x.many(-1));
        refused(54, "OUTSIDE: above 9", OUTSIDE, x -> x.many(10));
        refused(54, "OUTSIDE: the least number", OUTSIDE, x -> x.many(MIN));
        refused(54, "OUTSIDE: the greatest number", OUTSIDE, x -> x.many(MAX));
        edge(54, "none of a new object", () -> {
            for (int what = 0; what < 10; what++) due(0, new PedlarBook().many(what));
        });
        edge(54, "0 PLACES, 1 BANDS, 2 HOUSES, 3 STAYS, 4 PACKS, 5 ENTRIES, 6 TEXTS, 7 DEBTS, 8 ROUNDS, 9 OFFERS", () -> {
            PedlarBook x = land();
            x.house(0);
            x.house(0);
            x.place(0);
            x.place(0);
            for (int k = 0; k < 3; k++) x.pack(0, 0, 0);
            for (int k = 0; k < 5; k++) x.walk(2, 0, 100 + k, 100 + k);
            for (int k = 0; k < 7; k++) x.door(0, 0, 0, 1, 0);
            for (int k = 0; k < 5; k++) x.offer(0, 0, 0, 0, 0);
            for (int k = 0; k < 6; k++) x.round(0, 2, 0, 1);
            int[] counts = {5, 3, 4, 9, 6, 5, 2, 10, 8, 7};
            for (int what = 0; what < 10; what++) due(counts[what], x.many(what));
        });
        edge(54, "full: as many as there may be ever, and no more for what is refused", () -> {
            PedlarBook x = bare();
            write(x, 0, 0, 0, 0, 1, 0);
            write(x, 1, 0, 's', '1');
            for (int k = 0; k < 17; k++) x.place(0);
            for (int k = 0; k < 7; k++) x.band(0, 0);
            for (int k = 0; k < 5; k++) x.house(0);
            for (int k = 0; k < 41; k++) x.walk(0, 0, k, k);
            for (int k = 0; k < 13; k++) x.pack(0, 0, 0);
            for (int k = 0; k < 61; k++) x.entries(0, 0, 0, 0, 1);
            for (int k = 0; k < 11; k++) x.text(0, 0, 0, 1, 0, 0, 2);
            for (int k = 0; k < 21; k++) x.door(0, 0, 0, 1, 0);
            for (int k = 0; k < 11; k++) x.round(0, 0, 0, 1);
            for (int k = 0; k < 10; k++) x.offer(0, 0, 0, 0, 0);
            int[] counts = {16, 6, 4, 40, 12, 60, 10, 20, 10, 9};
            for (int what = 0; what < 10; what++) due(counts[what], x.many(what));
        });
    }
}
