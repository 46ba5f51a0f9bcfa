import java.util.function.Supplier;

/** Boundary cases of promises 36 to 43: rounds, rights, walks, offers, the best plan. */
public final class RoundsEdgesTest extends Edges {
    public static void main(String[] args) {
        roundRefused();
        roundFaults();
        roundPlaces();
        right();
        holder();
        two();
        walkedRefused();
        walkedInDays();
        walkedPlaces();
        offer();
        best();
        judge();
        end(36, 43);
    }

    private static PedlarBook allRounds() {
        PedlarBook x = land();
        for (int k = x.many(8); k < 10; k++) x.round(0, 2, 0, 1);
        return x;
    }

    /** The land with these cells in SHEET 1. */
    private static Supplier<PedlarBook> cells(int lane, int... cells) {
        return () -> {
            PedlarBook x = land();
            write(x, 1, lane, cells);
            return x;
        };
    }

    private static void roundRefused() {
        refused(36, "UNKNOWN: SHEET below 0", UNKNOWN, x -> x.round(-1, 2, 0, 1));
        refused(36, "UNKNOWN: SHEET above 3", UNKNOWN, x -> x.round(4, 2, 0, 1));
        refused(36, "OUTSIDE: lane below 0", OUTSIDE, x -> x.round(0, -1, 0, 1));
        refused(36, "OUTSIDE: lane above 2", OUTSIDE, x -> x.round(0, 3, 0, 1));
        refused(36, "OUTSIDE: n is below 1", OUTSIDE, x -> x.round(0, 2, 0, 0));
        refused(36, "OUTSIDE: n is below 1, at the row's end", OUTSIDE, x -> x.round(0, 2, 4, 0));
        refused(36, "OUTSIDE: n is above 8", OUTSIDE, cells(0, 0, 0, 0, 0, 0, 0, 0, 0, 0),
                x -> x.round(1, 0, 0, 9));
        refused(36, "UNKNOWN: a PLACE below 0", UNKNOWN, cells(0, -1), x -> x.round(1, 0, 0, 1));
        refused(36, "UNKNOWN: a PLACE that is not there", UNKNOWN, cells(0, 3), x -> x.round(1, 0, 0, 1));
        refused(36, "UNKNOWN: the last PLACE of eight", UNKNOWN, cells(1, 0, 1, 2, 0, 1, 2, 0, 3),
                x -> x.round(1, 1, 0, 8));
        refused(36, "UNKNOWN: PLACES far from all numbers", UNKNOWN, cells(2, 0, MAX), x -> x.round(1, 2, 0, 2));
        refused(36, "UNKNOWN: a PLACE that is the least number", UNKNOWN, cells(2, MIN), x -> x.round(1, 2, 0, 1));
        refused(36, "FULL", FULL, RoundsEdgesTest::allRounds, x -> x.round(0, 2, 0, 1));
        refused(36, "UNKNOWN: SHEET comes ahead of OUTSIDE: lane", UNKNOWN, x -> x.round(4, 3, 0, 1));
        refused(36, "OUTSIDE: lane comes ahead of NULL", OUTSIDE, x -> x.round(3, 3, 0, 1));
        refused(36, "OUTSIDE: lane comes ahead of SIZE", OUTSIDE, x -> x.round(0, 3, 0, -1));
        refused(36, "INDEX comes ahead of OUTSIDE: n", INDEX, x -> x.round(0, 2, 0, 9));
        refused(36, "INDEX comes ahead of OUTSIDE: n, if none is taken", INDEX, x -> x.round(0, 2, 5, 0));
        refused(36, "OUTSIDE: n comes ahead of UNKNOWN: a PLACE", OUTSIDE, cells(0, 9, 9, 9, 9, 9, 9, 9, 9, 9),
                x -> x.round(1, 0, 0, 9));
        refused(36, "INDEX comes ahead of UNKNOWN: a PLACE", INDEX, cells(0, 9), x -> x.round(1, 0, 0, 2));
        refused(36, "UNKNOWN: a PLACE comes ahead of FULL", UNKNOWN, () -> {
            PedlarBook x = allRounds();
            x.put(0, 0, 3);
            return x;
        }, x -> x.round(0, 2, 0, 1));
        refused(36, "OUTSIDE: n comes ahead of FULL", OUTSIDE, RoundsEdgesTest::allRounds, x -> x.round(0, 2, 0, 0));
        refused(36, "INDEX comes ahead of FULL", INDEX, RoundsEdgesTest::allRounds, x -> x.round(0, 2, 0, 5));
    }

    private static void roundFaults() {
        refused(36, "CAST: ints taken as bytes", CAST, x -> x.round(0, 0, 0, 1));
        refused(36, "CAST: ints taken as shorts", CAST, x -> x.round(0, 1, 0, 1));
        refused(36, "CAST, though no cell is taken", CAST, x -> x.round(0, 1, 0, 0));
        refused(36, "NULL", NULL, x -> x.round(3, 2, 0, 1));
        refused(36, "NULL, though no cell is taken", NULL, x -> x.round(3, 2, 0, 0));
        refused(36, "nothing is no CAST", NULL, () -> {
            PedlarBook x = land();
            x.lose(0);
            return x;
        }, x -> x.round(0, 0, 0, 1));
        refused(36, "SIZE: below 0", SIZE, x -> x.round(0, 2, 0, -1));
        refused(36, "SIZE: far below 0", SIZE, x -> x.round(0, 2, 0, MIN));
        refused(36, "INDEX: i below 0", INDEX, x -> x.round(0, 2, -1, 1));
        refused(36, "INDEX: one cell beyond", INDEX, x -> x.round(0, 2, 0, 5));
        refused(36, "INDEX: one cell beyond, from the last on", INDEX, x -> x.round(0, 2, 3, 2));
        refused(36, "INDEX: i beyond", INDEX, x -> x.round(0, 2, 4, 1));
        refused(36, "INDEX: the greatest i and n", INDEX, x -> x.round(0, 2, MAX, MAX));
        refused(36, "INDEX: if none of them is taken, too: below", INDEX, x -> x.round(0, 2, -1, 0));
        refused(36, "INDEX: of an empty row", INDEX, cells(0), x -> x.round(1, 0, 0, 1));
        refused(36, "CAST comes ahead of SIZE", CAST, x -> x.round(0, 0, 0, -1));
        refused(36, "CAST comes ahead of INDEX", CAST, x -> x.round(0, 0, 9, 1));
        refused(36, "NULL comes ahead of SIZE", NULL, x -> x.round(3, 2, 0, -1));
        refused(36, "NULL comes ahead of INDEX", NULL, x -> x.round(3, 2, -1, 1));
        refused(36, "SIZE comes ahead of INDEX", SIZE, x -> x.round(0, 2, -1, -1));
    }

    private static void roundPlaces() {
        edge(36, "a row of 1 to 8 PLACES; ROUNDS, 10 ever, numbered as they come", () -> {
            PedlarBook x = bare();
            write(x, 0, 0, 0, 1, 2, 2, 1, 0, 0, 1);
            for (int n = 1; n <= 8; n++) due(n - 1, x.round(0, 0, 8 - n, n));
            due(8, x.round(0, 0, 7, 1));
            due(9, x.round(0, 0, 0, 8));
            due(10, x.many(8));
            due(0, x.fault());
            due(FULL, x.round(0, 0, 0, 8));
        });
        edge(36, "up to the last cell of 60, in each LANE", () -> {
            for (int lane = 0; lane < 3; lane++) {
                PedlarBook x = bare();
                x.sheet(0, lane, 60);
                for (int i = 52; i < 60; i++) x.put(0, i, i % 3);
                due(0, x.round(0, lane, 52, 8));
                due(1, x.round(0, lane, 59, 1));
                due(INDEX, x.round(0, lane, 53, 8));
            }
        });
        edge(36, "the last PLACE of 16", () -> {
            PedlarBook x = new PedlarBook();
            for (int k = 0; k < 16; k++) x.place(0);
            write(x, 0, 2, 15, 16);
            due(0, x.round(0, 2, 0, 1));
            due(UNKNOWN, x.round(0, 2, 0, 2));
            due(0, x.fault());
        });
        edge(36, "a cell that was cut to its LANE is the PLACE that it is", () -> {
            PedlarBook x = bare();
            write(x, 0, 0, 258);
            due(0, x.round(0, 0, 0, 1));
            x.walk(0, 2, 0, 0);
            due(1, x.walked(0, 0, 0, 0));
        });
        edge(36, "what a SHEET has later does not change a ROUND", () -> {
            PedlarBook x = bare();
            write(x, 0, 0, 1);
            x.round(0, 0, 0, 1);
            x.put(0, 0, 2);
            x.lose(0);
            x.walk(0, 2, 0, 0);
            due(0, x.walked(0, 0, 0, 9));
            x.walk(0, 1, 1, 1);
            due(1, x.walked(0, 0, 0, 9));
        });
    }

    private static PedlarBook allRights() {
        PedlarBook x = land();
        for (int k = 2; k < 20; k++) x.right(2, 1, 0, k, k);
        return x;
    }

    private static void right() {
        refused(37, "UNKNOWN: BAND below 0", UNKNOWN, x -> x.right(-1, 0, 0, 0, 0));
        refused(37, "UNKNOWN: BAND that is not there", UNKNOWN, x -> x.right(3, 0, 0, 0, 0));
        refused(37, "UNKNOWN: ROUND below 0", UNKNOWN, x -> x.right(0, -1, 0, 0, 0));
        refused(37, "UNKNOWN: ROUND that is not there", UNKNOWN, x -> x.right(0, 2, 0, 0, 0));
        refused(37, "OUTSIDE: how below 0", OUTSIDE, x -> x.right(0, 0, -1, 0, 0));
        refused(37, "OUTSIDE: how above 2", OUTSIDE, x -> x.right(0, 0, 3, 0, 0));
        refused(37, "OUTSIDE: days, from below 0", OUTSIDE, x -> x.right(0, 0, 0, -1, 0));
        refused(37, "OUTSIDE: days, to above 9999", OUTSIDE, x -> x.right(0, 0, 0, 0, 10000));
        refused(37, "OUTSIDE: days, to ahead of from", OUTSIDE, x -> x.right(0, 0, 0, 1, 0));
        refused(37, "UNKNOWN (BAND) comes ahead of OUTSIDE", UNKNOWN, x -> x.right(3, 0, 3, 0, 0));
        refused(37, "UNKNOWN (ROUND) comes ahead of OUTSIDE", UNKNOWN, x -> x.right(0, 2, 0, 1, 0));
        edge(37, "got so: 0 bought, 1 wed, 2 left; RIGHTS, 20 ever: how many there are", () -> {
            PedlarBook x = bare();
            write(x, 0, 0, 0);
            x.round(0, 0, 0, 1);
            for (int k = 1; k <= 20; k++) due(k, x.right(k % 3, 0, k % 3, 0, 9999));
            due(FULL, x.right(0, 0, 0, 0, 9999));
            due(2, x.holder(0, 0));
        });
        refused(37, "FULL", FULL, RoundsEdgesTest::allRights, x -> x.right(2, 0, 0, 0, 9999));
        refused(37, "OUTSIDE comes ahead of FULL", OUTSIDE, RoundsEdgesTest::allRights, x -> x.right(0, 0, 3, 0, 0));
        refused(37, "UNKNOWN comes ahead of FULL", UNKNOWN, RoundsEdgesTest::allRights, x -> x.right(0, 2, 0, 0, 0));
        edge(37, "a RIGHT that did not come (FULL) holds nothing", () -> {
            PedlarBook x = allRights();
            due(FULL, x.right(2, 0, 0, 0, 9999));
            due(NONE, x.holder(0, 0));
            due(1, x.holder(0, 12));
            due(6, x.two(0));
        });
    }

    private static void holder() {
        refused(38, "UNKNOWN: below 0", UNKNOWN, x -> x.holder(-1, 0));
        refused(38, "UNKNOWN: not there", UNKNOWN, x -> x.holder(2, 0));
        refused(38, "OUTSIDE: below 0", OUTSIDE, x -> x.holder(0, -1));
        refused(38, "OUTSIDE: above 9999", OUTSIDE, x -> x.holder(0, 10000));
        refused(38, "UNKNOWN comes ahead of OUTSIDE", UNKNOWN, x -> x.holder(2, -1));
        edge(38, "NONE: no RIGHT at all, or none that DAY, or of another ROUND", () -> {
            PedlarBook x = land();
            due(NONE, x.holder(0, 4));
            due(0, x.holder(0, 5));
            due(1, x.holder(0, 20));
            due(NONE, x.holder(0, 21));
            due(NONE, x.holder(1, 10));
        });
        edge(38, "of several RIGHTS the latest one's", () -> {
            PedlarBook x = land();
            due(0, x.holder(0, 9));
            due(1, x.holder(0, 10));
            due(1, x.holder(0, 15));
            x.right(0, 0, 2, 15, 15);
            due(1, x.holder(0, 14));
            due(0, x.holder(0, 15));
            due(1, x.holder(0, 16));
        });
        edge(38, "DAYS 0 and 9999", () -> {
            PedlarBook x = land();
            x.right(2, 1, 0, 0, 0);
            x.right(1, 1, 0, 9999, 9999);
            due(2, x.holder(1, 0));
            due(NONE, x.holder(1, 1));
            due(NONE, x.holder(1, 9998));
            due(1, x.holder(1, 9999));
        });
    }

    private static void two() {
        refused(39, "UNKNOWN: below 0", UNKNOWN, x -> x.two(-1));
        refused(39, "UNKNOWN: not there", UNKNOWN, x -> x.two(2));
        edge(39, "no RIGHT, or one alone: 0", () -> {
            PedlarBook x = land();
            due(0, x.two(1));
            x.right(0, 1, 0, 0, 9999);
            due(0, x.two(1));
        });
        edge(39, "two RIGHTS of one BAND are not of two BANDS", () -> {
            PedlarBook x = land();
            x.right(0, 1, 0, 0, 9999);
            x.right(0, 1, 1, 0, 9999);
            due(0, x.two(1));
        });
        edge(39, "the first and the last DAY that they share; side by side they share none", () -> {
            PedlarBook x = land();
            due(6, x.two(0));
            x.right(2, 0, 0, 21, 30);
            due(6, x.two(0));
            x.right(2, 0, 0, 20, 20);
            due(7, x.two(0));
        });
        edge(39, "DAYS that three BANDS share count once", () -> {
            PedlarBook x = land();
            x.right(2, 0, 0, 10, 15);
            due(6, x.two(0));
            x.right(2, 0, 0, 5, 9);
            due(11, x.two(0));
            x.right(2, 0, 0, 5, 9);
            due(11, x.two(0));
        });
        edge(39, "to one ROUND: RIGHTS to unlike ROUNDS do not meet", () -> {
            PedlarBook x = land();
            x.right(2, 1, 0, 0, 9999);
            due(6, x.two(0));
            due(0, x.two(1));
        });
        edge(39, "all DAYS 0 .. 9999, and DAYS 0 and 9999 alone", () -> {
            PedlarBook x = land();
            x.right(0, 1, 0, 0, 9999);
            x.right(1, 1, 0, 0, 0);
            due(1, x.two(1));
            x.right(2, 1, 0, 9999, 9999);
            due(2, x.two(1));
            x.right(1, 1, 0, 0, 9999);
            due(10000, x.two(1));
        });
        edge(39, "a DAY between that is not shared, of RIGHTS that came backward", () -> {
            PedlarBook x = land();
            x.right(2, 1, 0, 7, 9);
            x.right(2, 1, 0, 3, 5);
            x.right(2, 1, 0, 0, 1);
            x.right(0, 1, 0, 0, 9999);
            due(2 + 3 + 3, x.two(1));
        });
        edge(39, "20 RIGHTS, each other DAY", () -> {
            PedlarBook x = bare();
            write(x, 0, 0, 0);
            x.round(0, 0, 0, 1);
            x.right(0, 0, 0, 0, 9999);
            for (int k = 1; k < 20; k++) x.right(1, 0, 0, 2 * k, 2 * k);
            due(19, x.two(0));
        });
    }

    private static void walkedRefused() {
        refused(40, "UNKNOWN: BAND below 0", UNKNOWN, x -> x.walked(0, -1, 0, 9999));
        refused(40, "UNKNOWN: BAND that is not there", UNKNOWN, x -> x.walked(0, 3, 0, 9999));
        refused(40, "UNKNOWN: ROUND below 0", UNKNOWN, x -> x.walked(-1, 0, 0, 9999));
        refused(40, "UNKNOWN: ROUND that is not there", UNKNOWN, x -> x.walked(2, 0, 0, 9999));
        refused(40, "OUTSIDE: days, from below 0", OUTSIDE, x -> x.walked(0, 0, -1, 9999));
        refused(40, "OUTSIDE: days, to above 9999", OUTSIDE, x -> x.walked(0, 0, 0, 10000));
        refused(40, "OUTSIDE: days, to ahead of from", OUTSIDE, x -> x.walked(0, 0, 5, 4));
        refused(40, "UNKNOWN (BAND) comes ahead of OUTSIDE", UNKNOWN, x -> x.walked(0, 3, 5, 4));
        refused(40, "UNKNOWN (ROUND) comes ahead of OUTSIDE", UNKNOWN, x -> x.walked(2, 0, 5, 4));
    }

    /** ROUND 0 of these PLACES. */
    private static PedlarBook rounded(int... places) {
        PedlarBook x = bare();
        write(x, 0, 2, places);
        x.round(0, 2, 0, places.length);
        return x;
    }

    private static void walkedInDays() {
        edge(40, "STAYS that lie in these DAYS: wholly, up to the first and the last one", () -> {
            PedlarBook x = rounded(1);
            x.walk(0, 1, 10, 20);
            due(1, x.walked(0, 0, 0, 9999));
            due(1, x.walked(0, 0, 10, 20));
            due(0, x.walked(0, 0, 11, 20));
            due(0, x.walked(0, 0, 10, 19));
            due(0, x.walked(0, 0, 12, 15));
            due(0, x.walked(0, 0, 0, 9));
            due(0, x.walked(0, 0, 21, 9999));
        });
        edge(40, "each of the STAYS, the first and the last of the ROUND", () -> {
            PedlarBook x = rounded(1, 2);
            x.walk(0, 1, 10, 20);
            x.walk(0, 2, 21, 30);
            due(1, x.walked(0, 0, 10, 30));
            due(0, x.walked(0, 0, 11, 30));
            due(0, x.walked(0, 0, 10, 29));
        });
        edge(40, "DAYS 0 and 9999", () -> {
            PedlarBook x = rounded(1, 2);
            x.walk(0, 1, 0, 0);
            x.walk(0, 2, 9999, 9999);
            due(1, x.walked(0, 0, 0, 9999));
            due(0, x.walked(0, 0, 1, 9999));
            due(0, x.walked(0, 0, 0, 9998));
        });
        edge(40, "one DAY alone", () -> {
            PedlarBook x = rounded(2);
            x.walk(0, 2, 7, 7);
            due(1, x.walked(0, 0, 7, 7));
            due(0, x.walked(0, 0, 8, 8));
        });
    }

    private static void walkedPlaces() {
        edge(40, "no STAYS: 0", () -> due(0, rounded(0).walked(0, 0, 0, 9999)));
        edge(40, "STAYS of it: another BAND's are none", () -> {
            PedlarBook x = rounded(1, 2);
            x.walk(0, 1, 10, 20);
            x.walk(1, 2, 21, 30);
            due(0, x.walked(0, 0, 0, 9999));
            due(0, x.walked(0, 1, 0, 9999));
        });
        edge(40, "in the order of their first DAYS, not in that in which they came", () -> {
            PedlarBook x = rounded(1, 2, 0);
            x.walk(0, 0, 30, 30);
            x.walk(0, 2, 20, 20);
            due(0, x.walked(0, 0, 0, 9999));
            x.walk(0, 1, 10, 10);
            due(1, x.walked(0, 0, 0, 9999));
        });
        edge(40, "its PLACES in order: not another order", () -> {
            PedlarBook x = rounded(1, 2);
            x.walk(0, 2, 10, 10);
            x.walk(0, 1, 20, 20);
            due(0, x.walked(0, 0, 0, 9999));
            x.walk(0, 2, 30, 30);
            due(1, x.walked(0, 0, 0, 9999));
        });
        edge(40, "one behind the other or with others between", () -> {
            PedlarBook x = rounded(1, 2);
            x.walk(0, 1, 10, 10);
            x.walk(0, 2, 11, 11);
            due(1, x.walked(0, 0, 0, 9999));
            x = rounded(1, 2);
            x.walk(0, 1, 10, 10);
            x.walk(0, 0, 11, 11);
            x.walk(0, 1, 12, 12);
            x.walk(0, 2, 13, 13);
            due(1, x.walked(0, 0, 0, 9999));
        });
        edge(40, "a PLACE that stands twice needs two STAYS", () -> {
            PedlarBook x = rounded(1, 1);
            x.walk(0, 1, 10, 20);
            due(0, x.walked(0, 0, 0, 9999));
            x.walk(0, 1, 21, 21);
            due(1, x.walked(0, 0, 0, 9999));
        });
        edge(40, "eight PLACES: the last of them, too", () -> {
            PedlarBook x = rounded(0, 1, 2, 1, 0, 2, 2, 1);
            int[] places = {0, 1, 2, 1, 0, 2, 2};
            for (int k = 0; k < 7; k++) x.walk(0, places[k], k, k);
            due(0, x.walked(0, 0, 0, 9999));
            x.walk(0, 1, 7, 7);
            due(1, x.walked(0, 0, 0, 9999));
        });
    }

    private static PedlarBook allOffers() {
        PedlarBook x = land();
        for (int k = x.many(9); k < 9; k++) x.offer(2, 0, 0, 501, 1);
        return x;
    }

    private static void offer() {
        refused(41, "UNKNOWN: BAND below 0", UNKNOWN, x -> x.offer(-1, 0, 0, 0, 0));
        refused(41, "UNKNOWN: BAND that is not there", UNKNOWN, x -> x.offer(3, 0, 0, 0, 0));
        refused(41, "UNKNOWN: HOUSE below 0", UNKNOWN, x -> x.offer(0, -1, 0, 0, 0));
        refused(41, "UNKNOWN: HOUSE that is not there", UNKNOWN, x -> x.offer(0, 2, 0, 0, 0));
        refused(41, "UNKNOWN: ROUND below 0", UNKNOWN, x -> x.offer(0, 0, -1, 0, 0));
        refused(41, "UNKNOWN: ROUND that is not there", UNKNOWN, x -> x.offer(0, 0, 2, 0, 0));
        refused(41, "OUTSIDE: credit below 0", OUTSIDE, x -> x.offer(2, 0, 0, -1, 0));
        refused(41, "OUTSIDE: credit above 999999", OUTSIDE, x -> x.offer(2, 0, 0, 1000000, 0));
        refused(41, "OUTSIDE: gain below -99999", OUTSIDE, x -> x.offer(2, 0, 0, 0, -100000));
        refused(41, "OUTSIDE: gain above 99999", OUTSIDE, x -> x.offer(2, 0, 0, 0, 100000));
        refused(41, "OUTSIDE: the least and the greatest numbers", OUTSIDE, x -> x.offer(2, 0, 0, MIN, MAX));
        refused(41, "UNKNOWN (BAND) comes ahead of OUTSIDE", UNKNOWN, x -> x.offer(3, 0, 0, -1, 0));
        refused(41, "UNKNOWN (HOUSE) comes ahead of OUTSIDE", UNKNOWN, x -> x.offer(0, 2, 0, -1, 0));
        refused(41, "UNKNOWN (ROUND) comes ahead of OUTSIDE", UNKNOWN, x -> x.offer(0, 0, 2, 0, 100000));
        edge(41, "CREDIT wanted (0 .. 999999), GAIN (-99999 .. 99999); OFFERS, 9 ever", () -> {
            PedlarBook x = rounded(0);
            due(0, x.offer(0, 0, 0, 0, -99999));
            due(1, x.offer(0, 0, 0, 999999, 99999));
            for (int k = 2; k < 9; k++) due(k, x.offer(k % 3, k % 2, 0, 1, 0));
            due(9, x.many(9));
            due(FULL, x.offer(0, 0, 0, 0, 0));
        });
        refused(41, "FULL", FULL, RoundsEdgesTest::allOffers, x -> x.offer(0, 0, 0, 0, 99999));
        refused(41, "OUTSIDE comes ahead of FULL", OUTSIDE, RoundsEdgesTest::allOffers,
                x -> x.offer(0, 0, 0, -1, 0));
        refused(41, "UNKNOWN comes ahead of FULL", UNKNOWN, RoundsEdgesTest::allOffers,
                x -> x.offer(0, 0, 2, 0, 0));
    }

    /** Six BANDS, four HOUSES with TRUSTS of 10, ten ROUNDS. */
    private static PedlarBook market() {
        PedlarBook x = new PedlarBook();
        x.place(0);
        for (int k = 0; k < 6; k++) x.band(0, 0);
        for (int k = 0; k < 4; k++) x.house(10);
        write(x, 0, 0, 0);
        for (int k = 0; k < 10; k++) x.round(0, 0, 0, 1);
        return x;
    }

    private static void best() {
        refused(42, "OUTSIDE: below 0", OUTSIDE, x -> x.best(-1));
        refused(42, "OUTSIDE: above 1", OUTSIDE, x -> x.best(2));
        edge(42, "no OFFERS: none of them, 0", () -> {
            due(0, new PedlarBook().best(0));
            due(0, new PedlarBook().best(1));
        });
        edge(42, "one OFFER alone: the first, and the last of nine", () -> {
            PedlarBook x = market();
            x.offer(0, 0, 0, 10, 1);
            due(1, x.best(0));
            due(1, x.best(1));
            for (int k = 1; k < 8; k++) x.offer(0, 0, 0, 0, 0);
            due(1, x.best(0));
            x.offer(0, 0, 0, 0, 2);
            due(256, x.best(0));
            due(2, x.best(1));
        });
        edge(42, "0 at least: there may be none of them", () -> {
            PedlarBook x = market();
            x.offer(0, 0, 0, 0, -1);
            x.offer(1, 0, 1, 0, -99999);
            due(0, x.best(0));
            due(0, x.best(1));
        });
        edge(42, "of several the least as a number: a GAIN of 0 is left out", () -> {
            PedlarBook x = market();
            x.offer(0, 0, 0, 0, 0);
            due(0, x.best(0));
            x.offer(1, 0, 1, 0, 5);
            due(2, x.best(0));
            due(5, x.best(1));
        });
        edge(42, "of several the least as a number: not the fewest, not the first to come", () -> {
            PedlarBook x = market();
            x.offer(0, 0, 0, 0, 3);
            x.offer(1, 0, 1, 0, 4);
            x.offer(0, 0, 1, 0, 7);
            due(3, x.best(0));
            due(7, x.best(1));
            x.offer(0, 0, 1, 0, 8);
            due(8, x.best(0));
            due(8, x.best(1));
        });
        edge(42, "no two of one BAND", () -> {
            PedlarBook x = market();
            x.offer(5, 0, 0, 0, 5);
            x.offer(5, 1, 1, 0, 6);
            due(2, x.best(0));
            due(6, x.best(1));
        });
        edge(42, "no two of one ROUND", () -> {
            PedlarBook x = market();
            x.offer(0, 0, 9, 0, 5);
            x.offer(1, 1, 9, 0, 6);
            due(2, x.best(0));
            due(6, x.best(1));
        });
        edge(42, "no HOUSE's CREDIT together above its TRUST: just as much may be", () -> {
            PedlarBook x = market();
            x.offer(0, 3, 0, 5, 5);
            x.offer(1, 3, 1, 5, 5);
            due(3, x.best(0));
            x.offer(2, 3, 2, 1, 4);
            due(3, x.best(0));
            x.offer(2, 2, 2, 10, 4);
            due(11, x.best(0));
            x.offer(3, 2, 3, 11, 99);
            due(11, x.best(0));
            due(14, x.best(1));
        });
        edge(42, "a TRUST of 0, and one of 1000000", () -> {
            PedlarBook x = bare();
            x.house(0);
            x.house(1000000);
            write(x, 0, 0, 0);
            for (int k = 0; k < 3; k++) x.round(0, 0, 0, 1);
            x.offer(0, 2, 0, 1, 50);
            due(0, x.best(0));
            x.offer(0, 2, 0, 0, 40);
            due(2, x.best(0));
            x.offer(1, 3, 1, 999999, 7);
            x.offer(2, 3, 2, 1, 3);
            due(2 + 4 + 8, x.best(0));
            x.offer(2, 3, 2, 2, 4);
            due(2 + 4 + 8, x.best(0));
            due(50, x.best(1));
        });
        edge(42, "the greatest: six OFFERS of 99999, and the last of nine", () -> {
            PedlarBook x = market();
            for (int k = 0; k < 3; k++) x.offer(k, k, k, 11, 99999);
            for (int k = 3; k < 9; k++) x.offer(k - 3, 0, k, 0, 99999);
            due(504, x.best(0));
            due(6 * 99999, x.best(1));
        });
    }

    private static void judge() {
        refused(43, "OUTSIDE: a bit of none, the next one", OUTSIDE, x -> x.judge(4));
        refused(43, "OUTSIDE: a bit of none, beside some that are", OUTSIDE, x -> x.judge(5));
        refused(43, "OUTSIDE: a bit of none, the tenth", OUTSIDE, RoundsEdgesTest::allOffers, x -> x.judge(512));
        refused(43, "OUTSIDE: a bit of none, the last (the least number)", OUTSIDE, x -> x.judge(MIN));
        refused(43, "OUTSIDE: bits of none, all (-1)", OUTSIDE, x -> x.judge(-1));
        refused(43, "OUTSIDE: bits of none, the greatest number", OUTSIDE, x -> x.judge(MAX));
        edge(43, "no OFFERS: the empty set may be, each bit is one of none", () -> {
            due(1, new PedlarBook().judge(0));
            for (int bit = 0; bit < 32; bit++) due(OUTSIDE, new PedlarBook().judge(1 << bit));
        });
        edge(43, "the empty set may be", () -> due(1, land().judge(0)));
        edge(43, "no two of one BAND, ROUND", () -> {
            PedlarBook x = market();
            x.offer(0, 0, 0, 0, 1);
            x.offer(0, 1, 1, 0, 1);
            x.offer(1, 2, 0, 0, 1);
            x.offer(5, 3, 9, 0, 1);
            due(0, x.judge(3));
            due(0, x.judge(5));
            due(1, x.judge(6));
            due(1, x.judge(14));
            due(0, x.judge(15));
        });
        edge(43, "TRUST: just as much may be, one more may not", () -> {
            PedlarBook x = market();
            x.offer(0, 0, 0, 10, 1);
            x.offer(1, 0, 1, 1, 1);
            x.offer(2, 0, 2, 9, 1);
            x.offer(3, 1, 3, 10, 1);
            x.offer(4, 1, 4, 11, 1);
            due(1, x.judge(1));
            due(0, x.judge(3));
            due(1, x.judge(6));
            due(0, x.judge(7));
            due(1, x.judge(9));
            due(1, x.judge(14));
            due(0, x.judge(16));
            due(1, x.judge(6));
        });
        edge(43, "GAIN does not matter", () -> {
            PedlarBook x = market();
            x.offer(0, 0, 0, 0, -99999);
            due(1, x.judge(1));
        });
        edge(43, "all nine OFFERS: the last bit, and no more than six BANDS", () -> {
            PedlarBook x = market();
            for (int k = 0; k < 9; k++) x.offer(k % 6, k % 4, k, 0, 0);
            due(1, x.judge(63));
            due(1, x.judge(256));
            due(0, x.judge(511));
            due(1, x.judge(64 + 128 + 256 + 8 + 16 + 32));
        });
    }
}
