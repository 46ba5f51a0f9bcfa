import java.util.function.Supplier;

/** Boundary cases of promises 1 to 12: places, bands, houses, stays, packs, entries. */
public final class PacksEdgesTest extends Edges {
    public static void main(String[] args) {
        newObject();
        place();
        band();
        house();
        walk();
        day();
        meet();
        pack();
        entry();
        entryState();
        entriesRefused();
        entriesFaults();
        entriesRows();
        told();
        held();
        end(1, 12);
    }

    private static void newObject() {
        edge(1, "No BANDS", () -> {
            PedlarBook x = new PedlarBook();
            x.place(0);
            due(0, x.many(1));
            due(UNKNOWN, x.walk(0, 0, 0, 0));
            due(UNKNOWN, x.day(0, 0));
        });
        edge(1, "No HOUSES", () -> {
            PedlarBook x = new PedlarBook();
            x.band(0, 0);
            due(0, x.many(2));
            due(UNKNOWN, x.pack(0, 0, 0));
        });
        edge(1, "No PLACES", () -> {
            PedlarBook x = new PedlarBook();
            x.band(0, 0);
            due(0, x.many(0));
            due(UNKNOWN, x.walk(0, 0, 0, 0));
        });
        edge(1, "No TEXTS", () -> {
            PedlarBook x = new PedlarBook();
            due(0, x.many(6));
            for (int letter = 0; letter < 5; letter++) {
                due(NONE, x.why(letter, 7, 5, 9999));
                due(0, x.quarrel(letter, 0, 0, 0));
            }
        });
        edge(1, "No SHEETS: 0 .. 3 have nothing (at first)", () -> {
            PedlarBook x = new PedlarBook();
            for (int k = 0; k < 4; k++) {
                due(NULL, x.put(k, 0, 0));
                due(0, x.lose(k));
            }
        });
        edge(1, "nothing is OWED", () -> {
            PedlarBook x = new PedlarBook();
            for (int at = 0; at < 100; at++) due(0, x.owes(at / 10, at % 10));
            due(0, x.ring());
            due(0, x.ruin());
        });
        edge(1, "no PACKS, ENTRIES, STAYS, DEBTS, ROUNDS, OFFERS either", () -> {
            PedlarBook x = new PedlarBook();
            for (int what = 0; what < 10; what++) due(0, x.many(what));
            due(UNKNOWN, x.told(0, 0));
            due(UNKNOWN, x.due(0, 0));
            due(UNKNOWN, x.held(0, 0, 0));
            due(UNKNOWN, x.two(0));
            due(OUTSIDE, x.judge(1));
        });
        edge(1, "a new object: another one's calls do not reach it", () -> {
            PedlarBook x = new PedlarBook();
            land();
            for (int what = 0; what < 10; what++) due(0, x.many(what));
            due(0, x.owes(0, 1));
            due(0, x.trace());
            due(0, x.fault());
            due(4, x.force(0, 0, 0));
            for (int k = 0; k < 4; k++) due(0, x.lose(k));
        });
    }

    private static PedlarBook allPlaces() {
        PedlarBook x = land();
        for (int k = x.many(0); k < 16; k++) x.place(0);
        return x;
    }

    private static void place() {
        edge(2, "A PLACE: its number, in LANDS 0 .. 5", () -> {
            PedlarBook x = new PedlarBook();
            for (int land = 0; land <= 5; land++) due(land, x.place(land));
            due(6, x.many(0));
        });
        refused(2, "OUTSIDE: a LAND below 0", OUTSIDE, x -> x.place(-1));
        refused(2, "OUTSIDE: a LAND far below 0", OUTSIDE, x -> x.place(MIN));
        refused(2, "OUTSIDE: a LAND above 5", OUTSIDE, x -> x.place(6));
        refused(2, "OUTSIDE: a LAND far above 5", OUTSIDE, x -> x.place(MAX));
        edge(2, "PLACES, 16 ever, numbered as they come", () -> {
            PedlarBook x = new PedlarBook();
            for (int k = 0; k < 16; k++) due(k, x.place(5));
            due(16, x.many(0));
            x.band(0, 0);
            due(1, x.walk(0, 15, 0, 0));
            due(UNKNOWN, x.walk(0, 16, 1, 1));
        });
        refused(2, "FULL", FULL, PacksEdgesTest::allPlaces, x -> x.place(5));
        refused(2, "OUTSIDE comes ahead of FULL", OUTSIDE, PacksEdgesTest::allPlaces, x -> x.place(6));
        edge(2, "a refused PLACE takes no number", () -> {
            PedlarBook x = new PedlarBook();
            due(OUTSIDE, x.place(6));
            due(0, x.place(0));
            due(OUTSIDE, x.place(-1));
            due(1, x.place(0));
        });
    }

    private static PedlarBook allBands() {
        PedlarBook x = land();
        for (int k = x.many(1); k < 6; k++) x.band(1, 1);
        return x;
    }

    private static void band() {
        refused(3, "OUTSIDE: MEN below 0", OUTSIDE, x -> x.band(-1, 0));
        refused(3, "OUTSIDE: MEN above 9", OUTSIDE, x -> x.band(10, 0));
        refused(3, "OUTSIDE: BOYS below 0", OUTSIDE, x -> x.band(0, -1));
        refused(3, "OUTSIDE: BOYS above 9", OUTSIDE, x -> x.band(0, 10));
        refused(3, "OUTSIDE: the least and the greatest numbers", OUTSIDE, x -> x.band(MIN, MAX));
        edge(3, "MEN 0 .. 9, BOYS 0 .. 9", () -> {
            PedlarBook x = new PedlarBook();
            due(0, x.band(0, 0));
            due(1, x.band(9, 0));
            due(2, x.band(0, 9));
            due(3, x.band(9, 9));
        });
        edge(3, "BANDS, 6 ever", () -> {
            PedlarBook x = new PedlarBook();
            x.place(0);
            for (int k = 0; k < 6; k++) due(k, x.band(k, 9 - k));
            due(6, x.many(1));
            due(NONE, x.day(5, 0));
            due(UNKNOWN, x.day(6, 0));
        });
        refused(3, "FULL", FULL, PacksEdgesTest::allBands, x -> x.band(0, 0));
        refused(3, "OUTSIDE (MEN) comes ahead of FULL", OUTSIDE, PacksEdgesTest::allBands, x -> x.band(10, 0));
        refused(3, "OUTSIDE (BOYS) comes ahead of FULL", OUTSIDE, PacksEdgesTest::allBands, x -> x.band(0, -1));
    }

    private static PedlarBook allHouses() {
        PedlarBook x = land();
        for (int k = x.many(2); k < 4; k++) x.house(1);
        return x;
    }

    private static void house() {
        refused(4, "OUTSIDE: a TRUST below 0", OUTSIDE, x -> x.house(-1));
        refused(4, "OUTSIDE: a TRUST far below 0", OUTSIDE, x -> x.house(MIN));
        refused(4, "OUTSIDE: a TRUST above 1000000", OUTSIDE, x -> x.house(1000001));
        refused(4, "OUTSIDE: a TRUST far above 1000000", OUTSIDE, x -> x.house(MAX));
        edge(4, "TRUST 0 .. 1000000; HOUSES, 4 ever", () -> {
            PedlarBook x = new PedlarBook();
            x.band(0, 0);
            due(0, x.house(0));
            due(1, x.house(1000000));
            due(2, x.house(1));
            due(3, x.house(999999));
            due(4, x.many(2));
            due(UNKNOWN, x.pack(0, 0, 4));
            due(0, x.pack(0, 0, 3));
        });
        refused(4, "FULL", FULL, PacksEdgesTest::allHouses, x -> x.house(0));
        refused(4, "OUTSIDE comes ahead of FULL", OUTSIDE, PacksEdgesTest::allHouses, x -> x.house(1000001));
    }

    private static PedlarBook allStays() {
        PedlarBook x = land();
        for (int k = x.many(3); k < 40; k++) x.walk(2, 2, 100 + k, 100 + k);
        return x;
    }

    private static void walk() {
        refused(5, "UNKNOWN: BAND below 0", UNKNOWN, x -> x.walk(-1, 0, 50, 60));
        refused(5, "UNKNOWN: BAND that is not there", UNKNOWN, x -> x.walk(3, 0, 50, 60));
        refused(5, "UNKNOWN: PLACE below 0", UNKNOWN, x -> x.walk(0, -1, 50, 60));
        refused(5, "UNKNOWN: PLACE that is not there", UNKNOWN, x -> x.walk(0, 3, 50, 60));
        refused(5, "OUTSIDE: from below 0", OUTSIDE, x -> x.walk(0, 0, -1, 5));
        refused(5, "OUTSIDE: to above 9999", OUTSIDE, x -> x.walk(0, 0, 50, 10000));
        refused(5, "OUTSIDE: both above 9999", OUTSIDE, x -> x.walk(0, 0, 10000, 10000));
        refused(5, "OUTSIDE: both below 0", OUTSIDE, x -> x.walk(0, 0, -2, -1));
        refused(5, "OUTSIDE: to is ahead of from, too", OUTSIDE, x -> x.walk(0, 0, 51, 50));
        refused(5, "STATE: it shares its last DAY with another one's first", STATE, x -> x.walk(0, 2, 5, 10));
        refused(5, "STATE: it shares its first DAY with another one's last", STATE, x -> x.walk(0, 2, 20, 22));
        refused(5, "STATE: it lies in another one", STATE, x -> x.walk(0, 1, 12, 13));
        refused(5, "STATE: another one lies in it", STATE, x -> x.walk(0, 2, 0, 9999));
        refused(5, "STATE: it has all DAYS of another one", STATE, x -> x.walk(0, 1, 35, 36));
        edge(5, "only of that BAND: another one's STAY may share its DAYS", () -> {
            PedlarBook x = bare();
            due(1, x.walk(0, 1, 10, 20));
            due(2, x.walk(1, 1, 10, 20));
            due(3, x.walk(2, 0, 15, 15));
        });
        edge(5, "STAYS that only lie side by side share no DAY", () -> {
            PedlarBook x = land();
            due(5, x.walk(0, 2, 9, 9));
            due(6, x.walk(0, 2, 21, 34));
            due(7, x.walk(0, 2, 37, 9999));
            due(8, x.walk(0, 2, 0, 8));
        });
        edge(5, "DAYS are 0 .. 9999", () -> {
            PedlarBook x = bare();
            due(1, x.walk(0, 2, 0, 9999));
            due(2, x.walk(1, 2, 0, 0));
            due(3, x.walk(1, 2, 9999, 9999));
            due(2, x.day(0, 0));
            due(2, x.day(0, 9999));
        });
        edge(5, "STAYS, 40 ever: how many there are", () -> {
            PedlarBook x = bare();
            for (int k = 1; k <= 40; k++) due(k, x.walk(k % 3, k % 3, k, k));
            due(40, x.many(3));
            due(1, x.day(1, 40));
        });
        refused(5, "FULL", FULL, PacksEdgesTest::allStays, x -> x.walk(1, 0, 9999, 9999));
        refused(5, "UNKNOWN (BAND) comes ahead of OUTSIDE", UNKNOWN, x -> x.walk(3, 0, -1, 5));
        refused(5, "UNKNOWN (PLACE) comes ahead of OUTSIDE", UNKNOWN, x -> x.walk(0, 3, 5, 4));
        refused(5, "OUTSIDE comes ahead of STATE", OUTSIDE, x -> x.walk(0, 1, 12, 11));
        refused(5, "STATE comes ahead of FULL", STATE, PacksEdgesTest::allStays, x -> x.walk(2, 0, 139, 150));
        refused(5, "OUTSIDE comes ahead of FULL", OUTSIDE, PacksEdgesTest::allStays, x -> x.walk(2, 0, 5, 4));
    }

    private static void day() {
        refused(6, "UNKNOWN: below 0 (THE VILLAGE is no BAND here)", UNKNOWN, x -> x.day(-1, 0));
        refused(6, "UNKNOWN: not there", UNKNOWN, x -> x.day(3, 0));
        refused(6, "OUTSIDE: below 0", OUTSIDE, x -> x.day(0, -1));
        refused(6, "OUTSIDE: above 9999", OUTSIDE, x -> x.day(0, 10000));
        refused(6, "UNKNOWN comes ahead of OUTSIDE", UNKNOWN, x -> x.day(3, 10000));
        edge(6, "NONE: a BAND without STAYS", () -> {
            due(NONE, bare().day(0, 0));
            due(NONE, bare().day(0, 9999));
        });
        edge(6, "from a DAY to a DAY: the first and the last are of it, the ones beside are not", () -> {
            PedlarBook x = land();
            due(NONE, x.day(0, 9));
            due(1, x.day(0, 10));
            due(1, x.day(0, 20));
            due(NONE, x.day(0, 21));
            due(NONE, x.day(0, 34));
            due(0, x.day(0, 35));
            due(0, x.day(0, 36));
            due(NONE, x.day(0, 37));
        });
        edge(6, "of a BAND: another one's STAY is none of its own", () -> {
            PedlarBook x = land();
            due(NONE, x.day(1, 14));
            due(NONE, x.day(2, 15));
        });
    }

    private static void meet() {
        refused(7, "UNKNOWN: the first", UNKNOWN, x -> x.meet(3, 0, 0));
        refused(7, "UNKNOWN: the other", UNKNOWN, x -> x.meet(0, -1, 0));
        refused(7, "OUTSIDE: day below 0", OUTSIDE, x -> x.meet(0, 1, -1));
        refused(7, "OUTSIDE: day above 9999", OUTSIDE, x -> x.meet(0, 1, 10000));
        refused(7, "OUTSIDE: both are one", OUTSIDE, x -> x.meet(0, 0, 10));
        refused(7, "UNKNOWN comes ahead of OUTSIDE: both are one that is not there", UNKNOWN, x -> x.meet(3, 3, 0));
        refused(7, "UNKNOWN comes ahead of OUTSIDE: day", UNKNOWN, x -> x.meet(0, 3, -1));
        edge(7, "not ahead of one: that DAY itself, and the last one", () -> {
            PedlarBook x = land();
            due(15, x.meet(0, 1, 0));
            due(15, x.meet(0, 1, 15));
            due(16, x.meet(1, 0, 16));
            due(20, x.meet(0, 1, 20));
            due(NONE, x.meet(0, 1, 21));
        });
        edge(7, "NONE: at unlike PLACES on one DAY, or at one PLACE on unlike DAYS", () -> {
            PedlarBook x = bare();
            x.walk(0, 1, 10, 20);
            x.walk(1, 2, 10, 20);
            x.walk(2, 1, 21, 30);
            due(NONE, x.meet(0, 1, 0));
            due(NONE, x.meet(0, 2, 0));
            due(NONE, bare().meet(0, 1, 0));
        });
        edge(7, "the first, whatever the order in which STAYS came", () -> {
            PedlarBook x = bare();
            x.walk(0, 1, 50, 60);
            x.walk(0, 2, 30, 40);
            x.walk(1, 1, 55, 56);
            x.walk(1, 2, 40, 41);
            x.walk(1, 2, 33, 34);
            due(33, x.meet(0, 1, 0));
            due(40, x.meet(0, 1, 35));
            due(55, x.meet(1, 0, 41));
        });
        edge(7, "by the last of 40 STAYS", () -> {
            PedlarBook x = bare();
            for (int k = 0; k < 38; k++) x.walk(2, 1, k, k);
            x.walk(0, 1, 40, 50);
            due(NONE, x.meet(0, 1, 0));
            x.walk(1, 1, 50, 60);
            due(50, x.meet(0, 1, 0));
            due(50, x.meet(1, 0, 0));
            due(NONE, x.meet(0, 2, 0));
        });
        edge(7, "DAYS 0 and 9999", () -> {
            PedlarBook x = bare();
            x.walk(0, 1, 0, 0);
            x.walk(1, 1, 0, 0);
            x.walk(0, 1, 9999, 9999);
            x.walk(1, 1, 9990, 9999);
            due(0, x.meet(0, 1, 0));
            due(9999, x.meet(0, 1, 1));
            due(9999, x.meet(0, 1, 9999));
        });
    }

    private static PedlarBook allPacks() {
        PedlarBook x = land();
        for (int k = x.many(4); k < 12; k++) x.pack(0, 0, 0);
        return x;
    }

    private static void pack() {
        refused(8, "UNKNOWN: BAND below 0", UNKNOWN, x -> x.pack(0, -1, 0));
        refused(8, "UNKNOWN: BAND that is not there", UNKNOWN, x -> x.pack(0, 3, 0));
        refused(8, "UNKNOWN: HOUSE below 0", UNKNOWN, x -> x.pack(0, 0, -1));
        refused(8, "UNKNOWN: HOUSE that is not there", UNKNOWN, x -> x.pack(0, 0, 2));
        refused(8, "OUTSIDE: kind below 0", OUTSIDE, x -> x.pack(-1, 0, 0));
        refused(8, "OUTSIDE: kind above 2", OUTSIDE, x -> x.pack(3, 0, 0));
        edge(8, "kinds 0, 1, 2; PACKS, 12 ever, numbered as they come", () -> {
            PedlarBook x = new PedlarBook();
            x.band(0, 0);
            x.house(0);
            for (int k = 0; k < 12; k++) due(k, x.pack(k % 3, 0, 0));
            due(12, x.many(4));
            due(0, x.entry(11, 0, 0, 1, 0, 0));
            due(UNKNOWN, x.entry(12, 0, 0, 1, 0, 0));
        });
        refused(8, "FULL", FULL, PacksEdgesTest::allPacks, x -> x.pack(0, 0, 0));
        refused(8, "UNKNOWN (BAND) comes ahead of OUTSIDE", UNKNOWN, x -> x.pack(3, 3, 0));
        refused(8, "UNKNOWN (HOUSE) comes ahead of OUTSIDE", UNKNOWN, x -> x.pack(3, 0, 2));
        refused(8, "OUTSIDE comes ahead of FULL", OUTSIDE, PacksEdgesTest::allPacks, x -> x.pack(3, 0, 0));
        refused(8, "UNKNOWN comes ahead of FULL", UNKNOWN, PacksEdgesTest::allPacks, x -> x.pack(0, 3, 0));
    }

    private static PedlarBook allEntries() {
        PedlarBook x = land();
        for (int k = x.many(5); k < 60; k++) x.entry(1, 1, 0, 1, 1, 50);
        return x;
    }

    private static PedlarBook allEntriesButOne() {
        PedlarBook x = land();
        for (int k = x.many(5); k < 59; k++) x.entry(1, 1, 0, 1, 1, 50);
        return x;
    }

    private static void entry() {
        refused(9, "UNKNOWN: PACK below 0", UNKNOWN, x -> x.entry(-1, 0, 0, 1, 1, 50));
        refused(9, "UNKNOWN: PACK that is not there", UNKNOWN, x -> x.entry(3, 0, 0, 1, 1, 50));
        refused(9, "OUTSIDE: kind below 0", OUTSIDE, x -> x.entry(0, -1, 1, 1, 1, 50));
        refused(9, "OUTSIDE: kind above 4", OUTSIDE, x -> x.entry(0, 5, 1, 1, 1, 50));
        refused(9, "OUTSIDE: good below 0", OUTSIDE, x -> x.entry(0, 0, -1, 1, 1, 50));
        refused(9, "OUTSIDE: good above 7", OUTSIDE, x -> x.entry(0, 0, 8, 1, 1, 50));
        refused(9, "OUTSIDE: many below 1", OUTSIDE, x -> x.entry(0, 0, 1, 0, 1, 50));
        refused(9, "OUTSIDE: many below 0", OUTSIDE, x -> x.entry(0, 2, 1, -1, 1, 50));
        refused(9, "OUTSIDE: many far below 0", OUTSIDE, x -> x.entry(0, 2, 1, MIN, 1, 50));
        refused(9, "OUTSIDE: many above 99", OUTSIDE, x -> x.entry(0, 0, 1, 100, 1, 50));
        for (int k = 0; k <= 2; k++) {
            int kind = k;
            refused(9, "OUTSIDE: coin below 0 of kind " + k, OUTSIDE, x -> x.entry(0, kind, 1, 1, -1, 50));
            refused(9, "OUTSIDE: coin above 999 of kind " + k, OUTSIDE, x -> x.entry(0, kind, 1, 1, 1000, 50));
        }
        refused(9, "OUTSIDE: day below 0", OUTSIDE, x -> x.entry(0, 0, 1, 1, 1, -1));
        refused(9, "OUTSIDE: day above 9999", OUTSIDE, x -> x.entry(0, 0, 1, 1, 1, 10000));
        refused(9, "OUTSIDE: day of a kind whose COIN is not looked at", OUTSIDE,
                x -> x.entry(0, 3, 1, 1, 1, 10000));
        edge(9, "kinds 0 .. 4; so many (1 .. 99), of so much COIN (0 .. 999), GOODS 0 .. 7, DAYS 0 .. 9999", () -> {
            PedlarBook x = bare();
            due(0, x.entry(0, 0, 0, 1, 0, 0));
            due(1, x.entry(0, 1, 7, 99, 999, 0));
            due(2, x.entry(0, 2, 7, 97, 999, 9999));
            due(3, x.entry(0, 3, 7, 1, 0, 9999));
            due(4, x.entry(0, 4, 7, 1, 0, 9999));
            due(5, x.entry(0, 0, 7, 99, 0, 9999));
            due(6, x.entry(0, 2, 7, 99, 0, 9999));
        });
        edge(9, "COIN is not looked at for these two (LOST, HOME): 0", () -> {
            PedlarBook x = bare();
            int[] coins = {MIN, -1, 0, 500, 1000, MAX};
            x.entry(0, 0, 1, 99, 1, 0);
            for (int k = 0; k < coins.length; k++) {
                due(1 + 2 * k, x.entry(0, 3, 1, 1, coins[k], 1));
                due(2 + 2 * k, x.entry(0, 4, 1, 1, coins[k], 1));
                due(0, x.told(1 + 2 * k, 4));
                due(0, x.told(2 + 2 * k, 4));
            }
        });
        edge(9, "ENTRIES, 60 ever, numbered as they come, of all PACKS together", () -> {
            PedlarBook x = bare();
            for (int e = 0; e < 60; e++) due(e, x.entry(e % 3, 0, 7, 99, 999, e));
            due(60, x.many(5));
            due(99 * 20, x.held(2, 7, 9999));
            due(59, x.told(59, 5));
        });
    }

    private static void entryState() {
        refused(9, "STATE: the DAY is ahead of the PACK's latest ENTRY", STATE, x -> x.entry(0, 0, 1, 1, 1, 11));
        refused(9, "STATE: that DAY, of a kind that takes from HELD", STATE, x -> x.entry(0, 4, 1, 1, 1, 0));
        edge(9, "in the order of their DAYS (like ones may be)", () -> {
            PedlarBook x = land();
            due(5, x.entry(0, 0, 1, 1, 1, 12));
            due(6, x.entry(0, 2, 1, 1, 1, 12));
            due(7, x.entry(0, 0, 1, 1, 1, 13));
            due(STATE, x.entry(0, 0, 1, 1, 1, 12));
        });
        edge(9, "those of a PACK: another one's ENTRIES may be behind", () -> {
            PedlarBook x = bare();
            due(0, x.entry(0, 0, 1, 1, 1, 9999));
            due(1, x.entry(1, 0, 1, 1, 1, 0));
            due(STATE, x.entry(0, 0, 1, 1, 1, 9998));
            due(2, x.entry(0, 0, 1, 1, 1, 9999));
        });
        refused(9, "STATE: HELD would be below 0 by SOLD", STATE, x -> x.entry(0, 2, 1, 7, 1, 50));
        refused(9, "STATE: HELD would be below 0 by LOST", STATE, x -> x.entry(0, 3, 1, 7, 1, 50));
        refused(9, "STATE: HELD would be below 0 by HOME", STATE, x -> x.entry(0, 4, 1, 7, 1, 50));
        refused(9, "STATE: nothing is HELD of that GOOD", STATE, x -> x.entry(0, 2, 2, 1, 1, 50));
        refused(9, "STATE: what another PACK has is not HELD", STATE, x -> x.entry(2, 2, 1, 1, 1, 50));
        edge(9, "HELD may become 0, by each kind that takes from it", () -> {
            for (int kind = 2; kind <= 4; kind++) {
                PedlarBook x = land();
                due(5, x.entry(0, kind, 1, 6, 1, 12));
                due(0, x.held(0, 1, 9999));
                due(STATE, x.entry(0, kind, 1, 1, 1, 12));
            }
        });
        edge(9, "HELD: both TAKEN and BOUGHT are in it", () -> {
            PedlarBook x = bare();
            x.entry(0, 0, 1, 2, 1, 0);
            x.entry(0, 1, 1, 3, 1, 0);
            due(STATE, x.entry(0, 2, 1, 6, 1, 0));
            due(2, x.entry(0, 2, 1, 5, 1, 0));
        });
        refused(9, "FULL", FULL, PacksEdgesTest::allEntries, x -> x.entry(0, 0, 1, 1, 1, 50));
        refused(9, "UNKNOWN comes ahead of OUTSIDE", UNKNOWN, x -> x.entry(3, 5, 8, 0, -1, -1));
        refused(9, "OUTSIDE comes ahead of STATE: the DAY", OUTSIDE, x -> x.entry(0, 0, 1, 100, 1, 11));
        refused(9, "OUTSIDE comes ahead of STATE: HELD", OUTSIDE, x -> x.entry(0, 2, 2, 1, 1000, 50));
        refused(9, "OUTSIDE (day) comes ahead of STATE: HELD", OUTSIDE, x -> x.entry(0, 2, 2, 1, 1, 10000));
        refused(9, "STATE (the DAY) comes ahead of FULL", STATE, PacksEdgesTest::allEntries,
                x -> x.entry(0, 0, 1, 1, 1, 11));
        refused(9, "STATE (HELD) comes ahead of FULL", STATE, PacksEdgesTest::allEntries,
                x -> x.entry(0, 2, 1, 7, 1, 50));
        refused(9, "OUTSIDE comes ahead of FULL", OUTSIDE, PacksEdgesTest::allEntries,
                x -> x.entry(0, 0, 8, 1, 1, 50));
        refused(9, "UNKNOWN comes ahead of FULL", UNKNOWN, PacksEdgesTest::allEntries,
                x -> x.entry(3, 0, 1, 1, 1, 50));
    }

    private static void entriesRefused() {
        refused(10, "UNKNOWN: PACK below 0", UNKNOWN, x -> x.entries(-1, 1, 0, 0, 1));
        refused(10, "UNKNOWN: PACK that is not there", UNKNOWN, x -> x.entries(3, 1, 0, 0, 1));
        refused(10, "UNKNOWN: SHEET below 0", UNKNOWN, x -> x.entries(0, -1, 0, 0, 1));
        refused(10, "UNKNOWN: SHEET above 3", UNKNOWN, x -> x.entries(0, 4, 0, 0, 1));
        refused(10, "OUTSIDE: lane below 0", OUTSIDE, x -> x.entries(0, 1, -1, 0, 1));
        refused(10, "OUTSIDE: lane above 2", OUTSIDE, x -> x.entries(0, 1, 3, 0, 1));
        refused(10, "UNKNOWN (PACK) comes ahead of OUTSIDE", UNKNOWN, x -> x.entries(3, 1, 3, 0, 1));
        refused(10, "UNKNOWN (SHEET) comes ahead of OUTSIDE", UNKNOWN, x -> x.entries(0, 4, 3, 0, 1));
        refused(10, "UNKNOWN comes ahead of NULL", UNKNOWN, x -> x.entries(3, 3, 0, 0, 1));
        refused(10, "OUTSIDE: lane comes ahead of NULL", OUTSIDE, x -> x.entries(0, 3, 3, 0, 1));
        refused(10, "OUTSIDE: lane comes ahead of SIZE", OUTSIDE, x -> x.entries(0, 1, 3, 0, -1));
    }

    private static PedlarBook withEmptyRow() {
        PedlarBook x = land();
        x.sheet(1, 0, 0);
        return x;
    }

    private static PedlarBook withLostRow() {
        PedlarBook x = land();
        x.lose(1);
        return x;
    }

    private static void entriesFaults() {
        refused(10, "CAST: bytes taken as shorts", CAST, x -> x.entries(0, 1, 1, 0, 1));
        refused(10, "CAST: bytes taken as ints", CAST, x -> x.entries(0, 1, 2, 0, 1));
        refused(10, "CAST: ints taken as bytes", CAST, x -> x.entries(0, 0, 0, 0, 1));
        refused(10, "CAST, though no row is taken", CAST, x -> x.entries(0, 1, 2, 0, 0));
        refused(10, "CAST: an empty row, too", CAST, PacksEdgesTest::withEmptyRow, x -> x.entries(0, 1, 2, 0, 0));
        refused(10, "NULL", NULL, x -> x.entries(0, 3, 0, 0, 1));
        refused(10, "NULL, though no row is taken", NULL, x -> x.entries(0, 3, 0, 0, 0));
        refused(10, "nothing is no CAST: what a SHEET has lost has no LANE", NULL, PacksEdgesTest::withLostRow,
                x -> x.entries(0, 1, 2, 0, 1));
        refused(10, "SIZE: n below 0", SIZE, x -> x.entries(0, 1, 0, 0, -1));
        refused(10, "SIZE: n far below 0", SIZE, x -> x.entries(0, 1, 0, 0, MIN));
        refused(10, "SIZE: n whose four times wraps to 0", SIZE, x -> x.entries(0, 1, 0, 0, -1 << 30));
        refused(10, "INDEX: i below 0", INDEX, x -> x.entries(0, 1, 0, -1, 1));
        refused(10, "INDEX: one cell beyond", INDEX, x -> x.entries(0, 1, 0, 5, 1));
        refused(10, "INDEX: a row beyond", INDEX, x -> x.entries(0, 1, 0, 0, 3));
        refused(10, "INDEX: n whose four times wraps to 0", INDEX, x -> x.entries(0, 1, 0, 0, 1 << 30));
        refused(10, "INDEX: n whose four times wraps to 4", INDEX, x -> x.entries(0, 1, 0, 0, (1 << 30) + 1));
        refused(10, "INDEX: the greatest i and n", INDEX, x -> x.entries(0, 1, 0, MAX, MAX));
        refused(10, "INDEX: the least i", INDEX, x -> x.entries(0, 1, 0, MIN, MAX));
        refused(10, "INDEX: i is not 0 .. how many there are, if none is taken: below", INDEX,
                x -> x.entries(0, 1, 0, -1, 0));
        refused(10, "INDEX: i is not 0 .. how many there are, if none is taken: beyond", INDEX,
                x -> x.entries(0, 1, 0, 9, 0));
        refused(10, "INDEX: of an empty row", INDEX, PacksEdgesTest::withEmptyRow, x -> x.entries(0, 1, 0, 1, 0));
        refused(10, "CAST comes ahead of SIZE", CAST, x -> x.entries(0, 1, 2, 0, -1));
        refused(10, "CAST comes ahead of INDEX", CAST, x -> x.entries(0, 1, 2, 9, 1));
        refused(10, "NULL comes ahead of SIZE", NULL, x -> x.entries(0, 3, 0, 0, -1));
        refused(10, "NULL comes ahead of INDEX", NULL, x -> x.entries(0, 3, 0, -1, 1));
        refused(10, "SIZE comes ahead of INDEX", SIZE, x -> x.entries(0, 1, 0, -1, -1));
        refused(10, "INDEX comes ahead of a row that is not as told", INDEX, rows(0, 9, 9, 9, 9, 0, 0, 0),
                x -> x.entries(0, 1, 0, 0, 2));
    }

    /** The land with a row of a LANE in SHEET 1. */
    private static Supplier<PedlarBook> rows(int lane, int... cells) {
        return () -> {
            PedlarBook x = land();
            write(x, 1, lane, cells);
            return x;
        };
    }

    private static Supplier<PedlarBook> rowsOfFull(Supplier<PedlarBook> full, int... cells) {
        return () -> {
            PedlarBook x = full.get();
            write(x, 1, 2, cells);
            return x;
        };
    }

    private static void entriesRows() {
        refused(10, "as entry(): OUTSIDE, kind above", OUTSIDE, rows(1, 5, 1, 1, 50), x -> x.entries(0, 1, 1, 0, 1));
        refused(10, "as entry(): OUTSIDE, kind below", OUTSIDE, rows(0, -1, 1, 1, 50), x -> x.entries(0, 1, 0, 0, 1));
        refused(10, "as entry(): OUTSIDE, good above", OUTSIDE, rows(2, 0, 8, 1, 50), x -> x.entries(0, 1, 2, 0, 1));
        refused(10, "as entry(): OUTSIDE, good below", OUTSIDE, rows(2, 0, -1, 1, 50), x -> x.entries(0, 1, 2, 0, 1));
        refused(10, "as entry(): OUTSIDE, many below", OUTSIDE, rows(2, 0, 1, 0, 50), x -> x.entries(0, 1, 2, 0, 1));
        refused(10, "as entry(): OUTSIDE, many above", OUTSIDE, rows(2, 0, 1, 100, 50),
                x -> x.entries(0, 1, 2, 0, 1));
        refused(10, "as entry(): OUTSIDE, day below", OUTSIDE, rows(2, 0, 1, 1, -1), x -> x.entries(0, 1, 2, 0, 1));
        refused(10, "as entry(): OUTSIDE, day above", OUTSIDE, rows(2, 0, 1, 1, 10000),
                x -> x.entries(0, 1, 2, 0, 1));
        refused(10, "as entry(): STATE, the DAY", STATE, rows(2, 0, 1, 1, 11), x -> x.entries(0, 1, 2, 0, 1));
        refused(10, "as entry(): STATE, the DAY of the row ahead", STATE, rows(2, 0, 1, 1, 50, 0, 1, 1, 49),
                x -> x.entries(0, 1, 2, 0, 2));
        refused(10, "as entry(): STATE, HELD", STATE, rows(2, 2, 1, 7, 50), x -> x.entries(0, 1, 2, 0, 1));
        refused(10, "as entry(): STATE, HELD by the rows ahead", STATE, rows(2, 0, 1, 1, 50, 2, 1, 8, 50),
                x -> x.entries(0, 1, 2, 0, 2));
        refused(10, "as entry(): FULL", FULL, rowsOfFull(PacksEdgesTest::allEntries, 0, 1, 1, 50),
                x -> x.entries(0, 1, 2, 0, 1));
        refused(10, "as entry(): FULL, by the rows ahead; then none comes", FULL,
                rowsOfFull(PacksEdgesTest::allEntriesButOne, 0, 1, 1, 50, 0, 1, 1, 50), x -> x.entries(0, 1, 2, 0, 2));
        refused(10, "of the first for which it would be so: STATE, then OUTSIDE", STATE,
                rows(2, 0, 1, 1, 50, 2, 2, 1, 50, 9, 9, 9, 9), x -> x.entries(0, 1, 2, 0, 3));
        refused(10, "of the first for which it would be so: OUTSIDE, then STATE", OUTSIDE,
                rows(2, 0, 1, 1, 50, 9, 9, 9, 9, 2, 2, 1, 50), x -> x.entries(0, 1, 2, 0, 3));
        refused(10, "of the first for which it would be so: FULL, then OUTSIDE", FULL,
                rowsOfFull(PacksEdgesTest::allEntries, 0, 1, 1, 50, 9, 9, 9, 9), x -> x.entries(0, 1, 2, 0, 2));
        refused(10, "then none comes: the last of many rows", OUTSIDE,
                rows(2, 0, 1, 1, 50, 1, 2, 3, 50, 2, 1, 7, 51, 0, 8, 1, 52), x -> x.entries(0, 1, 2, 0, 4));
        edge(10, "how many there are of it then; none are taken: as many as there were", () -> {
            PedlarBook x = land();
            due(2, x.entries(0, 1, 0, 0, 0));
            due(1, x.entries(1, 1, 0, 8, 0));
            due(0, x.fault());
            due(5, x.many(5));
        });
        edge(10, "none of an empty row", () -> {
            PedlarBook x = withEmptyRow();
            due(2, x.entries(2, 1, 0, 0, 0));
            due(0, x.fault());
        });
        edge(10, "n rows of four cells from i on, up to the last cell", () -> {
            PedlarBook x = land();
            due(3, x.entries(0, 1, 0, 4, 1));
            due(2, x.told(5, 1));
            due(40, x.told(5, 5));
            due(5, x.held(0, 1, 40));
            due(5, x.entries(0, 1, 0, 0, 2));
            due(8, x.many(5));
        });
        edge(10, "COIN 1 each; of LOST and HOME 0", () -> {
            PedlarBook x = bare();
            write(x, 0, 1, 0, 7, 99, 9999, 1, 7, 99, 9999, 2, 7, 99, 9999, 3, 7, 98, 9999, 4, 7, 1, 9999);
            due(5, x.entries(2, 0, 1, 0, 5));
            int[] coins = {1, 1, 1, 0, 0};
            for (int e = 0; e < 5; e++) due(coins[e], x.told(e, 4));
            due(0, x.held(2, 7, 9999));
        });
        edge(10, "60 cells, 15 rows, at once; and up to the last ENTRY that may be", () -> {
            PedlarBook x = bare();
            x.sheet(0, 2, 60);
            for (int row = 0; row < 15; row++) x.put(0, 4 * row + 2, 1 + row);
            for (int time = 1; time <= 4; time++) due(15 * time, x.entries(1, 0, 2, 0, 15));
            due(60, x.many(5));
            due(FULL, x.entries(1, 0, 2, 0, 1));
            due(60, x.entries(1, 0, 2, 0, 0));
            due(4 * 120, x.held(1, 0, 0));
        });
    }

    private static void told() {
        refused(11, "UNKNOWN: below 0", UNKNOWN, x -> x.told(-1, 0));
        refused(11, "UNKNOWN: not there", UNKNOWN, x -> x.told(5, 0));
        refused(11, "UNKNOWN: beyond all ENTRIES that there may be", UNKNOWN, x -> x.told(60, 0));
        refused(11, "OUTSIDE: what below 0", OUTSIDE, x -> x.told(0, -1));
        refused(11, "OUTSIDE: what above 5", OUTSIDE, x -> x.told(0, 6));
        refused(11, "UNKNOWN comes ahead of OUTSIDE", UNKNOWN, x -> x.told(5, 6));
        edge(11, "0 PACK, 1 kind, 2 GOOD, 3 how many, 4 COIN, 5 DAY", () -> {
            int[] second = {0, 2, 1, 4, 9, 12};
            int[] last = {2, 3, 3, 1, 0, 31};
            PedlarBook x = land();
            for (int what = 0; what < 6; what++) {
                due(second[what], x.told(1, what));
                due(last[what], x.told(4, what));
            }
        });
    }

    private static void held() {
        refused(12, "UNKNOWN: below 0", UNKNOWN, x -> x.held(-1, 0, 0));
        refused(12, "UNKNOWN: not there", UNKNOWN, x -> x.held(3, 0, 0));
        refused(12, "OUTSIDE: good below 0", OUTSIDE, x -> x.held(0, -1, 0));
        refused(12, "OUTSIDE: good above 7", OUTSIDE, x -> x.held(0, 8, 0));
        refused(12, "OUTSIDE: d below 0", OUTSIDE, x -> x.held(0, 1, -1));
        refused(12, "OUTSIDE: d above 9999", OUTSIDE, x -> x.held(0, 1, 10000));
        refused(12, "UNKNOWN comes ahead of OUTSIDE", UNKNOWN, x -> x.held(3, 8, -1));
        edge(12, "by all ENTRIES of DAY d or ahead: of d itself, not of one behind", () -> {
            PedlarBook x = land();
            due(0, x.held(0, 1, 9));
            due(10, x.held(0, 1, 10));
            due(10, x.held(0, 1, 11));
            due(6, x.held(0, 1, 12));
            due(6, x.held(0, 1, 9999));
        });
        edge(12, "HELD of a PACK without ENTRIES, of a GOOD without any: 0", () -> {
            due(0, bare().held(2, 7, 9999));
            due(0, land().held(0, 2, 9999));
            due(0, land().held(1, 1, 9999));
        });
        edge(12, "on DAYS 0 and 9999", () -> {
            PedlarBook x = bare();
            x.entry(0, 0, 0, 99, 0, 0);
            x.entry(0, 4, 0, 99, 0, 9999);
            due(99, x.held(0, 0, 0));
            due(99, x.held(0, 0, 9998));
            due(0, x.held(0, 0, 9999));
        });
        edge(12, "TAKEN and BOUGHT, less SOLD, LOST, HOME", () -> {
            PedlarBook x = bare();
            x.entry(0, 0, 5, 50, 0, 0);
            x.entry(0, 1, 5, 40, 0, 1);
            x.entry(0, 2, 5, 20, 0, 2);
            x.entry(0, 3, 5, 7, 0, 3);
            x.entry(0, 4, 5, 3, 0, 4);
            int[] helds = {50, 90, 70, 63, 60};
            for (int d = 0; d < 5; d++) due(helds[d], x.held(0, 5, d));
        });
    }
}
