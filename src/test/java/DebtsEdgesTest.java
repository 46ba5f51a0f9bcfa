/** Boundary cases of promises 21 to 28: licences, debts at doors, deaths, credit. */
public final class DebtsEdgesTest extends Edges {
    private static final int CUSTOM = -1;

    public static void main(String[] args) {
        licence();
        unallowed();
        door();
        due();
        paid();
        dead();
        deadOnDays();
        send();
        credit();
        end(21, 28);
    }

    private static PedlarBook allLicences() {
        PedlarBook x = land();
        for (int k = 1; k < 12; k++) x.licence(1, 0, k, k);
        return x;
    }

    private static void licence() {
        refused(21, "UNKNOWN: BAND below 0", UNKNOWN, x -> x.licence(-1, 0, 0, 0));
        refused(21, "UNKNOWN: BAND that is not there", UNKNOWN, x -> x.licence(3, 0, 0, 0));
        refused(21, "OUTSIDE: land below 0", OUTSIDE, x -> x.licence(0, -1, 0, 0));
        refused(21, "OUTSIDE: land above 5", OUTSIDE, x -> x.licence(0, 6, 0, 0));
        refused(21, "OUTSIDE: days, from below 0", OUTSIDE, x -> x.licence(0, 0, -1, 0));
        refused(21, "OUTSIDE: days, to above 9999", OUTSIDE, x -> x.licence(0, 0, 0, 10000));
        refused(21, "OUTSIDE: days, both above 9999", OUTSIDE, x -> x.licence(0, 0, 10000, 10000));
        refused(21, "OUTSIDE: days, to ahead of from", OUTSIDE, x -> x.licence(0, 0, 1, 0));
        refused(21, "UNKNOWN comes ahead of OUTSIDE: land", UNKNOWN, x -> x.licence(3, 6, 0, 0));
        refused(21, "UNKNOWN comes ahead of OUTSIDE: days", UNKNOWN, x -> x.licence(3, 0, 1, 0));
        edge(21, "LICENCES, 12 ever: how many there are, of all BANDS, like ones, too", () -> {
            PedlarBook x = bare();
            due(1, x.licence(0, 0, 0, 9999));
            due(2, x.licence(0, 0, 0, 9999));
            due(3, x.licence(2, 5, 9999, 9999));
            for (int k = 4; k <= 12; k++) due(k, x.licence(1, 5, 0, 0));
            due(FULL, x.licence(1, 5, 0, 0));
        });
        refused(21, "FULL", FULL, DebtsEdgesTest::allLicences, x -> x.licence(0, 1, 12, 12));
        refused(21, "OUTSIDE comes ahead of FULL", OUTSIDE, DebtsEdgesTest::allLicences, x -> x.licence(0, 6, 0, 0));
        refused(21, "UNKNOWN comes ahead of FULL", UNKNOWN, DebtsEdgesTest::allLicences, x -> x.licence(3, 1, 0, 0));
        edge(21, "a LICENCE that did not come (FULL) allows nothing", () -> {
            PedlarBook x = allLicences();
            due(1, x.unallowed(0));
            due(FULL, x.licence(0, 1, 12, 12));
            due(1, x.unallowed(0));
        });
    }

    /** BAND 0 sells GOOD 1 on each DAY 9 .. 21, and is at PLACE 1, in LAND 1, on DAYS 10 .. 20. */
    private static PedlarBook sales() {
        PedlarBook x = bare();
        x.walk(0, 1, 10, 20);
        x.entry(0, 0, 1, 99, 1, 0);
        for (int day = 9; day <= 21; day++) x.entry(0, 2, 1, 1, 1, day);
        return x;
    }

    private static void unallowed() {
        refused(22, "UNKNOWN: below 0", UNKNOWN, x -> x.unallowed(-1));
        refused(22, "UNKNOWN: not there", UNKNOWN, x -> x.unallowed(3));
        edge(22, "none: a PACK without ENTRIES, and where nothing is told", () -> {
            due(0, bare().unallowed(0));
            due(0, sales().unallowed(0));
        });
        edge(22, "the GOOD is barred: on each DAY of the STAY, the first and the last, too, and on none beside", () -> {
            PedlarBook x = sales();
            text(x, 1, 0, 9999, "b1");
            due(11, x.unallowed(0));
        });
        edge(22, "at a DAY on which its BAND is at no PLACE nothing is UNALLOWED, though CUSTOM bars", () -> {
            PedlarBook x = sales();
            text(x, CUSTOM, 0, 9999, "b1");
            due(11, x.unallowed(0));
            x = bare();
            text(x, CUSTOM, 0, 9999, "b1");
            x.entry(0, 0, 1, 1, 1, 5);
            x.entry(0, 2, 1, 1, 1, 5);
            due(0, x.unallowed(0));
        });
        edge(22, "barred on that DAY: the first and the last one of the TEXT", () -> {
            PedlarBook x = sales();
            text(x, 1, 12, 14, "b1");
            due(3, x.unallowed(0));
        });
        edge(22, "in whose LAND: another LAND's LAW, another GOOD do not matter", () -> {
            PedlarBook x = sales();
            text(x, 0, 0, 9999, "b1");
            text(x, 2, 0, 9999, "b1");
            text(x, 1, 0, 9999, "b0;b2;u7");
            due(0, x.unallowed(0));
        });
        edge(22, "barred unless by licence and the BAND has none there that DAY", () -> {
            PedlarBook x = sales();
            text(x, 1, 0, 9999, "u1");
            due(11, x.unallowed(0));
            x.licence(0, 1, 12, 14);
            due(8, x.unallowed(0));
            x.licence(0, 1, 14, 15);
            due(7, x.unallowed(0));
            x.licence(0, 1, 0, 9999);
            due(0, x.unallowed(0));
        });
        edge(22, "another BAND's licence, or one of another LAND, is none", () -> {
            PedlarBook x = sales();
            text(x, 1, 0, 9999, "u1");
            x.licence(1, 1, 0, 9999);
            x.licence(0, 0, 0, 9999);
            x.licence(0, 2, 0, 9999);
            due(11, x.unallowed(0));
        });
        edge(22, "a licence is of no use where the GOOD is just barred", () -> {
            PedlarBook x = sales();
            text(x, 1, 0, 9999, "b1");
            x.licence(0, 1, 0, 9999);
            due(11, x.unallowed(0));
        });
        edge(22, "an ENTRY of kind SOLD, no other one", () -> {
            PedlarBook x = bare();
            x.walk(0, 0, 0, 9999);
            text(x, 0, 0, 9999, "b1");
            x.entry(0, 0, 1, 9, 1, 5);
            x.entry(0, 1, 1, 9, 1, 5);
            x.entry(0, 3, 1, 9, 1, 5);
            x.entry(0, 4, 1, 8, 1, 5);
            due(0, x.unallowed(0));
            x.entry(0, 2, 1, 1, 1, 5);
            due(1, x.unallowed(0));
        });
        edge(22, "ENTRIES of a PACK: another one's are not its own", () -> {
            PedlarBook x = sales();
            text(x, 1, 0, 9999, "b1");
            due(0, x.unallowed(1));
            due(0, x.unallowed(2));
        });
        edge(22, "DAYS 0 and 9999", () -> {
            PedlarBook x = bare();
            x.walk(0, 1, 0, 0);
            x.walk(0, 1, 9999, 9999);
            text(x, 1, 0, 9999, "u7");
            x.entry(0, 0, 7, 9, 1, 0);
            x.entry(0, 2, 7, 1, 1, 0);
            x.entry(0, 2, 7, 1, 1, 9999);
            due(2, x.unallowed(0));
            x.licence(0, 1, 9999, 9999);
            due(1, x.unallowed(0));
            x.licence(0, 1, 0, 0);
            due(0, x.unallowed(0));
        });
    }

    private static PedlarBook allDebts() {
        PedlarBook x = land();
        for (int k = x.many(7); k < 20; k++) x.door(0, 0, 0, 1, 50);
        return x;
    }

    private static void door() {
        refused(23, "UNKNOWN: PLACE below 0", UNKNOWN, x -> x.door(0, -1, 0, 1, 0));
        refused(23, "UNKNOWN: PLACE that is not there", UNKNOWN, x -> x.door(0, 3, 0, 1, 0));
        refused(23, "UNKNOWN: PACK below 0", UNKNOWN, x -> x.door(0, 0, -1, 1, 0));
        refused(23, "UNKNOWN: PACK that is not there", UNKNOWN, x -> x.door(0, 0, 3, 1, 0));
        refused(23, "OUTSIDE: kind below 0", OUTSIDE, x -> x.door(-1, 0, 0, 1, 0));
        refused(23, "OUTSIDE: kind above 2", OUTSIDE, x -> x.door(3, 0, 0, 1, 0));
        refused(23, "OUTSIDE: coin below 1", OUTSIDE, x -> x.door(0, 0, 0, 0, 0));
        refused(23, "OUTSIDE: coin far below 1", OUTSIDE, x -> x.door(0, 0, 0, MIN, 0));
        refused(23, "OUTSIDE: coin above 9999", OUTSIDE, x -> x.door(0, 0, 0, 10000, 0));
        refused(23, "OUTSIDE: day below 0", OUTSIDE, x -> x.door(0, 0, 0, 1, -1));
        refused(23, "OUTSIDE: day above 9999", OUTSIDE, x -> x.door(0, 0, 0, 1, 10000));
        refused(23, "UNKNOWN (PLACE) comes ahead of OUTSIDE", UNKNOWN, x -> x.door(3, 3, 0, 1, 0));
        refused(23, "UNKNOWN (PACK) comes ahead of OUTSIDE", UNKNOWN, x -> x.door(0, 0, 3, 0, 0));
        edge(23, "kinds 0, 1, 2, COIN 1 .. 9999, DAYS 0 .. 9999; DEBTS, 20 ever, numbered as they come", () -> {
            PedlarBook x = bare();
            due(0, x.door(0, 0, 0, 1, 0));
            due(1, x.door(1, 1, 1, 9999, 9999));
            due(2, x.door(2, 2, 2, 5000, 5000));
            for (int k = 3; k < 20; k++) due(k, x.door(0, 0, 0, k, k));
            due(20, x.many(7));
            due(19, x.due(19, 3));
            due(UNKNOWN, x.due(20, 3));
        });
        refused(23, "FULL", FULL, DebtsEdgesTest::allDebts, x -> x.door(0, 0, 0, 1, 0));
        refused(23, "OUTSIDE comes ahead of FULL", OUTSIDE, DebtsEdgesTest::allDebts, x -> x.door(0, 0, 0, 0, 0));
        refused(23, "UNKNOWN comes ahead of FULL", UNKNOWN, DebtsEdgesTest::allDebts, x -> x.door(0, 3, 0, 1, 0));
    }

    private static void due() {
        refused(24, "UNKNOWN: below 0", UNKNOWN, x -> x.due(-1, 0));
        refused(24, "UNKNOWN: not there", UNKNOWN, x -> x.due(3, 0));
        refused(24, "UNKNOWN: beyond all DEBTS that there may be", UNKNOWN, x -> x.due(20, 0));
        refused(24, "OUTSIDE: below 0", OUTSIDE, x -> x.due(0, -1));
        refused(24, "OUTSIDE: above 7", OUTSIDE, x -> x.due(0, 8));
        refused(24, "UNKNOWN comes ahead of OUTSIDE", UNKNOWN, x -> x.due(3, 8));
        edge(24, "0 kind, 1 PLACE, 2 PACK, 3 COIN, 4 DAY, 5 BARRED, 6 PAID, 7 whose it is", () -> {
            int[] first = {0, 1, 0, 50, 12, 42, 5, 0};
            int[] last = {2, 0, 2, 70, 31, 61, 0, 2};
            PedlarBook x = land();
            for (int what = 0; what < 8; what++) {
                due(first[what], x.due(0, what));
                due(last[what], x.due(2, what));
            }
        });
        edge(24, "5: NONE, where no y is told (never barred)", () -> {
            PedlarBook x = bare();
            x.door(0, 0, 0, 1, 0);
            x.door(0, 0, 0, 1, 9999);
            text(x, CUSTOM, 1, 9998, "y5");
            text(x, 1, 0, 9999, "y5");
            due(NONE, x.due(0, 5));
            due(NONE, x.due(1, 5));
        });
        edge(24, "5: the DAY that is y behind its own (y as told in its LAND on its DAY)", () -> {
            PedlarBook x = bare();
            for (int day = 9; day <= 21; day++) x.door(0, 1, 0, 1, day);
            text(x, CUSTOM, 0, 9999, "y100");
            text(x, 1, 10, 20, "y1");
            due(109, x.due(0, 5));
            due(11, x.due(1, 5));
            due(21, x.due(11, 5));
            due(121, x.due(12, 5));
        });
        edge(24, "5: the last DAY, by the greatest y", () -> {
            PedlarBook x = bare();
            x.door(0, 0, 0, 1, 0);
            text(x, 0, 0, 0, "y9999");
            due(9999, x.due(0, 5));
            due(STATE, x.paid(0, 1, 9999));
            due(0, x.paid(0, 1, 9998));
        });
        edge(24, "5: a DEBT whose y leads behind the last DAY is never BARRED", () -> {
            PedlarBook x = bare();
            x.door(0, 0, 0, 2, 1);
            x.door(0, 0, 0, 2, 9999);
            text(x, CUSTOM, 0, 9999, "y9999");
            due(1, x.paid(0, 1, 9999));
            due(1, x.paid(1, 1, 9999));
        });
        edge(24, "7: PARTY 0 .. 9; 10 and the LAND", () -> {
            PedlarBook x = new PedlarBook();
            x.place(0);
            x.place(5);
            x.place(3);
            for (int k = 0; k < 6; k++) x.band(0, 0);
            for (int k = 0; k < 4; k++) x.house(0);
            x.pack(0, 5, 3);
            x.pack(0, 0, 0);
            text(x, 0, 0, 9999, "h1");
            text(x, 5, 0, 9999, "h2");
            for (int pack = 0; pack < 2; pack++) {
                for (int place = 0; place < 3; place++) x.door(0, place, pack, 1, 0);
            }
            int[] before = {5, 5, 5, 0, 0, 0};
            int[] after = {9, 15, 5, 6, 15, 0};
            for (int k = 0; k < 6; k++) due(before[k], x.due(k, 7));
            due(2, x.dead(5, 0));
            due(2, x.dead(0, 0));
            for (int k = 0; k < 6; k++) due(after[k], x.due(k, 7));
        });
    }

    private static void paid() {
        refused(25, "UNKNOWN: below 0", UNKNOWN, x -> x.paid(-1, 1, 20));
        refused(25, "UNKNOWN: not there", UNKNOWN, x -> x.paid(3, 1, 20));
        refused(25, "OUTSIDE: coin is below 1", OUTSIDE, x -> x.paid(0, 0, 20));
        refused(25, "OUTSIDE: coin is below 0", OUTSIDE, x -> x.paid(0, -1, 20));
        refused(25, "OUTSIDE: coin is far below 1", OUTSIDE, x -> x.paid(0, MIN, 20));
        refused(25, "OUTSIDE: day below 0", OUTSIDE, x -> x.paid(0, 1, -1));
        refused(25, "OUTSIDE: day above 9999", OUTSIDE, x -> x.paid(0, 1, 10000));
        refused(25, "STATE: it is BARRED that DAY: from that DAY on", STATE, x -> x.paid(0, 1, 42));
        refused(25, "STATE: it is BARRED that DAY: long since", STATE, x -> x.paid(0, 1, 9999));
        refused(25, "STATE: that is more than is left", STATE, x -> x.paid(0, 46, 20));
        refused(25, "STATE: that is more than is left, by far", STATE, x -> x.paid(0, MAX, 20));
        refused(25, "STATE: the DAY is ahead of its own", STATE, x -> x.paid(0, 1, 11));
        refused(25, "UNKNOWN comes ahead of OUTSIDE", UNKNOWN, x -> x.paid(3, 0, -1));
        refused(25, "OUTSIDE (coin) comes ahead of STATE", OUTSIDE, x -> x.paid(0, 0, 42));
        refused(25, "OUTSIDE (day) comes ahead of STATE", OUTSIDE, x -> x.paid(0, 46, 10000));
        edge(25, "the last DAY on which it is not BARRED, and its own DAY", () -> {
            PedlarBook x = land();
            due(44, x.paid(0, 1, 41));
            due(43, x.paid(0, 1, 12));
            due(42, x.paid(0, 1, 13));
        });
        edge(25, "PAID in parts: what is left, up to the whole, and then no more", () -> {
            PedlarBook x = land();
            due(1, x.paid(0, 44, 20));
            due(49, x.due(0, 6));
            due(STATE, x.paid(0, 2, 20));
            due(0, x.paid(0, 1, 20));
            due(50, x.due(0, 6));
            due(STATE, x.paid(0, 1, 20));
        });
        edge(25, "the whole at once: COIN 1 and 9999", () -> {
            PedlarBook x = bare();
            x.door(0, 0, 0, 1, 0);
            x.door(0, 0, 0, 9999, 9999);
            due(0, x.paid(0, 1, 0));
            due(0, x.paid(1, 9999, 9999));
        });
        edge(25, "a DEBT without y is paid on the last DAY, too", () -> {
            PedlarBook x = bare();
            x.door(0, 0, 0, 9, 0);
            due(8, x.paid(0, 1, 9999));
        });
    }

    private static void dead() {
        refused(26, "UNKNOWN: below 0", UNKNOWN, x -> x.dead(-1, 20));
        refused(26, "UNKNOWN: not there", UNKNOWN, x -> x.dead(3, 20));
        refused(26, "OUTSIDE: below 0", OUTSIDE, x -> x.dead(0, -1));
        refused(26, "OUTSIDE: above 9999", OUTSIDE, x -> x.dead(0, 10000));
        refused(26, "UNKNOWN comes ahead of OUTSIDE", UNKNOWN, x -> x.dead(3, 10000));
        edge(26, "no DEBTS: 0", () -> due(0, bare().dead(0, 9999)));
        edge(26, "those that are the BAND's: of no other BAND, and of none a second time", () -> {
            PedlarBook x = bare();
            text(x, CUSTOM, 0, 9999, "h1");
            x.door(0, 0, 0, 1, 5);
            x.door(0, 0, 1, 1, 5);
            due(0, x.dead(2, 9));
            due(1, x.dead(0, 9));
            due(6, x.due(0, 7));
            due(1, x.due(1, 7));
            due(0, x.dead(0, 9));
            due(6, x.due(0, 7));
        });
        edge(26, "one that has gone to a HOUSE stays there, though h is another one later", () -> {
            PedlarBook x = bare();
            text(x, CUSTOM, 0, 9, "h1");
            text(x, CUSTOM, 10, 99, "h2");
            x.door(0, 0, 1, 1, 5);
            due(1, x.dead(1, 9));
            due(7, x.due(0, 7));
            due(0, x.dead(1, 10));
            due(7, x.due(0, 7));
        });
        edge(26, "not PAID whole: one with a COIN left goes, one with none stays", () -> {
            PedlarBook x = bare();
            text(x, CUSTOM, 0, 9999, "h1");
            x.door(0, 0, 0, 9, 5);
            x.door(0, 0, 0, 9, 5);
            x.paid(0, 8, 5);
            x.paid(1, 9, 5);
            due(1, x.dead(0, 9));
            due(6, x.due(0, 7));
            due(0, x.due(1, 7));
        });
        edge(26, "0 stay the BAND's: told, or where nothing is told; they do not count", () -> {
            PedlarBook x = bare();
            text(x, 1, 0, 9999, "h0");
            x.door(0, 0, 0, 1, 0);
            x.door(0, 1, 0, 1, 0);
            due(0, x.dead(0, 9999));
            due(0, x.due(0, 7));
            due(0, x.due(1, 7));
        });
        edge(26, "1 are its PACK's HOUSE's; 2 are the LAND's", () -> {
            PedlarBook x = bare();
            text(x, 1, 0, 9999, "h1");
            text(x, 2, 0, 9999, "h2");
            x.pack(0, 0, 1);
            x.door(0, 1, 0, 1, 0);
            x.door(0, 1, 3, 1, 0);
            x.door(0, 2, 0, 1, 0);
            x.door(0, 2, 3, 1, 0);
            due(4, x.dead(0, 0));
            int[] whose = {6, 7, 12, 12};
            for (int k = 0; k < 4; k++) due(whose[k], x.due(k, 7));
        });
        edge(26, "one that has gone can still be PAID", () -> {
            PedlarBook x = bare();
            text(x, 0, 0, 9999, "h2");
            x.door(0, 0, 0, 9, 0);
            due(1, x.dead(0, 0));
            due(4, x.paid(0, 5, 1));
            due(10, x.due(0, 7));
        });
    }

    private static void deadOnDays() {
        edge(26, "of that DAY or ahead", () -> {
            PedlarBook x = bare();
            text(x, CUSTOM, 0, 9999, "h1");
            x.door(0, 0, 0, 1, 19);
            x.door(0, 0, 0, 1, 20);
            x.door(0, 0, 0, 1, 21);
            due(2, x.dead(0, 20));
            due(6, x.due(1, 7));
            due(0, x.due(2, 7));
            due(1, x.dead(0, 21));
        });
        edge(26, "not BARRED then: the last DAY ahead of it, and that DAY", () -> {
            PedlarBook x = bare();
            text(x, CUSTOM, 0, 9999, "h1;y10");
            x.door(0, 0, 0, 1, 10);
            x.door(0, 0, 0, 1, 11);
            due(1, x.dead(0, 20));
            due(0, x.due(0, 7));
            due(6, x.due(1, 7));
            due(1, x.dead(0, 19));
            due(6, x.due(0, 7));
        });
        edge(26, "h as told in their LAND that DAY, not on the DEBT's own", () -> {
            PedlarBook x = bare();
            text(x, 0, 20, 30, "h2");
            x.door(0, 0, 0, 1, 10);
            x.door(0, 1, 0, 1, 25);
            due(0, x.dead(0, 19));
            due(0, x.dead(0, 31));
            due(1, x.dead(0, 30));
            due(10, x.due(0, 7));
            due(0, x.due(1, 7));
            x.door(0, 0, 0, 1, 10);
            due(1, x.dead(0, 20));
        });
        edge(26, "DAYS 0 and 9999", () -> {
            PedlarBook x = bare();
            text(x, CUSTOM, 0, 9999, "h1");
            x.door(0, 0, 0, 1, 0);
            x.door(0, 0, 0, 1, 9999);
            due(1, x.dead(0, 0));
            due(1, x.dead(0, 9999));
        });
        edge(26, "all 20 DEBTS", () -> {
            PedlarBook x = bare();
            text(x, CUSTOM, 0, 9999, "h2");
            for (int k = 0; k < 20; k++) x.door(k % 3, k % 3, 1, 1, k);
            due(20, x.dead(1, 19));
            for (int k = 0; k < 20; k++) due(10 + k % 3, x.due(k, 7));
        });
    }

    private static void send() {
        refused(27, "UNKNOWN: below 0", UNKNOWN, x -> x.send(-1, 1, 0));
        refused(27, "UNKNOWN: not there", UNKNOWN, x -> x.send(3, 1, 0));
        refused(27, "OUTSIDE: COIN below 1", OUTSIDE, x -> x.send(0, 0, 0));
        refused(27, "OUTSIDE: COIN far below 1", OUTSIDE, x -> x.send(0, MIN, 0));
        refused(27, "OUTSIDE: COIN above 99999", OUTSIDE, x -> x.send(0, 100000, 0));
        refused(27, "OUTSIDE: DAY below 0", OUTSIDE, x -> x.send(0, 1, -1));
        refused(27, "OUTSIDE: DAY above 9999", OUTSIDE, x -> x.send(0, 1, 10000));
        refused(27, "UNKNOWN comes ahead of OUTSIDE", UNKNOWN, x -> x.send(3, 0, -1));
        edge(27, "COIN (1 .. 99999): all that was sent for it, whatever the DAYS; for no other PACK", () -> {
            PedlarBook x = bare();
            due(1, x.send(0, 1, 9999));
            due(100000, x.send(0, 99999, 0));
            due(5, x.send(1, 5, 50));
            due(100001, x.send(0, 1, 50));
            due(6, x.send(1, 1, 50));
        });
        edge(27, "as often as an object is called", () -> {
            PedlarBook x = new PedlarBook();
            x.band(0, 0);
            x.house(0);
            x.pack(0, 0, 0);
            for (int n = 1; n <= 509; n++) due(99999 * n, x.send(0, 99999, n));
        });
    }

    private static void credit() {
        lost(28, "LOST: UNKNOWN, below 0", 0, x -> x.credit(-1, 0));
        lost(28, "LOST: UNKNOWN, not there", 0, x -> x.credit(3, 0));
        lost(28, "LOST: OUTSIDE, below 0", 0, x -> x.credit(0, -1));
        lost(28, "LOST: OUTSIDE, above 9999", 0, x -> x.credit(0, 10000));
        edge(28, "a PACK without ENTRIES: 0", () -> due(0, bare().credit(0, 9999)));
        edge(28, "of its ENTRIES that is TAKEN, of that DAY or ahead", () -> {
            PedlarBook x = bare();
            x.entry(0, 0, 1, 10, 10, 5);
            x.entry(0, 1, 1, 10, 10, 5);
            x.entry(0, 2, 1, 10, 10, 5);
            x.entry(0, 3, 1, 5, 10, 5);
            x.entry(0, 4, 1, 5, 10, 5);
            x.entry(0, 0, 1, 1, 7, 6);
            x.entry(1, 0, 1, 1, 9, 5);
            due(0, x.credit(0, 4));
            due(100, x.credit(0, 5));
            due(107, x.credit(0, 6));
            due(107, x.credit(0, 9999));
        });
        edge(28, "times the DAYS since: none on the DAY itself", () -> {
            PedlarBook x = bare();
            text(x, CUSTOM, 0, 9999, "p99");
            x.entry(0, 0, 1, 99, 999, 9);
            due(98901, x.credit(0, 9));
            due(98901 + 979, x.credit(0, 10));
        });
        edge(28, "by 10000: quotients are cut, of each ENTRY for itself", () -> {
            PedlarBook x = bare();
            text(x, CUSTOM, 0, 9999, "p1");
            x.entry(0, 0, 1, 10, 10, 0);
            x.entry(0, 0, 1, 10, 10, 0);
            due(200, x.credit(0, 99));
            due(202, x.credit(0, 100));
            due(202, x.credit(0, 199));
            due(204, x.credit(0, 200));
        });
        edge(28, "p as told by CUSTOM alone: no LAW, not even THE VILLAGE's", () -> {
            PedlarBook x = bare();
            for (int land = 0; land < 6; land++) text(x, land, 0, 9999, "p99");
            x.entry(0, 0, 1, 99, 999, 0);
            due(98901, x.credit(0, 9999));
        });
        edge(28, "p on that ENTRY's DAY, not on the DAY asked for", () -> {
            PedlarBook x = bare();
            text(x, CUSTOM, 10, 20, "p50");
            int[] days = {9, 10, 20, 21};
            for (int day : days) x.entry(0, 0, 1, 10, 10, day);
            // 100 times 50 times 990 and 980, by 10000
            due(400 + 495 + 490, x.credit(0, 1000));
        });
        edge(28, "the greatest: 60 ENTRIES of 99 times 999 for 9999 DAYS at 99", () -> {
            PedlarBook x = bare();
            text(x, CUSTOM, 0, 9999, "p99");
            for (int e = 0; e < 60; e++) x.entry(0, 0, 1, 99, 999, 0);
            due(60 * (98901L + 98901L * 99 * 9999 / 10000), x.credit(0, 9999));
        });
        edge(28, "less what was sent on that DAY or ahead", () -> {
            PedlarBook x = bare();
            x.entry(0, 0, 1, 10, 10, 0);
            x.send(0, 1, 9);
            x.send(0, 2, 10);
            x.send(0, 4, 11);
            x.send(1, 50, 0);
            due(100, x.credit(0, 8));
            due(99, x.credit(0, 9));
            due(97, x.credit(0, 10));
            due(93, x.credit(0, 11));
        });
        edge(28, "0, if it is less", () -> {
            PedlarBook x = bare();
            x.send(1, 99999, 0);
            due(0, x.credit(1, 0));
            x.entry(0, 0, 1, 10, 10, 0);
            x.send(0, 99, 0);
            due(1, x.credit(0, 0));
            x.send(0, 1, 0);
            due(0, x.credit(0, 0));
            x.send(0, 1, 0);
            due(0, x.credit(0, 0));
            x.entry(0, 0, 1, 1, 2, 0);
            due(1, x.credit(0, 0));
        });
    }
}
