/** Boundary cases of promises 29 to 35: shares, what is owed, rings, falls. */
public final class SharesEdgesTest extends Edges {
    private static final int CUSTOM = -1;

    public static void main(String[] args) {
        shareRefused();
        shareYear();
        shareParted();
        owe();
        owes();
        ring();
        ringOrder();
        party();
        pays();
        paysByRank();
        ruin();
        end(29, 35);
    }

    private static void shareRefused() {
        refused(29, "UNKNOWN: below 0", UNKNOWN, x -> x.share(-1, 0, 9999, 0));
        refused(29, "UNKNOWN: not there", UNKNOWN, x -> x.share(3, 0, 9999, 0));
        refused(29, "OUTSIDE: who below 0", OUTSIDE, x -> x.share(0, 0, 9999, -1));
        refused(29, "OUTSIDE: who above 3", OUTSIDE, x -> x.share(0, 0, 9999, 4));
        refused(29, "OUTSIDE: days, from below 0", OUTSIDE, x -> x.share(0, -1, 9999, 0));
        refused(29, "OUTSIDE: days, to above 9999", OUTSIDE, x -> x.share(0, 0, 10000, 0));
        refused(29, "OUTSIDE: days, to ahead of from", OUTSIDE, x -> x.share(0, 1, 0, 0));
        refused(29, "UNKNOWN comes ahead of OUTSIDE: who", UNKNOWN, x -> x.share(3, 0, 9999, 4));
        refused(29, "UNKNOWN comes ahead of OUTSIDE: days", UNKNOWN, x -> x.share(3, 1, 0, 0));
    }

    private static void shareYear() {
        edge(29, "of ENTRIES from a DAY to a DAY: the first and the last, too, and none beside", () -> {
            PedlarBook x = bare();
            x.entry(0, 0, 0, 99, 1, 0);
            for (int day = 9; day <= 21; day++) x.entry(0, 2, 0, 1, 1 << day % 10, day);
            due((1 << 9) + 1 + 2, x.share(0, 9, 11, 0));
            due(1, x.share(0, 10, 10, 0));
            due(1 + 2, x.share(0, 20, 9999, 0));
            due(1 << 9, x.share(0, 0, 9, 0));
            due(0, x.share(0, 22, 9999, 0));
            due(0, x.share(0, 0, 8, 0));
        });
        edge(29, "DAYS 0 and 9999", () -> {
            PedlarBook x = bare();
            x.entry(0, 0, 0, 9, 1, 0);
            x.entry(0, 2, 0, 1, 5, 0);
            x.entry(0, 2, 0, 1, 7, 9999);
            due(5, x.share(0, 0, 0, 0));
            due(7, x.share(0, 9999, 9999, 0));
            due(12, x.share(0, 0, 9999, 0));
            due(7, x.share(0, 1, 9999, 0));
            due(5, x.share(0, 0, 9998, 0));
        });
        edge(29, "of its PACKS: all of them, and no other BAND's", () -> {
            PedlarBook x = bare();
            x.pack(1, 0, 1);
            for (int pack = 0; pack < 4; pack++) {
                x.entry(pack, 0, 0, 9, 1, 0);
                x.entry(pack, 2, 0, 1, 10 + pack, 0);
            }
            due(10 + 13, x.share(0, 0, 9999, 0));
            due(11, x.share(1, 0, 9999, 0));
            due(12, x.share(2, 0, 9999, 0));
        });
        edge(29, "SOLD less BOUGHT, in COIN: TAKEN, LOST, HOME are not in it", () -> {
            PedlarBook x = bare();
            x.entry(0, 0, 0, 99, 999, 0);
            x.entry(0, 1, 0, 3, 7, 0);
            x.entry(0, 2, 0, 5, 11, 0);
            x.entry(0, 3, 0, 2, 999, 0);
            x.entry(0, 4, 0, 2, 999, 0);
            due(55 - 21, x.share(0, 0, 9999, 0));
        });
        edge(29, "0, if it is less: for all of them", () -> {
            PedlarBook x = bare();
            x.entry(0, 1, 0, 10, 10, 0);
            x.entry(0, 2, 0, 9, 11, 0);
            for (int who = 0; who < 4; who++) due(0, x.share(0, 0, 9999, who));
            x.entry(0, 2, 0, 1, 1, 0);
            due(0, x.share(0, 0, 9999, 0));
            x.entry(0, 0, 0, 1, 1, 0);
            x.entry(0, 2, 0, 1, 1, 0);
            due(1, x.share(0, 0, 9999, 0));
        });
        edge(29, "no ENTRIES: 0 for all of them", () -> {
            PedlarBook x = bare();
            for (int who = 0; who < 4; who++) due(0, x.share(2, 0, 9999, who));
        });
    }

    /** A BAND that has sold for so much COIN, on DAY 50. */
    private static PedlarBook sold(int men, int boys, int coin) {
        PedlarBook x = new PedlarBook();
        x.band(men, boys);
        x.house(0);
        x.pack(0, 0, 0);
        x.entry(0, 0, 0, 99, 0, 0);
        x.entry(0, 2, 0, 1, coin, 50);
        return x;
    }

    private static void areShares(PedlarBook x, int all, int master, int man, int boy) {
        due(all, x.share(0, 0, 9999, 0));
        due(master, x.share(0, 0, 9999, 1));
        due(man, x.share(0, 0, 9999, 2));
        due(boy, x.share(0, 0, 9999, 3));
    }

    private static void shareParted() {
        edge(29, "where nothing is told the master has 4 tenths", () -> areShares(sold(1, 1, 100), 100, 40, 40, 20));
        edge(29, "s tenths of it, cut", () -> areShares(sold(1, 1, 99), 99, 39, 40, 20));
        edge(29, "what is over the master has, too", () -> areShares(sold(1, 1, 101), 101, 41, 40, 20));
        edge(29, "twice the rest by the parts, cut; the rest by the parts, cut", () -> {
            // 400 and 599 in 27 parts: 44 and 22, and 5 over
            areShares(sold(9, 9, 999), 999, 405, 44, 22);
            // 2 and 5 in 3 parts: 3 and 1, and 1 over
            areShares(sold(1, 1, 7), 7, 3, 3, 1);
        });
        edge(29, "too little for the parts: the master has all", () -> areShares(sold(9, 9, 10), 10, 10, 0, 0));
        edge(29, "all the rest, if there are none", () -> areShares(sold(0, 0, 999), 999, 999, 0, 0));
        edge(29, "BOYS alone", () -> {
            PedlarBook x = sold(0, 3, 67);
            due(26 + 2, x.share(0, 0, 9999, 1));
            due(13, x.share(0, 0, 9999, 3));
        });
        edge(29, "MEN alone", () -> {
            PedlarBook x = sold(3, 0, 68);
            due(27 + 2, x.share(0, 0, 9999, 1));
            due(13, x.share(0, 0, 9999, 2));
        });
        edge(29, "s is 0: the master has only what is over", () -> {
            PedlarBook x = sold(1, 1, 101);
            text(x, CUSTOM, 0, 9999, "s0");
            areShares(x, 101, 1, 67, 33);
        });
        edge(29, "s is 10: the master has all", () -> {
            PedlarBook x = sold(1, 1, 101);
            text(x, CUSTOM, 0, 9999, "s10");
            areShares(x, 101, 101, 0, 0);
        });
        edge(29, "s as told by CUSTOM: no LAW", () -> {
            PedlarBook x = sold(1, 1, 100);
            for (int land = 0; land < 6; land++) text(x, land, 0, 9999, "s10");
            areShares(x, 100, 40, 40, 20);
        });
        edge(29, "s on the last DAY of them, not on the first or the ENTRY's", () -> {
            PedlarBook x = sold(1, 1, 100);
            text(x, CUSTOM, 0, 59, "s9");
            text(x, CUSTOM, 60, 60, "s7");
            due(91, x.share(0, 0, 59, 1));
            due(70, x.share(0, 0, 60, 1));
            due(40, x.share(0, 0, 61, 1));
            due(40, x.share(0, 50, 9999, 1));
        });
        edge(29, "the greatest YEAR", () -> {
            PedlarBook x = new PedlarBook();
            x.band(9, 9);
            x.house(0);
            x.pack(0, 0, 0);
            for (int k = 0; k < 30; k++) x.entry(0, 0, 0, 99, 0, 0);
            for (int k = 0; k < 30; k++) x.entry(0, 2, 0, 99, 999, 0);
            int all = 30 * 99 * 999;
            text(x, CUSTOM, 0, 9999, "s9");
            int rest = all - all / 10 * 9;
            areShares(x, all, all - 9 * (2 * rest / 27) - 9 * (rest / 27), 2 * rest / 27, rest / 27);
        });
    }

    private static void owe() {
        refused(30, "OUTSIDE: parties, by below 0", OUTSIDE, x -> x.owe(-1, 1, 5));
        refused(30, "OUTSIDE: parties, by above 9", OUTSIDE, x -> x.owe(10, 1, 5));
        refused(30, "OUTSIDE: parties, to below 0", OUTSIDE, x -> x.owe(0, -1, 5));
        refused(30, "OUTSIDE: parties, to above 9", OUTSIDE, x -> x.owe(0, 10, 5));
        refused(30, "OUTSIDE: both are one", OUTSIDE, x -> x.owe(0, 0, 5));
        refused(30, "OUTSIDE: both are one, though v is 0", OUTSIDE, x -> x.owe(9, 9, 0));
        refused(30, "OUTSIDE: v below 0", OUTSIDE, x -> x.owe(0, 1, -1));
        refused(30, "OUTSIDE: v far below 0", OUTSIDE, x -> x.owe(0, 1, MIN));
        refused(30, "OUTSIDE: v above 99999", OUTSIDE, x -> x.owe(0, 1, 100000));
        edge(30, "0 .. 99999 each, 0 at first: what it was", () -> {
            PedlarBook x = new PedlarBook();
            due(0, x.owe(0, 9, 99999));
            due(99999, x.owe(0, 9, 0));
            due(0, x.owe(0, 9, 1));
            due(1, x.owe(0, 9, 1));
            due(0, x.owe(9, 0, 5));
            due(1, x.owes(0, 9));
        });
        edge(30, "PARTIES 0 .. 9 as numbers, there or not: all 90", () -> {
            PedlarBook x = new PedlarBook();
            for (int at = 0; at < 100; at++) due(at % 11 == 0 ? OUTSIDE : 0, x.owe(at / 10, at % 10, 1 + at));
            for (int at = 0; at < 100; at++) due(at % 11 == 0 ? 0 : 1 + at, x.owes(at / 10, at % 10));
        });
        edge(30, "a new debt tells in what is paid at once", () -> {
            PedlarBook x = new PedlarBook();
            due(0, x.ruin());
            x.owe(3, 4, 1);
            due(8, x.ruin());
            x.owe(3, 4, 0);
            due(0, x.ruin());
        });
    }

    private static void owes() {
        refused(31, "OUTSIDE: by below 0", OUTSIDE, x -> x.owes(-1, 0));
        refused(31, "OUTSIDE: by above 9", OUTSIDE, x -> x.owes(10, 0));
        refused(31, "OUTSIDE: to below 0", OUTSIDE, x -> x.owes(0, -1));
        refused(31, "OUTSIDE: to above 9", OUTSIDE, x -> x.owes(0, 10));
        refused(31, "OUTSIDE: both are one that is no PARTY", OUTSIDE, x -> x.owes(10, 10));
        edge(31, "what a PARTY owes another one: not what it is OWED", () -> {
            PedlarBook x = land();
            due(100, x.owes(0, 1));
            due(0, x.owes(1, 0));
            due(50, x.owes(1, 6));
            due(0, x.owes(6, 1));
        });
        edge(31, "a PARTY and itself: 0, before and behind a refused owe", () -> {
            PedlarBook x = land();
            for (int p = 0; p < 10; p++) {
                due(0, x.owes(p, p));
                due(OUTSIDE, x.owe(p, p, 7));
                due(0, x.owes(p, p));
            }
        });
    }

    private static PedlarBook circle(int size, int v) {
        PedlarBook x = new PedlarBook();
        for (int p = 0; p < size; p++) x.owe(p, (p + 1) % size, v);
        return x;
    }

    private static void ring() {
        edge(32, "nothing is OWED, or there is no RING: 0", () -> {
            due(0, new PedlarBook().ring());
            PedlarBook x = land();
            due(0, x.ring());
            due(100, x.owes(0, 1));
            due(50, x.owes(1, 6));
        });
        edge(32, "PARTIES, two to four: not five or more", () -> {
            due(2 * 7, circle(2, 7).ring());
            due(3 * 7, circle(3, 7).ring());
            due(4 * 7, circle(4, 7).ring());
            for (int size = 5; size <= 10; size++) {
                PedlarBook x = circle(size, 7);
                due(0, x.ring());
                for (int p = 0; p < size; p++) due(7, x.owes(p, (p + 1) % size));
            }
        });
        edge(32, "the last the first: a row that does not close is none", () -> {
            PedlarBook x = new PedlarBook();
            for (int p = 0; p < 9; p++) x.owe(p, p + 1, 5);
            due(0, x.ring());
            x.owe(9, 6, 3);
            due(12, x.ring());
            due(2, x.owes(6, 7));
            due(5, x.owes(5, 6));
            due(0, x.owes(9, 6));
        });
        edge(32, "lessened by the least that is OWED in it, wherever that stands", () -> {
            for (int least = 0; least < 4; least++) {
                PedlarBook x = circle(4, 10);
                x.owe(least, (least + 1) % 4, 1);
                due(4, x.ring());
                for (int p = 0; p < 4; p++) due(p == least ? 0 : 9, x.owes(p, (p + 1) % 4));
            }
        });
        edge(32, "as long as there is a RING: then there is none", () -> {
            PedlarBook x = new PedlarBook();
            for (int at = 0; at < 100; at++) x.owe(at / 10, at % 10, 1 + at * 37 % 91);
            int before = 0;
            for (int at = 0; at < 100; at++) before += x.owes(at / 10, at % 10);
            int less = x.ring();
            due(0, x.ring());
            for (int at = 0; at < 100; at++) before -= x.owes(at / 10, at % 10);
            due(before, less);
        });
        edge(32, "the greatest: all owe all 99999", () -> {
            PedlarBook x = new PedlarBook();
            for (int at = 0; at < 100; at++) x.owe(at / 10, at % 10, 99999);
            due(90 * 99999, x.ring());
            for (int at = 0; at < 100; at++) due(0, x.owes(at / 10, at % 10));
        });
        edge(32, "what is OWED less is paid less: pays() and ruin() see it at once", () -> {
            PedlarBook x = circle(2, 7);
            x.owe(1, 0, 9);
            due(7, x.pays(0, 1));
            due(2, x.ruin());
            due(14, x.ring());
            due(0, x.pays(0, 1));
            due(2, x.ruin());
            x.party(1, 0, 2);
            due(0, x.ruin());
            due(2, x.pays(1, 0));
        });
    }

    private static void ringOrder() {
        edge(32, "the first one as a row: the least first PARTY", () -> {
            PedlarBook x = new PedlarBook();
            x.owe(1, 5, 5);
            x.owe(5, 6, 5);
            x.owe(6, 1, 5);
            x.owe(0, 5, 5);
            x.owe(6, 0, 5);
            due(15, x.ring());
            due(0, x.owes(0, 5));
            due(5, x.owes(1, 5));
        });
        edge(32, "the first one as a row: 0 1 2 is ahead of 0 2", () -> {
            PedlarBook x = new PedlarBook();
            x.owe(0, 2, 5);
            x.owe(2, 0, 5);
            x.owe(0, 1, 5);
            x.owe(1, 2, 5);
            due(15, x.ring());
            due(5, x.owes(0, 2));
            due(0, x.owes(0, 1));
            due(0, x.owes(2, 0));
        });
        edge(32, "the first one as a row: of one first PARTY the least second", () -> {
            PedlarBook x = new PedlarBook();
            x.owe(0, 3, 5);
            x.owe(3, 9, 5);
            x.owe(9, 0, 5);
            x.owe(0, 4, 5);
            x.owe(4, 9, 5);
            due(15, x.ring());
            due(0, x.owes(0, 3));
            due(5, x.owes(0, 4));
        });
        edge(32, "the first one as a row: of like beginnings the least last", () -> {
            PedlarBook x = new PedlarBook();
            x.owe(0, 1, 5);
            x.owe(1, 2, 5);
            x.owe(2, 8, 5);
            x.owe(2, 9, 5);
            x.owe(8, 0, 5);
            x.owe(9, 0, 5);
            due(20, x.ring());
            due(0, x.owes(2, 8));
            due(5, x.owes(2, 9));
        });
        edge(32, "a shorter row that is its beginning is ahead: two ahead of three", () -> {
            PedlarBook x = new PedlarBook();
            x.owe(0, 1, 5);
            x.owe(1, 0, 5);
            x.owe(1, 2, 5);
            x.owe(2, 0, 5);
            due(10, x.ring());
            due(5, x.owes(1, 2));
            due(5, x.owes(2, 0));
        });
        edge(32, "a shorter row that is its beginning is ahead: three ahead of four", () -> {
            PedlarBook x = circle(4, 5);
            x.owe(2, 0, 5);
            due(15, x.ring());
            due(5, x.owes(2, 3));
            due(5, x.owes(3, 0));
            due(0, x.owes(2, 0));
        });
        edge(32, "a longer row that is less is ahead of a shorter one that is not its beginning", () -> {
            PedlarBook x = circle(4, 5);
            x.owe(3, 2, 5);
            due(20, x.ring());
            due(5, x.owes(3, 2));
            due(0, x.owes(2, 3));
        });
        edge(32, "the first the least: 1 3 2 is a RING, and is taken as this row", () -> {
            PedlarBook x = new PedlarBook();
            x.owe(1, 3, 5);
            x.owe(3, 2, 5);
            x.owe(2, 1, 5);
            due(15, x.ring());
            x.owe(9, 8, 4);
            x.owe(8, 7, 3);
            x.owe(7, 6, 2);
            x.owe(6, 9, 9);
            due(8, x.ring());
        });
        edge(32, "all unlike: no PARTY stands twice in a RING", () -> {
            PedlarBook x = new PedlarBook();
            x.owe(0, 1, 5);
            x.owe(1, 0, 2);
            x.owe(0, 2, 5);
            x.owe(2, 0, 3);
            due(10, x.ring());
            due(3, x.owes(0, 1));
            due(2, x.owes(0, 2));
        });
        edge(32, "what one RING has left goes into the next ones", () -> {
            PedlarBook x = new PedlarBook();
            x.owe(0, 1, 10);
            x.owe(1, 0, 4);
            x.owe(1, 2, 10);
            x.owe(2, 0, 3);
            x.owe(2, 3, 10);
            x.owe(3, 0, 9);
            due(8 + 9 + 12, x.ring());
            due(0, x.owes(0, 1));
            due(6, x.owes(3, 0));
            due(10 - 3 - 3, x.owes(1, 2));
        });
    }

    private static void party() {
        refused(33, "OUTSIDE: PARTY below 0", OUTSIDE, x -> x.party(-1, 0, 1));
        refused(33, "OUTSIDE: PARTY above 9", OUTSIDE, x -> x.party(10, 0, 1));
        refused(33, "OUTSIDE: what below 0", OUTSIDE, x -> x.party(0, -1, 1));
        refused(33, "OUTSIDE: what above 1", OUTSIDE, x -> x.party(0, 2, 1));
        refused(33, "OUTSIDE: COIN below 0", OUTSIDE, x -> x.party(0, 0, -1));
        refused(33, "OUTSIDE: COIN above 99999", OUTSIDE, x -> x.party(0, 0, 100000));
        refused(33, "OUTSIDE: RANK below 0", OUTSIDE, x -> x.party(1, 1, -1));
        refused(33, "OUTSIDE: RANK above 2", OUTSIDE, x -> x.party(1, 1, 3));
        refused(33, "OUTSIDE: what is COIN of one is no RANK", OUTSIDE, x -> x.party(1, 1, 99999));
        edge(33, "COIN (0 .. 99999), 0 at first; RANK 0, 1, 2, all 1 at first: what it was", () -> {
            PedlarBook x = new PedlarBook();
            for (int p = 0; p < 10; p++) {
                due(0, x.party(p, 0, 99999));
                due(99999, x.party(p, 0, 0));
                due(1, x.party(p, 1, 0));
                due(0, x.party(p, 1, 2));
                due(2, x.party(p, 1, 1));
                due(0, x.party(p, 0, p));
            }
            for (int p = 0; p < 10; p++) due(p, x.party(p, 0, 0));
        });
        edge(33, "a refused COIN or RANK leaves what was", () -> {
            PedlarBook x = land();
            due(OUTSIDE, x.party(0, 0, 100000));
            due(OUTSIDE, x.party(6, 1, 3));
            due(60, x.party(0, 0, 60));
            due(0, x.party(6, 1, 0));
        });
        edge(33, "a new COIN, a new RANK tell in what is paid at once", () -> {
            PedlarBook x = land();
            due(60, x.pays(0, 1));
            x.party(0, 0, 61);
            due(61, x.pays(0, 1));
            x.owe(0, 2, 100);
            due(30, x.pays(0, 1));
            x.party(2, 1, 0);
            due(0, x.pays(0, 1));
            due(61, x.pays(0, 2));
        });
    }

    /** PARTY 0 owes 1, 2, 3 so much, and has so much COIN. */
    private static PedlarBook debtor(int coin, int first, int second, int third) {
        PedlarBook x = new PedlarBook();
        x.owe(0, 1, first);
        x.owe(0, 2, second);
        x.owe(0, 3, third);
        x.party(0, 0, coin);
        return x;
    }

    private static void arePaid(PedlarBook x, int first, int second, int third) {
        due(first, x.pays(0, 1));
        due(second, x.pays(0, 2));
        due(third, x.pays(0, 3));
    }

    private static void pays() {
        refused(34, "OUTSIDE: by below 0", OUTSIDE, x -> x.pays(-1, 0));
        refused(34, "OUTSIDE: by above 9", OUTSIDE, x -> x.pays(10, 0));
        refused(34, "OUTSIDE: to below 0", OUTSIDE, x -> x.pays(0, -1));
        refused(34, "OUTSIDE: to above 9", OUTSIDE, x -> x.pays(0, 10));
        refused(34, "OUTSIDE: both are one that is no PARTY", OUTSIDE, x -> x.pays(-1, -1));
        edge(34, "a PARTY and itself: 0", () -> {
            PedlarBook x = land();
            for (int p = 0; p < 10; p++) due(0, x.pays(p, p));
        });
        edge(34, "if that is less than all it owes: just as much is enough", () -> {
            arePaid(debtor(100, 60, 30, 10), 60, 30, 10);
            arePaid(debtor(101, 60, 30, 10), 60, 30, 10);
            arePaid(debtor(99, 60, 30, 10), 59, 29, 9);
        });
        edge(34, "OWED times what is left by all OWED of that RANK, cut", () -> {
            arePaid(debtor(1, 1, 1, 1), 0, 0, 0);
            arePaid(debtor(2, 1, 1, 1), 0, 0, 0);
            arePaid(debtor(50, 60, 30, 10), 30, 15, 5);
            arePaid(debtor(7, 10, 10, 10), 2, 2, 2);
        });
        edge(34, "each PARTY is paid its part: the first and the last, too", () -> {
            PedlarBook x = new PedlarBook();
            x.owe(5, 0, 20);
            x.owe(5, 9, 20);
            x.party(5, 0, 10);
            due(5, x.pays(5, 0));
            due(5, x.pays(5, 9));
            x.party(9, 1, 2);
            due(10, x.pays(5, 0));
            due(0, x.pays(5, 9));
        });
        edge(34, "no COIN: nothing is paid", () -> arePaid(debtor(0, 60, 30, 10), 0, 0, 0));
        edge(34, "the greatest numbers", () -> {
            PedlarBook x = new PedlarBook();
            for (int to = 1; to < 10; to++) x.owe(0, to, 99999);
            x.party(0, 0, 99999);
            for (int to = 1; to < 10; to++) due(11111, x.pays(0, to));
            for (int by = 1; by < 10; by++) x.party(by, 0, 99999);
            for (int by = 1; by < 10; by++) x.owe(by, 0, 99999);
            for (int to = 1; to < 10; to++) due(99999, x.pays(0, to));
        });
        edge(34, "what each has is its COIN and what all others pay it then", () -> {
            PedlarBook x = new PedlarBook();
            x.owe(0, 1, 10);
            x.owe(2, 1, 10);
            x.owe(1, 3, 25);
            x.party(0, 0, 4);
            x.party(2, 0, 7);
            x.party(1, 0, 5);
            due(16, x.pays(1, 3));
            x.party(1, 0, 14);
            due(25, x.pays(1, 3));
            x.party(1, 0, 13);
            due(24, x.pays(1, 3));
        });
        edge(34, "again and again: who falls when one falls, along all PARTIES", () -> {
            PedlarBook x = new PedlarBook();
            for (int p = 0; p < 9; p++) x.owe(p, p + 1, 10);
            x.party(0, 0, 9);
            due(9, x.pays(8, 9));
            x.party(4, 0, 1);
            due(9, x.pays(3, 4));
            due(10, x.pays(4, 5));
            due(10, x.pays(8, 9));
        });
        edge(34, "till nothing changes: two that owe one another alone go on paying all", () -> {
            PedlarBook x = circle(2, 99999);
            due(99999, x.pays(0, 1));
            due(99999, x.pays(1, 0));
            due(0, x.ruin());
        });
        edge(34, "60 times at most: neither 59 nor 61", () -> {
            // 8 pays 7 one less each other time, 7 pays 8 one less a time later
            PedlarBook x = new PedlarBook();
            x.owe(7, 8, 99999);
            x.owe(8, 7, 99999);
            x.owe(8, 9, 1);
            due(99969, x.pays(7, 8));
            due(99969, x.pays(8, 7));
            due(0, x.pays(8, 9));
        });
        edge(34, "each time begins anew: what is paid does not hang on how often it is asked", () -> {
            PedlarBook x = new PedlarBook();
            x.owe(7, 8, 99999);
            x.owe(8, 7, 99999);
            x.owe(8, 9, 1);
            for (int time = 0; time < 5; time++) due(99969, x.pays(7, 8));
            x.ruin();
            due(99969, x.pays(8, 7));
            due(99999, x.owes(7, 8));
        });
    }

    private static void paysByRank() {
        edge(34, "lower RANKS first whole, as far as it goes", () -> {
            PedlarBook x = debtor(45, 20, 20, 20);
            x.party(3, 1, 0);
            x.party(2, 1, 2);
            arePaid(x, 20, 5, 20);
            x.party(0, 0, 40);
            arePaid(x, 20, 0, 20);
            x.party(0, 0, 39);
            arePaid(x, 19, 0, 20);
            x.party(0, 0, 20);
            arePaid(x, 0, 0, 20);
            x.party(0, 0, 19);
            arePaid(x, 0, 0, 19);
        });
        edge(34, "later RANKS nothing, though cutting has left some", () -> {
            PedlarBook x = debtor(15, 10, 10, 10);
            x.party(3, 1, 2);
            arePaid(x, 7, 7, 0);
            x.party(1, 1, 0);
            x.party(2, 1, 0);
            x.party(3, 1, 1);
            arePaid(x, 7, 7, 0);
        });
        edge(34, "of the one it is OWED to: its own RANK does not matter", () -> {
            PedlarBook x = debtor(10, 10, 10, 0);
            x.party(0, 1, 0);
            arePaid(x, 5, 5, 0);
            x.party(0, 1, 2);
            arePaid(x, 5, 5, 0);
        });
        edge(34, "RANKS of which nothing is OWED are passed over", () -> {
            PedlarBook x = debtor(10, 0, 20, 0);
            x.party(2, 1, 2);
            arePaid(x, 0, 10, 0);
            x.party(2, 1, 0);
            arePaid(x, 0, 10, 0);
        });
        edge(34, "all RANKS are whole, if there is enough", () -> {
            PedlarBook x = debtor(60, 20, 20, 20);
            x.party(1, 1, 2);
            x.party(2, 1, 0);
            arePaid(x, 20, 20, 20);
        });
    }

    private static void ruin() {
        edge(35, "nothing is OWED: none", () -> due(0, new PedlarBook().ruin()));
        edge(35, "FALLEN is who does not pay all: just as much is enough", () -> {
            due(0, debtor(100, 60, 30, 10).ruin());
            due(1, debtor(99, 60, 30, 10).ruin());
            due(1, debtor(0, 0, 0, 1).ruin());
        });
        edge(35, "as bits: PARTIES 0 and 9", () -> {
            PedlarBook x = new PedlarBook();
            x.owe(0, 1, 1);
            x.owe(9, 1, 1);
            due(1 | 1 << 9, x.ruin());
            x.party(0, 0, 1);
            due(1 << 9, x.ruin());
        });
        edge(35, "all ten", () -> {
            PedlarBook x = circle(10, 5);
            x.owe(0, 5, 90000);
            for (int p = 1; p < 10; p++) x.owe(p, 0, 90000);
            due(1023, x.ruin());
        });
        edge(35, "one that is OWED, and owes nothing, does not fall", () -> {
            PedlarBook x = debtor(0, 60, 30, 10);
            due(1, x.ruin());
            x.owe(1, 4, 1);
            due(3, x.ruin());
            x.party(1, 0, 1);
            due(1, x.ruin());
        });
    }
}
