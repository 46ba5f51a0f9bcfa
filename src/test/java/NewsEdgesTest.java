/** Boundary cases of promises 13 to 15: what is known by whom and when. */
public final class NewsEdgesTest extends Edges {
    private static final int VILLAGE = -1;

    public static void main(String[] args) {
        knownRefused();
        knownOwn();
        knownByMeeting();
        knownByVillage();
        as();
        knows();
        end(13, 15);
    }

    private static void knownRefused() {
        refused(13, "UNKNOWN: ENTRY below 0", UNKNOWN, x -> x.known(-1, 0));
        refused(13, "UNKNOWN: ENTRY that is not there", UNKNOWN, x -> x.known(5, 0));
        refused(13, "UNKNOWN: ENTRY beyond all that there may be", UNKNOWN, x -> x.known(60, 0));
        refused(13, "UNKNOWN: BAND below THE VILLAGE's -1", UNKNOWN, x -> x.known(0, -2));
        refused(13, "UNKNOWN: BAND that is not there", UNKNOWN, x -> x.known(0, 3));
        refused(13, "UNKNOWN: BAND 6 and 7 are none ever", UNKNOWN, x -> x.known(0, 6));
        refused(13, "UNKNOWN: ENTRY, for THE VILLAGE, too", UNKNOWN, x -> x.known(5, VILLAGE));
    }

    private static void knownOwn() {
        edge(13, "an ENTRY is known to the PACK's BAND from its DAY on, wherever that is", () -> {
            PedlarBook x = bare();
            x.entry(0, 0, 0, 1, 0, 0);
            x.entry(0, 0, 0, 1, 0, 9999);
            due(0, x.known(0, 0));
            due(9999, x.known(1, 0));
        });
        edge(13, "NONE: never (by STAYS there are)", () -> {
            PedlarBook x = bare();
            x.entry(0, 0, 0, 1, 0, 0);
            due(NONE, x.known(0, 1));
            due(NONE, x.known(0, VILLAGE));
            x.walk(0, 1, 0, 10);
            x.walk(1, 2, 0, 10);
            due(NONE, x.known(0, 1));
            due(NONE, x.known(0, VILLAGE));
        });
        edge(13, "NONE: BAND 0 never, of the first ENTRY, which is another one's", () -> {
            PedlarBook x = bare();
            x.entry(1, 0, 0, 1, 0, 7);
            due(NONE, x.known(0, 0));
            due(7, x.known(0, 1));
            due(NONE, x.known(0, 2));
        });
        edge(13, "an ENTRY that comes behind an asking is known, too", () -> {
            PedlarBook x = bare();
            x.entry(0, 0, 0, 1, 0, 7);
            due(7, x.known(0, 0));
            x.entry(0, 0, 0, 1, 0, 8);
            due(8, x.known(1, 0));
            due(2, x.knows(0, 8));
        });
        edge(13, "BANDS that are at no PLACE do not meet", () -> {
            PedlarBook x = bare();
            x.entry(0, 0, 0, 1, 0, 5);
            x.walk(0, 1, 6, 6);
            x.walk(1, 1, 7, 7);
            due(NONE, x.known(0, 1));
        });
        edge(13, "THE VILLAGE is PLACE 0: without a PLACE it knows nothing", () -> {
            PedlarBook x = new PedlarBook();
            x.band(0, 0);
            x.house(0);
            x.pack(0, 0, 0);
            x.entry(0, 0, 0, 1, 0, 0);
            due(NONE, x.known(0, VILLAGE));
            due(0, x.known(0, 0));
        });
    }

    private static void knownByMeeting() {
        edge(13, "BANDS that are at one PLACE that DAY come to know all that one of them knows", () -> {
            PedlarBook x = land();
            due(10, x.known(0, 0));
            due(15, x.known(0, 1));
            due(15, x.known(1, 1));
        });
        edge(13, "of that DAY, too: on the last DAY together", () -> {
            PedlarBook x = land();
            due(20, x.known(2, 1));
            due(20, x.known(2, 0));
        });
        edge(13, "a DAY behind the last one together is too late", () -> {
            PedlarBook x = bare();
            x.walk(0, 1, 10, 20);
            x.walk(1, 1, 10, 20);
            x.entry(0, 0, 0, 1, 0, 21);
            due(21, x.known(0, 0));
            due(NONE, x.known(0, 1));
        });
        edge(13, "a common STAY ahead of the ENTRY's DAY tells nothing of it, but from that DAY on it does", () -> {
            PedlarBook x = bare();
            x.walk(0, 1, 10, 20);
            x.walk(1, 1, 0, 9999);
            x.entry(0, 0, 0, 1, 0, 15);
            due(15, x.known(0, 1));
        });
        edge(13, "on each DAY, in order: what was heard is told on, and not backward", () -> {
            PedlarBook x = bare();
            x.walk(0, 1, 10, 10);
            x.walk(1, 1, 10, 10);
            x.walk(1, 2, 12, 12);
            x.walk(2, 2, 12, 12);
            x.entry(0, 0, 0, 1, 0, 10);
            due(10, x.known(0, 1));
            due(12, x.known(0, 2));
            x = bare();
            x.walk(0, 1, 12, 12);
            x.walk(1, 1, 12, 12);
            x.walk(1, 2, 10, 10);
            x.walk(2, 2, 10, 10);
            x.entry(0, 0, 0, 1, 0, 10);
            due(12, x.known(0, 1));
            due(NONE, x.known(0, 2));
        });
        edge(13, "all that are at one PLACE, the last of them, too", () -> {
            PedlarBook x = bare();
            x.band(0, 0);
            x.band(0, 0);
            x.band(0, 0);
            x.pack(0, 5, 0);
            for (int band = 0; band < 6; band++) x.walk(band, 2, band, 100);
            x.entry(3, 0, 0, 1, 0, 0);
            x.entry(0, 0, 0, 1, 0, 50);
            for (int band = 0; band < 5; band++) {
                due(5, x.known(0, band));
                due(50, x.known(1, band));
            }
            due(0, x.known(0, 5));
            due(50, x.known(1, 5));
            due(NONE, x.known(0, VILLAGE));
        });
        edge(13, "a PLACE other than THE VILLAGE knows nothing of its own", () -> {
            PedlarBook x = bare();
            x.entry(0, 0, 0, 1, 0, 10);
            x.walk(0, 1, 10, 10);
            x.walk(1, 1, 11, 11);
            due(NONE, x.known(0, 1));
        });
        edge(13, "on the first DAY of the first STAY, within a longer one", () -> {
            PedlarBook x = bare();
            x.walk(0, 1, 50, 50);
            x.walk(1, 1, 40, 60);
            x.entry(0, 0, 0, 1, 0, 10);
            due(50, x.known(0, 1));
        });
        edge(13, "by STAYS there are: a later call's STAY ahead of the ENTRY's DAY tells nothing of it", () -> {
            for (int band = 0; band < 3; band++) {
                PedlarBook x = bare();
                int other = (band + 1) % 3;
                x.entry(band, 0, 0, 1, 0, 10);
                due(10, x.known(0, band));
                x.walk(band, 1, 5, 5);
                x.walk(other, 1, 5, 5);
                due(NONE, x.known(0, other));
                due(10, x.known(0, band));
                x.walk(other, 1, 9, 10);
                x.walk(band, 1, 9, 11);
                due(10, x.known(0, other));
            }
        });
        edge(13, "by STAYS there are: one that comes later as a call may make it earlier", () -> {
            PedlarBook x = bare();
            x.entry(0, 0, 0, 1, 0, 10);
            x.walk(0, 1, 50, 50);
            x.walk(1, 1, 50, 50);
            due(50, x.known(0, 1));
            x.walk(0, 1, 20, 20);
            due(50, x.known(0, 1));
            x.walk(1, 1, 20, 20);
            due(20, x.known(0, 1));
        });
    }

    private static void knownByVillage() {
        edge(13, "a BAND in THE VILLAGE lets THE VILLAGE know all that it knows", () -> {
            PedlarBook x = land();
            due(35, x.known(0, VILLAGE));
            due(35, x.known(1, VILLAGE));
            due(35, x.known(2, VILLAGE));
            due(30, x.known(3, VILLAGE));
            due(31, x.known(4, VILLAGE));
        });
        edge(13, "and comes to know all that THE VILLAGE knows (with all others there)", () -> {
            PedlarBook x = land();
            due(35, x.known(0, 2));
            due(35, x.known(2, 2));
            due(35, x.known(3, 0));
            due(NONE, x.known(3, 1));
        });
        edge(13, "THE VILLAGE keeps what it knows till another one comes", () -> {
            PedlarBook x = bare();
            x.entry(0, 0, 0, 1, 0, 10);
            x.walk(0, 0, 10, 10);
            x.walk(1, 0, 9999, 9999);
            due(10, x.known(0, VILLAGE));
            due(9999, x.known(0, 1));
            due(NONE, x.known(0, 2));
        });
        edge(13, "one that was in THE VILLAGE ahead of the ENTRY's DAY knows nothing of it", () -> {
            PedlarBook x = bare();
            x.walk(1, 0, 0, 9);
            x.walk(0, 0, 5, 10);
            x.entry(0, 0, 0, 1, 0, 10);
            due(10, x.known(0, VILLAGE));
            due(NONE, x.known(0, 1));
        });
        edge(13, "DAYS 0 and 9999 in THE VILLAGE", () -> {
            PedlarBook x = bare();
            x.walk(0, 0, 0, 0);
            x.walk(1, 0, 9999, 9999);
            x.entry(0, 0, 0, 1, 0, 0);
            x.entry(1, 0, 0, 1, 0, 9999);
            due(0, x.known(0, VILLAGE));
            due(9999, x.known(1, VILLAGE));
            due(NONE, x.known(1, 0));
        });
        edge(13, "the last of 60 ENTRIES", () -> {
            PedlarBook x = bare();
            for (int e = 0; e < 60; e++) x.entry(0, 0, 0, 1, 0, e);
            x.walk(0, 0, 58, 60);
            for (int e = 0; e < 60; e++) due(Math.max(58, e), x.known(e, VILLAGE));
            due(59, x.known(59, 0));
        });
    }

    private static void as() {
        refused(14, "UNKNOWN: below 0", UNKNOWN, x -> x.as(-1, 1, 0, 0));
        refused(14, "UNKNOWN: not there", UNKNOWN, x -> x.as(3, 1, 0, 0));
        refused(14, "OUTSIDE: good below 0", OUTSIDE, x -> x.as(0, -1, 0, 0));
        refused(14, "OUTSIDE: good above 7", OUTSIDE, x -> x.as(0, 8, 0, 0));
        refused(14, "OUTSIDE: d below 0", OUTSIDE, x -> x.as(0, 1, -1, 0));
        refused(14, "OUTSIDE: d above 9999", OUTSIDE, x -> x.as(0, 1, 10000, 0));
        refused(14, "OUTSIDE: k below 0", OUTSIDE, x -> x.as(0, 1, 0, -1));
        refused(14, "OUTSIDE: k above 9999", OUTSIDE, x -> x.as(0, 1, 0, 10000));
        refused(14, "UNKNOWN comes ahead of OUTSIDE", UNKNOWN, x -> x.as(3, 8, -1, 10000));
        edge(14, "ENTRIES of DAY d or ahead: of d itself, not of one behind", () -> {
            PedlarBook x = land();
            due(0, x.as(0, 1, 9, 9999));
            due(10, x.as(0, 1, 10, 9999));
            due(10, x.as(0, 1, 11, 9999));
            due(6, x.as(0, 1, 12, 9999));
            due(6, x.as(0, 1, 9999, 9999));
        });
        edge(14, "that THE VILLAGE knows on DAY k (behind all that comes to be known that DAY)", () -> {
            PedlarBook x = land();
            due(0, x.as(0, 1, 9999, 34));
            due(6, x.as(0, 1, 9999, 35));
            due(0, x.as(2, 3, 9999, 29));
            due(7, x.as(2, 3, 9999, 30));
            due(6, x.as(2, 3, 9999, 31));
        });
        edge(14, "k may be ahead of d, and d of k", () -> {
            PedlarBook x = land();
            due(7, x.as(2, 3, 31, 30));
            due(7, x.as(2, 3, 30, 31));
            due(0, x.as(2, 3, 29, 30));
        });
        edge(14, "what THE VILLAGE never knows is not in it, nor what another PACK or GOOD has", () -> {
            PedlarBook x = land();
            due(20, x.held(1, 2, 9999));
            due(20, x.as(1, 2, 9999, 9999));
            due(0, x.as(1, 1, 9999, 9999));
            x.entry(1, 2, 2, 5, 1, 40);
            due(15, x.held(1, 2, 9999));
            due(20, x.as(1, 2, 9999, 9999));
        });
        edge(14, "DAYS 0 and 9999", () -> {
            PedlarBook x = bare();
            x.walk(0, 0, 0, 9999);
            x.entry(0, 0, 7, 9, 0, 0);
            x.entry(0, 4, 7, 9, 0, 9999);
            due(9, x.as(0, 7, 0, 0));
            due(9, x.as(0, 7, 9999, 9998));
            due(0, x.as(0, 7, 9999, 9999));
        });
        edge(14, "nothing is known: 0", () -> due(0, bare().as(0, 0, 9999, 9999)));
    }

    private static void knows() {
        refused(15, "UNKNOWN: below THE VILLAGE's -1", UNKNOWN, x -> x.knows(-2, 0));
        refused(15, "UNKNOWN: BAND that is not there", UNKNOWN, x -> x.knows(3, 0));
        refused(15, "UNKNOWN: 6 is no BAND ever", UNKNOWN, x -> x.knows(6, 0));
        refused(15, "OUTSIDE: below 0", OUTSIDE, x -> x.knows(0, -1));
        refused(15, "OUTSIDE: above 9999", OUTSIDE, x -> x.knows(0, 10000));
        refused(15, "OUTSIDE: for THE VILLAGE, too", OUTSIDE, x -> x.knows(VILLAGE, 10000));
        refused(15, "UNKNOWN comes ahead of OUTSIDE", UNKNOWN, x -> x.knows(3, -1));
        edge(15, "known to a BAND on a DAY: of that DAY, too", () -> {
            PedlarBook x = land();
            int[] days = {0, 9, 10, 11, 12, 19, 20, 34, 35, 9999};
            int[] counts = {0, 0, 1, 1, 2, 2, 3, 3, 5, 5};
            for (int k = 0; k < days.length; k++) due(counts[k], x.knows(0, days[k]));
        });
        edge(15, "known to THE VILLAGE on a DAY: of that DAY, too", () -> {
            PedlarBook x = land();
            int[] days = {0, 29, 30, 31, 34, 35, 9999};
            int[] counts = {0, 0, 1, 2, 2, 5, 5};
            for (int k = 0; k < days.length; k++) due(counts[k], x.knows(VILLAGE, days[k]));
        });
        edge(15, "none: 0, of THE VILLAGE without a PLACE, too", () -> {
            due(0, bare().knows(0, 9999));
            due(0, bare().knows(VILLAGE, 9999));
            due(0, new PedlarBook().knows(VILLAGE, 0));
        });
        edge(15, "all 60 ENTRIES", () -> {
            PedlarBook x = bare();
            for (int e = 0; e < 60; e++) x.entry(e % 3, 0, 0, 1, 0, e);
            for (int band = 0; band < 3; band++) x.walk(band, 0, 0, 9999);
            for (int band = -1; band < 3; band++) {
                due(59, x.knows(band, 58));
                due(60, x.knows(band, 59));
                due(1, x.knows(band, 0));
            }
        });
        edge(15, "a refused ENTRY is not known", () -> {
            PedlarBook x = bare();
            due(STATE, x.entry(0, 2, 0, 1, 0, 0));
            due(0, x.knows(0, 9999));
            write(x, 0, 0, 0, 0, 1, 1, 2, 0, 2, 1);
            due(STATE, x.entries(0, 0, 0, 0, 2));
            due(0, x.knows(0, 9999));
            due(1, x.entries(0, 0, 0, 0, 1));
            due(1, x.knows(0, 9999));
        });
    }
}
