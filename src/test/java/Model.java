import java.util.ArrayList;
import java.util.Arrays;
import java.util.BitSet;
import java.util.HashMap;
import java.util.List;
import java.util.Map;
import java.util.TreeSet;

/**
 * The document's words taken slowly: days are gone through one by one, lists grow, the machine's own arrays of
 * bytes, shorts and ints are the SHEETS. It shares nothing with PedlarBook, so that a slip in one is seen in the other.
 */
final class Model {
    static final int UNKNOWN = -1, OUTSIDE = -2, STATE = -3, FULL = -4, NONE = -9;
    static final long LOST = Long.MIN_VALUE;
    static final int LAST_DAY = 9999;

    record Stay(int band, int place, int from, int to) { }
    record Pack(int kind, int band, int house) { }
    record Entry(int pack, int kind, int good, int many, int coin, int day) { }
    record Clause(char letter, int number) { }
    record Text(int land, int from, int to, List<Clause> clauses) { }
    record Licence(int band, int land, int from, int to) { }
    record Sent(int pack, int coin, int day) { }
    record Right(int band, int round, int from, int to) { }
    record Offer(int band, int house, int round, int credit, int gain) { }

    static final class Debt {
        int kind, place, pack, coin, day, paid, whose;
    }

    private final List<Integer> places = new ArrayList<>();
    private final List<int[]> bands = new ArrayList<>();
    private final List<Integer> houses = new ArrayList<>();
    private final List<Stay> stays = new ArrayList<>();
    private final List<Pack> packs = new ArrayList<>();
    private final List<Entry> entries = new ArrayList<>();
    private final List<Text> texts = new ArrayList<>();
    private final List<Licence> licences = new ArrayList<>();
    private final List<Debt> debts = new ArrayList<>();
    private final List<Sent> sents = new ArrayList<>();
    private final List<List<Integer>> rounds = new ArrayList<>();
    private final List<Right> rights = new ArrayList<>();
    private final List<Offer> offers = new ArrayList<>();
    private final Object[] sheets = new Object[4];
    private final int[][] owed = new int[10][10];
    private final int[] coins = new int[10];
    private final int[] ranks = new int[10];
    private int fault, trace;

    /** where[band][day] */
    private final int[][] where = new int[6][LAST_DAY + 1];

    Model() {
        Arrays.fill(ranks, 1);
        for (int[] row : where) Arrays.fill(row, NONE);
    }

    private static boolean in(long x, long least, long most) {
        return least <= x && x <= most;
    }

    private static boolean day(int d) {
        return in(d, 0, LAST_DAY);
    }

    private static boolean days(int from, int to) {
        return day(from) && day(to) && !(to < from);
    }

    private static <T> boolean there(List<T> list, int x) {
        return in(x, 0, list.size() - 1);
    }

    private static <T> int come(List<T> list, T x, int most) {
        if (list.size() == most) return FULL;
        list.add(x);
        return list.size() - 1;
    }

    private static <T> int count(List<T> list, T x, int most) {
        if (list.size() == most) return FULL;
        list.add(x);
        return list.size();
    }

    private int fail(int f) {
        fault = f;
        return -10 - f;
    }

    // 1

    int place(int land) {
        return in(land, 0, 5) ? come(places, land, 16) : OUTSIDE;
    }

    int band(int men, int boys) {
        return in(men, 0, 9) && in(boys, 0, 9) ? come(bands, new int[] {men, boys}, 6) : OUTSIDE;
    }

    int house(int trust) {
        return in(trust, 0, 1000000) ? come(houses, trust, 4) : OUTSIDE;
    }

    int walk(int band, int place, int from, int to) {
        if (!there(bands, band)) return UNKNOWN;
        if (!there(places, place)) return UNKNOWN;
        if (!days(from, to)) return OUTSIDE;
        for (int d = from; d <= to; d++) if (at(band, d) != NONE) return STATE;
        int answer = count(stays, new Stay(band, place, from, to), 40);
        for (int d = from; d <= to && answer > 0; d++) where[band][d] = place;
        return answer;
    }

    private int at(int band, int d) {
        return where[band][d];
    }

    int day(int band, int d) {
        if (!there(bands, band)) return UNKNOWN;
        return day(d) ? at(band, d) : OUTSIDE;
    }

    int meet(int a, int b, int d) {
        if (!there(bands, a) || !there(bands, b)) return UNKNOWN;
        if (!day(d) || a == b) return OUTSIDE;
        for (int x = d; x <= LAST_DAY; x++) {
            int place = at(a, x);
            if (place != NONE && place == at(b, x)) return x;
        }
        return NONE;
    }

    int pack(int kind, int band, int house) {
        if (!there(bands, band) || !there(houses, house)) return UNKNOWN;
        if (!in(kind, 0, 2)) return OUTSIDE;
        return come(packs, new Pack(kind, band, house), 12);
    }

    int entry(int pack, int kind, int good, int many, int coin, int d) {
        if (!there(packs, pack)) return UNKNOWN;
        if (!in(kind, 0, 4) || !in(good, 0, 7) || !in(many, 1, 99)) return OUTSIDE;
        if (kind < 3 && !in(coin, 0, 999)) return OUTSIDE;
        if (!day(d)) return OUTSIDE;
        int held = 0;
        for (Entry e : entries) {
            if (e.pack != pack) continue;
            if (d < e.day) return STATE;
            if (e.good == good) held += e.kind <= 1 ? e.many : -e.many;
        }
        if (kind > 1 && held - many < 0) return STATE;
        return come(entries, new Entry(pack, kind, good, many, kind > 2 ? 0 : coin, d), 60);
    }

    private static int lane(Object row) {
        return row instanceof byte[] ? 0 : row instanceof short[] ? 1 : 2;
    }

    private static int length(Object row) {
        return java.lang.reflect.Array.getLength(row);
    }

    private int get(int k, int i) {
        return (int) java.lang.reflect.Array.getLong(sheets[k], i);
    }

    /** The FAULT in taking n cells from i on as a row of a lane. */
    private int taking(int k, int lane, int i, long n) {
        Object row = sheets[k];
        if (row != null && lane(row) != lane) return 2;
        if (row == null) return 1;
        if (n < 0) return 4;
        if (!in(i, 0, length(row)) || !in(i + n, 0, length(row))) return 3;
        return 0;
    }

    int entries(int pack, int sheet, int lane, int i, int n) {
        fault = 0;
        if (!there(packs, pack) || !in(sheet, 0, 3)) return UNKNOWN;
        if (!in(lane, 0, 2)) return OUTSIDE;
        int f = taking(sheet, lane, i, 4L * n);
        if (f != 0) return fail(f);
        List<Entry> before = new ArrayList<>(entries);
        for (int row = 0; row < n; row++) {
            int c = i + 4 * row;
            int r = entry(pack, get(sheet, c), get(sheet, c + 1), get(sheet, c + 2), 1, get(sheet, c + 3));
            if (r < 0) {
                entries.clear();
                entries.addAll(before);
                return r;
            }
        }
        return ofPack(pack);
    }

    private int ofPack(int pack) {
        int n = 0;
        for (Entry e : entries) if (e.pack == pack) n++;
        return n;
    }

    int told(int x, int what) {
        if (!there(entries, x)) return UNKNOWN;
        if (!in(what, 0, 5)) return OUTSIDE;
        Entry e = entries.get(x);
        return new int[] {e.pack, e.kind, e.good, e.many, e.coin, e.day}[what];
    }

    int held(int pack, int good, int d) {
        if (!there(packs, pack)) return UNKNOWN;
        if (!in(good, 0, 7) || !day(d)) return OUTSIDE;
        int held = 0;
        for (Entry e : entries) {
            if (e.pack == pack && e.good == good && e.day <= d) held += e.kind <= 1 ? e.many : -e.many;
        }
        return held;
    }

    // 2

    /** first[who][e]: the DAY, or NONE; the VILLAGE is the seventh. Gone through day by day when a list has grown. */
    private int[][] first = new int[7][60];
    private int grown = -1;

    private int[][] first() {
        int size = 100 * stays.size() + entries.size();
        if (size == grown) return first;
        grown = size;
        for (int[] row : first) Arrays.fill(row, NONE);
        Map<Integer, List<Integer>> byDay = new HashMap<>();
        for (int e = 0; e < entries.size(); e++) byDay.computeIfAbsent(entries.get(e).day, d -> new ArrayList<>()).add(e);
        BitSet[] heads = new BitSet[7];
        for (int w = 0; w < 7; w++) heads[w] = new BitSet();
        for (int d = 0; d <= LAST_DAY; d++) {
            for (int e : byDay.getOrDefault(d, List.of())) heads[packs.get(entries.get(e).pack).band].set(e);
            BitSet[] after = new BitSet[7];
            for (int w = 0; w < 7; w++) {
                after[w] = (BitSet) heads[w].clone();
                for (int v = 0; v < 7; v++) {
                    if (spot(w, d) != NONE && spot(w, d) == spot(v, d)) after[w].or(heads[v]);
                }
                for (int e = after[w].nextSetBit(0); e >= 0; e = after[w].nextSetBit(e + 1)) {
                    if (first[w][e] == NONE) first[w][e] = d;
                }
            }
            heads = after;
        }
        return first;
    }

    private int spot(int who, int d) {
        return who == 6 ? 0 : where[who][d];
    }

    int known(int e, int band) {
        if (!there(entries, e) || !(band == -1 || there(bands, band))) return UNKNOWN;
        return first()[band == -1 ? 6 : band][e];
    }

    int as(int pack, int good, int d, int k) {
        if (!there(packs, pack)) return UNKNOWN;
        if (!in(good, 0, 7) || !day(d) || !day(k)) return OUTSIDE;
        int held = 0;
        for (int x = 0; x < entries.size(); x++) {
            Entry e = entries.get(x);
            if (!in(first()[6][x], 0, k)) continue;
            if (e.pack == pack && e.good == good && e.day <= d) held += e.kind <= 1 ? e.many : -e.many;
        }
        return held;
    }

    int knows(int band, int d) {
        if (!(band == -1 || there(bands, band))) return UNKNOWN;
        if (!day(d)) return OUTSIDE;
        int n = 0;
        for (int x = 0; x < entries.size(); x++) if (in(first()[band == -1 ? 6 : band][x], 0, d)) n++;
        return n;
    }

    // 3

    int text(int land, int from, int to, int sheet, int lane, int i, int n) {
        fault = 0;
        if (!in(sheet, 0, 3)) return UNKNOWN;
        if (!in(land, -1, 5) || !days(from, to) || !in(lane, 0, 2)) return OUTSIDE;
        int f = taking(sheet, lane, i, n);
        if (f != 0) return fail(f);
        int[] codes = new int[n];
        for (int c = 0; c < n; c++) codes[c] = get(sheet, i + c);
        List<Clause> clauses = new ArrayList<>();
        int wrong = firstFault(codes, clauses);
        if (wrong >= 0) return -100 - wrong;
        return come(texts, new Text(land, from, to, clauses), 10);
    }

    /** A walk through states: 0 wants a letter, 1 a first digit, 2 more digits, a semicolon or the end. */
    private static int firstFault(int[] codes, List<Clause> clauses) {
        int state = 0;
        char letter = 0;
        StringBuilder digits = new StringBuilder();
        for (int p = 0; p <= codes.length; p++) {
            int c = p < codes.length ? codes[p] : -1;
            boolean digit = c >= '0' && c <= '9';
            if (state == 2 && digit && digits.length() < 4) {
                digits.append((char) c);
                continue;
            }
            if (state == 2) {
                int number = Integer.parseInt(digits.toString());
                if (!fits(letter, number)) return p - digits.length();
                clauses.add(new Clause(letter, number));
                if (p == codes.length) return -1;
                if (c != ';' || clauses.size() == 6) return p;
                state = 0;
            } else if (state == 0) {
                if (c < 0 || c > 127 || "spybufh".indexOf(c) < 0) return p;
                letter = (char) c;
                state = 1;
            } else {
                if (!digit) return p;
                digits.setLength(0);
                digits.append((char) c);
                state = 2;
            }
        }
        throw new IllegalStateException("no end");
    }

    private static boolean fits(char letter, int number) {
        return switch (letter) {
            case 's' -> in(number, 0, 10);
            case 'p' -> in(number, 0, 99);
            case 'y' -> in(number, 1, 9999);
            case 'h' -> in(number, 0, 2);
            default -> in(number, 0, 7);
        };
    }

    /** {TEXT, value} by the texts of one land (-1: CUSTOM), or null. */
    private int[] tellsAlone(int letter, int good, int land, int d) {
        int[] found = null;
        for (int t = 0; t < texts.size(); t++) {
            Text x = texts.get(t);
            if (x.land != land || !in(d, x.from, x.to)) continue;
            for (Clause c : x.clauses) {
                if (letter < 4 && c.letter == "spyh".charAt(letter)) found = new int[] {t, c.number};
                int bars = "fbu".indexOf(c.letter);
                if (letter == 4 && bars >= 0 && c.number == good) found = new int[] {t, bars};
            }
        }
        return found;
    }

    private int[] tells(int letter, int good, int land, int d) {
        int[] law = tellsAlone(letter, good, land, d);
        return law != null ? law : tellsAlone(letter, good, -1, d);
    }

    private int value(int[] told, int letter) {
        return told != null ? told[1] : letter == 0 ? 4 : 0;
    }

    int force(int letter, int land, int d) {
        if (!in(letter, 0, 3) || !in(land, 0, 5) || !day(d)) return OUTSIDE;
        return value(tells(letter, 0, land, d), letter);
    }

    int bar(int good, int land, int d) {
        if (!in(good, 0, 7) || !in(land, 0, 5) || !day(d)) return OUTSIDE;
        return value(tells(4, good, land, d), 4);
    }

    private static boolean asked(int letter, int good, int land, int d) {
        return in(letter, 0, 4) && (letter != 4 || in(good, 0, 7)) && in(land, 0, 5) && day(d);
    }

    int why(int letter, int good, int land, int d) {
        if (!asked(letter, good, land, d)) return OUTSIDE;
        int[] told = tells(letter, good, land, d);
        return told == null ? NONE : told[0];
    }

    int quarrel(int letter, int good, int land, int d) {
        if (!asked(letter, good, land, d)) return OUTSIDE;
        int[] law = tellsAlone(letter, good, land, d);
        int[] custom = tellsAlone(letter, good, -1, d);
        return law != null && custom != null && law[1] != custom[1] ? 1 : 0;
    }

    // 4

    int licence(int band, int land, int from, int to) {
        if (!there(bands, band)) return UNKNOWN;
        if (!in(land, 0, 5) || !days(from, to)) return OUTSIDE;
        return count(licences, new Licence(band, land, from, to), 12);
    }

    int unallowed(int pack) {
        if (!there(packs, pack)) return UNKNOWN;
        int n = 0;
        for (Entry e : entries) {
            if (e.pack != pack || e.kind != 2) continue;
            int band = packs.get(pack).band;
            int place = at(band, e.day);
            if (place == NONE) continue;
            int land = places.get(place);
            int bar = bar(e.good, land, e.day);
            boolean has = false;
            for (Licence l : licences) {
                if (l.band == band && l.land == land && in(e.day, l.from, l.to)) has = true;
            }
            if (bar == 1 || bar == 2 && !has) n++;
        }
        return n;
    }

    int door(int kind, int place, int pack, int coin, int d) {
        if (!there(places, place) || !there(packs, pack)) return UNKNOWN;
        if (!in(kind, 0, 2) || !in(coin, 1, 9999) || !day(d)) return OUTSIDE;
        Debt x = new Debt();
        x.kind = kind;
        x.place = place;
        x.pack = pack;
        x.coin = coin;
        x.day = d;
        x.whose = packs.get(pack).band;
        return come(debts, x, 20);
    }

    private int barredFrom(Debt x) {
        int[] told = tells(2, 0, places.get(x.place), x.day);
        return told == null ? NONE : x.day + told[1];
    }

    private boolean barred(Debt x, int d) {
        return barredFrom(x) != NONE && d >= barredFrom(x);
    }

    int due(int n, int what) {
        if (!there(debts, n)) return UNKNOWN;
        if (!in(what, 0, 7)) return OUTSIDE;
        Debt x = debts.get(n);
        return new int[] {x.kind, x.place, x.pack, x.coin, x.day, barredFrom(x), x.paid, x.whose}[what];
    }

    int paid(int n, int coin, int d) {
        if (!there(debts, n)) return UNKNOWN;
        if (coin < 1 || !day(d)) return OUTSIDE;
        Debt x = debts.get(n);
        if (barred(x, d) || coin > x.coin - x.paid || d < x.day) return STATE;
        x.paid += coin;
        return x.coin - x.paid;
    }

    int dead(int band, int d) {
        if (!there(bands, band)) return UNKNOWN;
        if (!day(d)) return OUTSIDE;
        int gone = 0;
        for (Debt x : debts) {
            if (x.whose != band || x.day > d || barred(x, d) || x.paid == x.coin) continue;
            int land = places.get(x.place);
            int h = force(3, land, d);
            if (h == 1) x.whose = 6 + packs.get(x.pack).house;
            if (h == 2) x.whose = 10 + land;
            if (h != 0) gone++;
        }
        return gone;
    }

    int send(int pack, int coin, int d) {
        if (!there(packs, pack)) return UNKNOWN;
        if (!in(coin, 1, 99999) || !day(d)) return OUTSIDE;
        sents.add(new Sent(pack, coin, d));
        return (int) sent(pack, LAST_DAY);
    }

    private long sent(int pack, int d) {
        long sum = 0;
        for (Sent s : sents) if (s.pack == pack && s.day <= d) sum += s.coin;
        return sum;
    }

    long credit(int pack, int d) {
        if (!there(packs, pack) || !day(d)) return LOST;
        long sum = -sent(pack, d);
        for (Entry e : entries) {
            if (e.pack != pack || e.kind != 0 || e.day > d) continue;
            long all = (long) e.many * e.coin;
            sum += all;
            sum += all * value(tellsAlone(1, 0, -1, e.day), 1) * (d - e.day) / 10000L;
        }
        return sum < 0 ? 0 : sum;
    }

    // 5

    int share(int band, int from, int to, int who) {
        if (!there(bands, band)) return UNKNOWN;
        if (!in(who, 0, 3) || !days(from, to)) return OUTSIDE;
        int all = 0;
        for (Entry e : entries) {
            if (packs.get(e.pack).band != band || !in(e.day, from, to)) continue;
            if (e.kind == 2) all += e.many * e.coin;
            if (e.kind == 1) all -= e.many * e.coin;
        }
        if (all < 0) all = 0;
        int s = value(tellsAlone(0, 0, -1, to), 0);
        int master = all * s / 10;
        int rest = all - master;
        int men = bands.get(band)[0], boys = bands.get(band)[1];
        int man = 0, boy = 0;
        if (men + boys > 0) {
            man = rest * 2 / (2 * men + boys);
            boy = rest / (2 * men + boys);
        }
        int over = rest;
        for (int m = 0; m < men; m++) over -= man;
        for (int b = 0; b < boys; b++) over -= boy;
        return new int[] {all, master + over, man, boy}[who];
    }

    private static boolean parties(int by, int to) {
        return in(by, 0, 9) && in(to, 0, 9);
    }

    int owe(int by, int to, int v) {
        if (!parties(by, to) || by == to || !in(v, 0, 99999)) return OUTSIDE;
        int was = owed[by][to];
        owed[by][to] = v;
        return was;
    }

    int owes(int by, int to) {
        return parties(by, to) ? owed[by][to] : OUTSIDE;
    }

    int ring() {
        int less = 0;
        while (true) {
            List<int[]> rows = new ArrayList<>();
            allRings(new int[0], rows);
            if (rows.isEmpty()) return less;
            rows.sort(Arrays::compare);
            int[] row = rows.get(0);
            int least = Integer.MAX_VALUE;
            for (int k = 0; k < row.length; k++) least = Math.min(least, owed[row[k]][row[(k + 1) % row.length]]);
            for (int k = 0; k < row.length; k++) owed[row[k]][row[(k + 1) % row.length]] -= least;
            less += least * row.length;
        }
    }

    private void allRings(int[] row, List<int[]> rows) {
        if (row.length >= 2 && owed[row[row.length - 1]][row[0]] > 0) rows.add(row);
        if (row.length == 4) return;
        for (int p = 0; p < 10; p++) {
            boolean unlike = true;
            for (int q : row) unlike &= q != p;
            if (!unlike || row.length > 0 && (p < row[0] || owed[row[row.length - 1]][p] == 0)) continue;
            int[] longer = Arrays.copyOf(row, row.length + 1);
            longer[row.length] = p;
            allRings(longer, rows);
        }
    }

    int party(int p, int what, int v) {
        if (!in(p, 0, 9) || !in(what, 0, 1) || !in(v, 0, what == 0 ? 99999 : 2)) return OUTSIDE;
        int[] table = what == 0 ? coins : ranks;
        int was = table[p];
        table[p] = v;
        return was;
    }

    private int[][] falling() {
        int[][] pays = new int[10][];
        for (int p = 0; p < 10; p++) pays[p] = owed[p].clone();
        for (int time = 0; time < 60; time++) {
            int[][] next = new int[10][];
            for (int p = 0; p < 10; p++) {
                long has = coins[p];
                for (int q = 0; q < 10; q++) has += pays[q][p];
                next[p] = paysOut(p, has);
            }
            boolean same = Arrays.deepEquals(next, pays);
            pays = next;
            if (same) break;
        }
        return pays;
    }

    private int[] paysOut(int p, long has) {
        long all = 0;
        for (int v : owed[p]) all += v;
        if (has >= all) return owed[p].clone();
        int[] out = new int[10];
        for (int rank = 0; rank <= 2; rank++) {
            long ofRank = 0;
            for (int q = 0; q < 10; q++) if (ranks[q] == rank) ofRank += owed[p][q];
            boolean whole = has >= ofRank;
            for (int q = 0; q < 10; q++) {
                if (ranks[q] == rank) out[q] = whole ? owed[p][q] : (int) (owed[p][q] * has / ofRank);
            }
            if (!whole) break;
            has -= ofRank;
        }
        return out;
    }

    int pays(int by, int to) {
        return parties(by, to) ? falling()[by][to] : OUTSIDE;
    }

    int ruin() {
        int[][] pays = falling();
        int bits = 0;
        for (int p = 0; p < 10; p++) if (!Arrays.equals(pays[p], owed[p])) bits += 1 << p;
        return bits;
    }

    // 6

    int round(int sheet, int lane, int i, int n) {
        fault = 0;
        if (!in(sheet, 0, 3)) return UNKNOWN;
        if (!in(lane, 0, 2)) return OUTSIDE;
        int f = taking(sheet, lane, i, n);
        if (f != 0) return fail(f);
        if (!in(n, 1, 8)) return OUTSIDE;
        List<Integer> row = new ArrayList<>();
        for (int c = i; c < i + n; c++) {
            if (!there(places, get(sheet, c))) return UNKNOWN;
            row.add(get(sheet, c));
        }
        return come(rounds, row, 10);
    }

    int right(int band, int round, int how, int from, int to) {
        if (!there(bands, band) || !there(rounds, round)) return UNKNOWN;
        if (!in(how, 0, 2) || !days(from, to)) return OUTSIDE;
        return count(rights, new Right(band, round, from, to), 20);
    }

    int holder(int round, int d) {
        if (!there(rounds, round)) return UNKNOWN;
        if (!day(d)) return OUTSIDE;
        int band = NONE;
        for (Right r : rights) if (r.round == round && in(d, r.from, r.to)) band = r.band;
        return band;
    }

    int two(int round) {
        if (!there(rounds, round)) return UNKNOWN;
        int n = 0;
        for (int d = 0; d <= LAST_DAY; d++) {
            TreeSet<Integer> who = new TreeSet<>();
            for (Right r : rights) if (r.round == round && in(d, r.from, r.to)) who.add(r.band);
            if (who.size() > 1) n++;
        }
        return n;
    }

    int walked(int round, int band, int from, int to) {
        if (!there(bands, band) || !there(rounds, round)) return UNKNOWN;
        if (!days(from, to)) return OUTSIDE;
        List<Stay> mine = new ArrayList<>();
        for (Stay s : stays) if (s.band == band && s.from >= from && s.to <= to) mine.add(s);
        mine.sort((a, b) -> a.from - b.from);
        int done = 0;
        for (Stay s : mine) {
            if (done < rounds.get(round).size() && s.place == rounds.get(round).get(done)) done++;
        }
        return done == rounds.get(round).size() ? 1 : 0;
    }

    int offer(int band, int house, int round, int credit, int gain) {
        if (!there(bands, band) || !there(houses, house) || !there(rounds, round)) return UNKNOWN;
        if (!in(credit, 0, 999999) || !in(gain, -99999, 99999)) return OUTSIDE;
        return come(offers, new Offer(band, house, round, credit, gain), 9);
    }

    private boolean may(int set) {
        long[] lent = new long[4];
        for (int a = 0; a < offers.size(); a++) {
            if ((set & 1 << a) == 0) continue;
            lent[offers.get(a).house] += offers.get(a).credit;
            for (int b = 0; b < a; b++) {
                if ((set & 1 << b) == 0) continue;
                if (offers.get(a).band == offers.get(b).band || offers.get(a).round == offers.get(b).round) return false;
            }
        }
        for (int h = 0; h < houses.size(); h++) if (lent[h] > houses.get(h)) return false;
        return true;
    }

    int best(int what) {
        if (!in(what, 0, 1)) return OUTSIDE;
        int set = 0, gain = 0;
        for (int s = (1 << offers.size()) - 1; s >= 0; s--) {
            int g = 0;
            for (int a = 0; a < offers.size(); a++) if ((s & 1 << a) != 0) g += offers.get(a).gain;
            if (g >= gain && may(s)) {
                set = s;
                gain = g;
            }
        }
        return what == 0 ? set : gain;
    }

    int judge(int set) {
        if (set < 0 || set >> offers.size() != 0) return OUTSIDE;
        return may(set) ? 1 : 0;
    }

    // sheets, parts

    int sheet(int k, int lane, int n) {
        fault = 0;
        if (!in(k, 0, 3)) return UNKNOWN;
        if (!in(lane, 0, 2) || n > 60) return OUTSIDE;
        if (n < 0) return fail(4);
        sheets[k] = lane == 0 ? new byte[n] : lane == 1 ? new short[n] : new int[n];
        return 1;
    }

    int lose(int k) {
        if (!in(k, 0, 3)) return UNKNOWN;
        int had = sheets[k] == null ? 0 : 1;
        sheets[k] = null;
        return had;
    }

    int put(int k, int i, int v) {
        fault = 0;
        if (!in(k, 0, 3)) return UNKNOWN;
        Object row = sheets[k];
        if (row == null) return fail(1);
        if (!in(i, 0, length(row) - 1)) return fail(3);
        if (row instanceof byte[] bytes) bytes[i] = (byte) v;
        if (row instanceof short[] shorts) shorts[i] = (short) v;
        if (row instanceof int[] ints) ints[i] = v;
        return 1;
    }

    long cell(int k, int i, int lane) {
        fault = 0;
        if (!in(k, 0, 3) || !in(lane, 0, 2)) return LOST;
        int f = taking(k, lane, i, 1);
        if (f == 0) return get(k, i);
        fail(f);
        return LOST;
    }

    int copy(int k, int i, int other, int j, int n) {
        fault = 0;
        if (!in(k, 0, 3) || !in(other, 0, 3)) return UNKNOWN;
        if (sheets[k] == null || sheets[other] == null) return fail(1);
        if (lane(sheets[k]) != lane(sheets[other])) return fail(2);
        try {
            System.arraycopy(sheets[k], i, sheets[other], j, n);
        } catch (IndexOutOfBoundsException beyond) {
            return fail(3);
        }
        return n;
    }

    private static final int[][] PACK_TRACES = {{1}, {2, 1}, {3, 2, 1, 1}};
    private static final int[][] DEBT_TRACES = {{6}, {7, 6}, {8, 7, 6, 6}};

    private void leave(int... numbers) {
        for (int n : numbers) trace = trace * 31 + n;
    }

    int tell(int what, int x) {
        if (!in(what, 0, 1)) return OUTSIDE;
        if (what == 0) {
            if (!there(packs, x)) return UNKNOWN;
            int kind = packs.get(x).kind;
            leave(PACK_TRACES[kind]);
            return new int[] {ofPack(x), ofPack(x) + 10, 2 * ofPack(x) + 10}[kind];
        }
        if (!there(debts, x)) return UNKNOWN;
        int kind = debts.get(x).kind;
        leave(DEBT_TRACES[kind]);
        int coin = debts.get(x).coin;
        return new int[] {coin, coin + 1, 2 * coin + 1}[kind];
    }

    int show(int p) {
        if (!there(packs, p)) return UNKNOWN;
        leave(packs.get(p).kind == 2 ? 5 : 4);
        return packs.get(p).kind == 2 ? 60 : p;
    }

    int taken(int what, int x, int kind) {
        fault = 0;
        if (!in(what, 0, 1) || !in(kind, 0, 2)) return OUTSIDE;
        if (what == 0 ? !there(packs, x) : !there(debts, x)) return UNKNOWN;
        int own = what == 0 ? packs.get(x).kind : debts.get(x).kind;
        return own < kind ? fail(2) : 1;
    }

    int trace() {
        return trace;
    }

    int fault() {
        return fault;
    }

    int many(int what) {
        if (!in(what, 0, 9)) return OUTSIDE;
        return new int[] {places.size(), bands.size(), houses.size(), stays.size(), packs.size(), entries.size(),
            texts.size(), debts.size(), rounds.size(), offers.size()}[what];
    }
}
