/**
 * Pedlars of a land: their packs, news, texts, debts, shares, rounds and plans, as ../shared/DOC.md promises.
 *
 * All rows are made with the object and used again, so that no call makes an object.
 */
public final class PedlarBook {
    public static final int UNKNOWN = -1, OUTSIDE = -2, STATE = -3, FULL = -4, NONE = -9;
    public static final long LOST = Long.MIN_VALUE;

    private static final int DAYS = 10000, LANDS = 6, GOODS = 8, KINDS = 3, LANES = 3, CUSTOM = -1;
    private static final int NULL_FAULT = 1, CAST_FAULT = 2, INDEX_FAULT = 3, SIZE_FAULT = 4;
    private static final int CALLS = 512;

    private final Roll roll = new Roll();
    private final Spans stays = new Spans(40);
    private final Spans licences = new Spans(12);
    private final Spans rights = new Spans(20);
    private final Packs packs = new Packs();
    private final Ledger ledger = new Ledger();
    private final News news = new News();
    private final Texts texts = new Texts();
    private final Debts debts = new Debts();
    private final Owed owed = new Owed();
    private final Rounds rounds = new Rounds();
    private final Offers offers = new Offers();
    private final Sheets sheets = new Sheets();
    private int latestFault;
    private int traced;

    public PedlarBook() {
    }

    // ---- 1 packs

    public int place(int land) {
        if (!isBelow(land, LANDS)) return OUTSIDE;
        return roll.addPlace(land);
    }

    public int band(int men, int boys) {
        if (!isBelow(men, 10) || !isBelow(boys, 10)) return OUTSIDE;
        return roll.addBand(men, boys);
    }

    public int house(int trust) {
        if (!isBelow(trust, 1000001)) return OUTSIDE;
        return roll.addHouse(trust);
    }

    public int walk(int band, int place, int from, int to) {
        if (!roll.hasBand(band) || !roll.hasPlace(place)) return UNKNOWN;
        if (!areDays(from, to)) return OUTSIDE;
        if (stays.sharesDay(band, from, to)) return STATE;
        news.fresh = false;
        return stays.add(band, place, from, to);
    }

    public int day(int band, int day) {
        if (!roll.hasBand(band)) return UNKNOWN;
        if (!isBelow(day, DAYS)) return OUTSIDE;
        return stays.whatOn(band, day);
    }

    public int meet(int a, int b, int day) {
        if (!roll.hasBand(a) || !roll.hasBand(b)) return UNKNOWN;
        if (!isBelow(day, DAYS) || a == b) return OUTSIDE;
        return stays.firstTogether(a, b, day);
    }

    public int pack(int kind, int band, int house) {
        if (!roll.hasBand(band) || !roll.hasHouse(house)) return UNKNOWN;
        if (!isBelow(kind, KINDS)) return OUTSIDE;
        return packs.add(kind, band, house);
    }

    public int entry(int pack, int kind, int good, int many, int coin, int day) {
        if (!packs.has(pack)) return UNKNOWN;
        news.fresh = false;
        return ledger.add(pack, kind, good, many, coin, day);
    }

    public int entries(int pack, int sheet, int lane, int i, int n) {
        latestFault = 0;
        if (!packs.has(pack) || !sheets.has(sheet)) return UNKNOWN;
        if (!isBelow(lane, LANES)) return OUTSIDE;
        int found = sheets.takingFault(sheet, lane, i, 4L * n);
        if (found != 0) return faulted(found);
        return enterRows(pack, sheet, i, n);
    }

    /** A refused row takes back the ones ahead of it, since all that an ENTRY changes is in the ledger's rows. */
    private int enterRows(int pack, int sheet, int i, int n) {
        news.fresh = false;
        int before = ledger.count;
        for (int row = 0; row < n; row++) {
            int at = i + 4 * row;
            int answer = ledger.add(pack, sheets.valueAt(sheet, at), sheets.valueAt(sheet, at + 1),
                    sheets.valueAt(sheet, at + 2), 1, sheets.valueAt(sheet, at + 3));
            if (answer < 0) {
                ledger.count = before;
                return answer;
            }
        }
        return ledger.countOf(pack);
    }

    public int told(int e, int what) {
        if (!isBelow(e, ledger.count)) return UNKNOWN;
        switch (what) {
            case 0: return ledger.packs[e];
            case 1: return ledger.kinds[e];
            case 2: return ledger.goods[e];
            case 3: return ledger.manys[e];
            case 4: return ledger.coins[e];
            case 5: return ledger.days[e];
            default: return OUTSIDE;
        }
    }

    public int held(int pack, int good, int d) {
        if (!packs.has(pack)) return UNKNOWN;
        if (!isBelow(good, GOODS) || !isBelow(d, DAYS)) return OUTSIDE;
        return ledger.heldOn(pack, good, d);
    }

    // ---- 2 known

    public int known(int e, int band) {
        if (!isBelow(e, ledger.count) || !isKnower(band)) return UNKNOWN;
        news.learn(stays, ledger, packs);
        return news.firstDay(e, knower(band));
    }

    public int as(int pack, int good, int d, int k) {
        if (!packs.has(pack)) return UNKNOWN;
        if (!isBelow(good, GOODS) || !isBelow(d, DAYS) || !isBelow(k, DAYS)) return OUTSIDE;
        news.learn(stays, ledger, packs);
        int sum = 0;
        for (int e = 0; e < ledger.count; e++) {
            if (news.isKnownOn(e, News.VILLAGE, k)) sum += ledger.change(e, pack, good, d);
        }
        return sum;
    }

    public int knows(int band, int day) {
        if (!isKnower(band)) return UNKNOWN;
        if (!isBelow(day, DAYS)) return OUTSIDE;
        news.learn(stays, ledger, packs);
        int sum = 0;
        for (int e = 0; e < ledger.count; e++) {
            if (news.isKnownOn(e, knower(band), day)) sum++;
        }
        return sum;
    }

    private boolean isKnower(int band) {
        return band == -1 || roll.hasBand(band);
    }

    private static int knower(int band) {
        return band == -1 ? News.VILLAGE : band;
    }

    // ---- 3 texts

    public int text(int land, int from, int to, int sheet, int lane, int i, int n) {
        latestFault = 0;
        if (!sheets.has(sheet)) return UNKNOWN;
        if (land != CUSTOM && !isBelow(land, LANDS)) return OUTSIDE;
        if (!areDays(from, to) || !isBelow(lane, LANES)) return OUTSIDE;
        int found = sheets.takingFault(sheet, lane, i, n);
        if (found != 0) return faulted(found);
        int wrong = texts.read(sheets, sheet, i, n);
        if (wrong != NONE) return -100 - wrong;
        return texts.keep(land, from, to);
    }

    public int force(int letter, int land, int day) {
        if (!isBelow(letter, Texts.FIRST_GOOD) || !isBelow(land, LANDS) || !isBelow(day, DAYS)) return OUTSIDE;
        return texts.valueIn(letter, land, day);
    }

    public int bar(int good, int land, int day) {
        if (!isBelow(good, GOODS) || !isBelow(land, LANDS) || !isBelow(day, DAYS)) return OUTSIDE;
        return texts.valueIn(Texts.FIRST_GOOD + good, land, day);
    }

    public int why(int letter, int good, int land, int day) {
        int subject = subjectOf(letter, good);
        if (subject == NONE || !isBelow(land, LANDS) || !isBelow(day, DAYS)) return OUTSIDE;
        return texts.textOf(texts.clauseIn(subject, land, day));
    }

    public int quarrel(int letter, int good, int land, int day) {
        int subject = subjectOf(letter, good);
        if (subject == NONE || !isBelow(land, LANDS) || !isBelow(day, DAYS)) return OUTSIDE;
        return texts.doQuarrel(subject, land, day) ? 1 : 0;
    }

    private static int subjectOf(int letter, int good) {
        if (isBelow(letter, Texts.FIRST_GOOD)) return letter;
        if (letter == Texts.FIRST_GOOD && isBelow(good, GOODS)) return Texts.FIRST_GOOD + good;
        return NONE;
    }

    // ---- 4 licences, debts, credit

    public int licence(int band, int land, int from, int to) {
        if (!roll.hasBand(band)) return UNKNOWN;
        if (!isBelow(land, LANDS) || !areDays(from, to)) return OUTSIDE;
        return licences.add(band, land, from, to);
    }

    public int unallowed(int pack) {
        if (!packs.has(pack)) return UNKNOWN;
        int sum = 0;
        for (int e = 0; e < ledger.count; e++) {
            if (ledger.packs[e] == pack && ledger.kinds[e] == Ledger.SOLD && !isAllowed(e, packs.bands[pack])) sum++;
        }
        return sum;
    }

    private boolean isAllowed(int e, int band) {
        int day = ledger.days[e];
        int place = stays.whatOn(band, day);
        if (!roll.hasPlace(place)) return true;
        int land = roll.lands[place];
        int status = texts.valueIn(Texts.FIRST_GOOD + ledger.goods[e], land, day);
        if (status == Texts.BY_LICENCE) return licences.hasOn(band, land, day);
        return status == Texts.FREE;
    }

    public int door(int kind, int place, int pack, int coin, int day) {
        if (!roll.hasPlace(place) || !packs.has(pack)) return UNKNOWN;
        if (!isBelow(kind, KINDS) || coin < 1 || coin > 9999 || !isBelow(day, DAYS)) return OUTSIDE;
        return debts.add(kind, place, pack, coin, day, packs.bands[pack]);
    }

    public int due(int x, int what) {
        if (!isBelow(x, debts.count)) return UNKNOWN;
        switch (what) {
            case 0: return debts.kinds[x];
            case 1: return debts.places[x];
            case 2: return debts.packs[x];
            case 3: return debts.coins[x];
            case 4: return debts.days[x];
            case 5: return barredFrom(x);
            case 6: return debts.paids[x];
            case 7: return debts.owners[x];
            default: return OUTSIDE;
        }
    }

    /** By the TEXTS that there are now: one that comes later may bar a DEBT that is there. */
    private int barredFrom(int x) {
        int limit = texts.valueIn(Texts.LIMIT, landOfDebt(x), debts.days[x]);
        return limit == 0 ? NONE : debts.days[x] + limit;
    }

    private boolean isBarred(int x, int day) {
        int from = barredFrom(x);
        return from != NONE && day >= from;
    }

    private int landOfDebt(int x) {
        int place = debts.places[x];
        return roll.hasPlace(place) ? roll.lands[place] : NONE;
    }

    public int paid(int x, int coin, int day) {
        if (!isBelow(x, debts.count)) return UNKNOWN;
        if (coin < 1 || !isBelow(day, DAYS)) return OUTSIDE;
        if (isBarred(x, day) || coin > debts.left(x) || day < debts.days[x]) return STATE;
        debts.paids[x] += coin;
        return debts.left(x);
    }

    public int dead(int band, int day) {
        if (!roll.hasBand(band)) return UNKNOWN;
        if (!isBelow(day, DAYS)) return OUTSIDE;
        int gone = 0;
        for (int x = 0; x < debts.count; x++) {
            if (debts.isLeftBy(band, x, day) && !isBarred(x, day) && passesOn(x, day)) gone++;
        }
        return gone;
    }

    private boolean passesOn(int x, int day) {
        int land = landOfDebt(x);
        int heir = texts.valueIn(Texts.HEIR, land, day);
        int pack = debts.packs[x];
        if (heir == 0 || !packs.has(pack)) return false;
        debts.owners[x] = heir == 1 ? Owed.FIRST_HOUSE + packs.houses[pack] : Owed.PARTIES + land;
        return true;
    }

    public int send(int pack, int coin, int day) {
        if (!packs.has(pack)) return UNKNOWN;
        if (coin < 1 || coin > 99999 || !isBelow(day, DAYS)) return OUTSIDE;
        return packs.addSending(pack, coin, day);
    }

    public long credit(int pack, int day) {
        if (!packs.has(pack) || !isBelow(day, DAYS)) return LOST;
        long sum = 0;
        for (int e = 0; e < ledger.count; e++) {
            if (ledger.packs[e] != pack || ledger.kinds[e] != Ledger.TAKEN || ledger.days[e] > day) continue;
            long worth = ledger.worth(e);
            long price = texts.valueIn(Texts.PRICE, CUSTOM, ledger.days[e]);
            sum += worth + worth * price * (day - ledger.days[e]) / 10000;
        }
        return Math.max(0L, sum - packs.sentBy(pack, day));
    }

    // ---- 5 shares, rings, falls

    public int share(int band, int from, int to, int who) {
        if (!roll.hasBand(band)) return UNKNOWN;
        if (!isBelow(who, 4) || !areDays(from, to)) return OUTSIDE;
        int all = gainOf(band, from, to);
        if (who == 0) return all;
        int rest = all - all * texts.valueIn(Texts.SHARE, CUSTOM, to) / 10;
        int men = roll.men[band];
        int boys = roll.boys[band];
        int parts = 2 * men + boys;
        int man = parts == 0 ? 0 : 2 * rest / parts;
        int boy = parts == 0 ? 0 : rest / parts;
        if (who == 2) return man;
        if (who == 3) return boy;
        return all - men * man - boys * boy;
    }

    private int gainOf(int band, int from, int to) {
        int sum = 0;
        for (int e = 0; e < ledger.count; e++) {
            int pack = ledger.packs[e];
            if (!packs.has(pack) || packs.bands[pack] != band) continue;
            if (ledger.days[e] < from || ledger.days[e] > to) continue;
            if (ledger.kinds[e] == Ledger.SOLD) sum += ledger.worth(e);
            if (ledger.kinds[e] == Ledger.BOUGHT) sum -= ledger.worth(e);
        }
        return Math.max(0, sum);
    }

    public int owe(int by, int to, int v) {
        if (!areParties(by, to) || by == to || !isBelow(v, 100000)) return OUTSIDE;
        return owed.change(by, to, v);
    }

    public int owes(int by, int to) {
        if (!areParties(by, to)) return OUTSIDE;
        return owed.owing[by * Owed.PARTIES + to];
    }

    public int ring() {
        return owed.cancelRings();
    }

    public int party(int p, int what, int v) {
        if (!isBelow(p, Owed.PARTIES)) return OUTSIDE;
        if (what == 0 && isBelow(v, 100000)) return owed.changeCoin(p, v);
        if (what == 1 && isBelow(v, Owed.RANKS)) return owed.changeRank(p, v);
        return OUTSIDE;
    }

    public int pays(int by, int to) {
        if (!areParties(by, to)) return OUTSIDE;
        owed.settle();
        return owed.paying[by * Owed.PARTIES + to];
    }

    public int ruin() {
        owed.settle();
        return owed.fallen();
    }

    /** One PARTY may stand on both sides: only owe() refuses that, so it owes and pays itself 0. */
    private static boolean areParties(int by, int to) {
        return isBelow(by, Owed.PARTIES) && isBelow(to, Owed.PARTIES);
    }

    // ---- 6 rounds, plans

    public int round(int sheet, int lane, int i, int n) {
        latestFault = 0;
        if (!sheets.has(sheet)) return UNKNOWN;
        if (!isBelow(lane, LANES)) return OUTSIDE;
        int found = sheets.takingFault(sheet, lane, i, n);
        if (found != 0) return faulted(found);
        if (n < 1 || n > Rounds.MOST_STOPS) return OUTSIDE;
        for (int stop = 0; stop < n; stop++) {
            if (!roll.hasPlace(sheets.valueAt(sheet, i + stop))) return UNKNOWN;
        }
        return rounds.add(sheets, sheet, i, n);
    }

    /** How a RIGHT was got is looked at and not kept, since no call asks for it. */
    public int right(int band, int round, int how, int from, int to) {
        if (!roll.hasBand(band) || !rounds.has(round)) return UNKNOWN;
        if (!isBelow(how, 3) || !areDays(from, to)) return OUTSIDE;
        return rights.add(band, round, from, to);
    }

    public int holder(int round, int day) {
        if (!rounds.has(round)) return UNKNOWN;
        if (!isBelow(day, DAYS)) return OUTSIDE;
        return rights.latestWho(round, day);
    }

    public int two(int round) {
        if (!rounds.has(round)) return UNKNOWN;
        return rights.daysOfTwo(round);
    }

    public int walked(int round, int band, int from, int to) {
        if (!roll.hasBand(band) || !rounds.has(round)) return UNKNOWN;
        if (!areDays(from, to)) return OUTSIDE;
        int latest = -1;
        for (int stop = 0; stop < rounds.lengths[round]; stop++) {
            latest = stays.firstWithin(band, rounds.stopAt(round, stop), Math.max(from, latest + 1), to);
            if (latest == NONE) return 0;
        }
        return 1;
    }

    public int offer(int band, int house, int round, int credit, int gain) {
        if (!roll.hasBand(band) || !roll.hasHouse(house) || !rounds.has(round)) return UNKNOWN;
        if (!isBelow(credit, 1000000) || gain < -99999 || gain > 99999) return OUTSIDE;
        return offers.add(band, house, round, credit, gain);
    }

    public int best(int what) {
        if (!isBelow(what, 2)) return OUTSIDE;
        offers.plan(roll);
        return what == 0 ? offers.bestSet : offers.bestGain;
    }

    public int judge(int set) {
        if (!isBelow(set, 1 << offers.count)) return OUTSIDE;
        return offers.mayBe(set, roll) ? 1 : 0;
    }

    // ---- sheets, parts

    public int sheet(int k, int lane, int n) {
        latestFault = 0;
        if (!sheets.has(k)) return UNKNOWN;
        if (!isBelow(lane, LANES) || n > Sheets.MOST_CELLS) return OUTSIDE;
        if (n < 0) return faulted(SIZE_FAULT);
        sheets.renew(k, lane, n);
        return 1;
    }

    public int lose(int k) {
        if (!sheets.has(k)) return UNKNOWN;
        int had = sheets.isNothing(k) ? 0 : 1;
        sheets.sizes[k] = NONE;
        return had;
    }

    public int put(int k, int i, int v) {
        latestFault = 0;
        if (!sheets.has(k)) return UNKNOWN;
        if (sheets.isNothing(k)) return faulted(NULL_FAULT);
        if (!isBelow(i, sheets.sizes[k])) return faulted(INDEX_FAULT);
        sheets.write(k, i, v);
        return 1;
    }

    public long cell(int k, int i, int lane) {
        latestFault = 0;
        if (!sheets.has(k) || !isBelow(lane, LANES)) return LOST;
        latestFault = sheets.takingFault(k, lane, i, 1);
        return latestFault == 0 ? sheets.valueAt(k, i) : LOST;
    }

    public int copy(int k, int i, int other, int j, int n) {
        latestFault = 0;
        if (!sheets.has(k) || !sheets.has(other)) return UNKNOWN;
        if (sheets.isNothing(k) || sheets.isNothing(other)) return faulted(NULL_FAULT);
        if (sheets.lanes[k] != sheets.lanes[other]) return faulted(CAST_FAULT);
        if (!sheets.hasCells(k, i, n) || !sheets.hasCells(other, j, n)) return faulted(INDEX_FAULT);
        sheets.carry(k, i, other, j, n);
        return n;
    }

    public int tell(int what, int x) {
        if (!isBelow(what, 2)) return OUTSIDE;
        if (!isThere(what, x)) return UNKNOWN;
        return what == 0 ? tellingOfPack(x) : tellingOfDebt(x);
    }

    private int tellingOfPack(int p) {
        switch (packs.kinds[p]) {
            case 0: return bodyOfPack(p);
            case 1: return bodyOfRound(p);
            default: return bodyOfBought(p);
        }
    }

    private int bodyOfPack(int p) {
        leave(1);
        return ledger.countOf(p);
    }

    private int bodyOfRound(int p) {
        leave(2);
        return bodyOfPack(p) + 10;
    }

    private int bodyOfBought(int p) {
        leave(3);
        int asRound = bodyOfRound(p);
        return asRound + bodyOfPack(p);
    }

    private int tellingOfDebt(int x) {
        switch (debts.kinds[x]) {
            case 0: return bodyOfDoor(x);
            case 1: return bodyOfLeft(x);
            default: return bodyOfRags(x);
        }
    }

    private int bodyOfDoor(int x) {
        leave(6);
        return debts.coins[x];
    }

    private int bodyOfLeft(int x) {
        leave(7);
        return bodyOfDoor(x) + 1;
    }

    private int bodyOfRags(int x) {
        leave(8);
        int asLeft = bodyOfLeft(x);
        return asLeft + bodyOfDoor(x);
    }

    private void leave(int number) {
        traced = 31 * traced + number;
    }

    public int show(int p) {
        if (!packs.has(p)) return UNKNOWN;
        boolean own = packs.kinds[p] == 2;
        leave(own ? 5 : 4);
        return own ? 60 : p;
    }

    public int taken(int what, int x, int kind) {
        latestFault = 0;
        if (!isBelow(what, 2) || !isBelow(kind, KINDS)) return OUTSIDE;
        if (!isThere(what, x)) return UNKNOWN;
        int own = what == 0 ? packs.kinds[x] : debts.kinds[x];
        return own >= kind ? 1 : faulted(CAST_FAULT);
    }

    private boolean isThere(int what, int x) {
        return what == 0 ? packs.has(x) : isBelow(x, debts.count);
    }

    public int trace() {
        return traced;
    }

    public int fault() {
        return latestFault;
    }

    public int many(int what) {
        switch (what) {
            case 0: return roll.places;
            case 1: return roll.bands;
            case 2: return roll.houses;
            case 3: return stays.count;
            case 4: return packs.count;
            case 5: return ledger.count;
            case 6: return texts.count;
            case 7: return debts.count;
            case 8: return rounds.count;
            case 9: return offers.count;
            default: return OUTSIDE;
        }
    }

    private int faulted(int found) {
        latestFault = found;
        return -10 - found;
    }

    private static boolean isBelow(int x, int bound) {
        return x >= 0 && x < bound;
    }

    private static boolean areDays(int from, int to) {
        return from >= 0 && from <= to && to < DAYS;
    }

    /** PLACES, BANDS and HOUSES, each numbered as it comes. */
    static final class Roll {
        final int[] lands = new int[16];
        final int[] men = new int[6];
        final int[] boys = new int[6];
        final int[] trusts = new int[4];
        int places;
        int bands;
        int houses;

        int addPlace(int land) {
            if (places >= lands.length) return FULL;
            lands[places] = land;
            return places++;
        }

        int addBand(int newMen, int newBoys) {
            if (bands >= men.length) return FULL;
            men[bands] = newMen;
            boys[bands] = newBoys;
            return bands++;
        }

        int addHouse(int trust) {
            if (houses >= trusts.length) return FULL;
            trusts[houses] = trust;
            return houses++;
        }

        boolean hasPlace(int p) {
            return isBelow(p, places);
        }

        boolean hasBand(int b) {
            return isBelow(b, bands);
        }

        boolean hasHouse(int h) {
            return isBelow(h, houses);
        }
    }

    /** Who has what from a DAY to a DAY: STAYS (a BAND, a PLACE), LICENCES (a BAND, a LAND), RIGHTS (a BAND, a ROUND). */
    static final class Spans {
        final int[] whos;
        final int[] whats;
        final int[] froms;
        final int[] tos;
        int count;

        Spans(int room) {
            int most = Math.max(0, room);
            whos = new int[most];
            whats = new int[most];
            froms = new int[most];
            tos = new int[most];
        }

        int add(int who, int what, int from, int to) {
            if (count >= whos.length) return FULL;
            whos[count] = who;
            whats[count] = what;
            froms[count] = from;
            tos[count] = to;
            count++;
            return count;
        }

        boolean covers(int s, int day) {
            return froms[s] <= day && day <= tos[s];
        }

        boolean sharesDay(int who, int from, int to) {
            for (int s = 0; s < count; s++) {
                if (whos[s] == who && froms[s] <= to && from <= tos[s]) return true;
            }
            return false;
        }

        int whatOn(int who, int day) {
            for (int s = 0; s < count; s++) {
                if (whos[s] == who && covers(s, day)) return whats[s];
            }
            return NONE;
        }

        boolean hasOn(int who, int what, int day) {
            for (int s = 0; s < count; s++) {
                if (whos[s] == who && whats[s] == what && covers(s, day)) return true;
            }
            return false;
        }

        int latestWho(int what, int day) {
            for (int s = count - 1; s >= 0; s--) {
                if (whats[s] == what && covers(s, day)) return whos[s];
            }
            return NONE;
        }

        int firstTogether(int a, int b, int day) {
            int first = NONE;
            for (int s = 0; s < count; s++) {
                if (whos[s] != a || tos[s] < day) continue;
                int together = firstBeside(s, b, Math.max(day, froms[s]));
                if (together != NONE && (first == NONE || together < first)) first = together;
            }
            return first;
        }

        private int firstBeside(int s, int who, int day) {
            int first = NONE;
            for (int t = 0; t < count; t++) {
                if (whos[t] != who || whats[t] != whats[s]) continue;
                int start = Math.max(day, froms[t]);
                boolean both = start <= tos[s] && start <= tos[t];
                if (both && (first == NONE || start < first)) first = start;
            }
            return first;
        }

        /** The first DAY of the first span of who and what that lies in these DAYS. */
        int firstWithin(int who, int what, int from, int to) {
            int first = NONE;
            for (int s = 0; s < count; s++) {
                if (whos[s] != who || whats[s] != what || froms[s] < from || tos[s] > to) continue;
                if (first == NONE || froms[s] < first) first = froms[s];
            }
            return first;
        }

        /** From one DAY on which a span begins or has ended to the next, since between them nothing changes. */
        int daysOfTwo(int what) {
            int sum = 0;
            int day = 0;
            for (int turn = 0; turn <= 2 * count && day < DAYS; turn++) {
                int next = nextTurn(what, day);
                if (Integer.bitCount(whosOn(what, day)) >= 2) sum += next - day;
                day = next;
            }
            return sum;
        }

        private int nextTurn(int what, int day) {
            int next = DAYS;
            for (int s = 0; s < count; s++) {
                if (whats[s] != what) continue;
                if (froms[s] > day && froms[s] < next) next = froms[s];
                if (tos[s] >= day && tos[s] + 1 < next) next = tos[s] + 1;
            }
            return next;
        }

        private int whosOn(int what, int day) {
            int bits = 0;
            for (int s = 0; s < count; s++) {
                if (whats[s] == what && covers(s, day)) bits |= 1 << whos[s];
            }
            return bits;
        }
    }

    /** PACKS, and what was sent for them. */
    static final class Packs {
        final int[] kinds = new int[12];
        final int[] bands = new int[12];
        final int[] houses = new int[12];
        int count;
        final int[] sentFor = new int[CALLS];
        final int[] sentCoins = new int[CALLS];
        final int[] sentDays = new int[CALLS];
        int sendings;

        int add(int kind, int band, int house) {
            if (count >= kinds.length) return FULL;
            kinds[count] = kind;
            bands[count] = band;
            houses[count] = house;
            return count++;
        }

        boolean has(int p) {
            return isBelow(p, count);
        }

        int addSending(int pack, int coin, int day) {
            if (sendings >= sentFor.length) return FULL;
            sentFor[sendings] = pack;
            sentCoins[sendings] = coin;
            sentDays[sendings] = day;
            sendings++;
            return sentBy(pack, DAYS);
        }

        int sentBy(int pack, int day) {
            int sum = 0;
            for (int s = 0; s < sendings; s++) {
                if (sentFor[s] == pack && sentDays[s] <= day) sum += sentCoins[s];
            }
            return sum;
        }
    }

    /** ENTRIES of all PACKS, as they come. */
    static final class Ledger {
        static final int TAKEN = 0, BOUGHT = 1, SOLD = 2, ENTRY_KINDS = 5, MOST_ENTRIES = 60;

        final int[] packs = new int[MOST_ENTRIES];
        final int[] kinds = new int[MOST_ENTRIES];
        final int[] goods = new int[MOST_ENTRIES];
        final int[] manys = new int[MOST_ENTRIES];
        final int[] coins = new int[MOST_ENTRIES];
        final int[] days = new int[MOST_ENTRIES];
        int count;

        int add(int pack, int kind, int good, int many, int coin, int day) {
            if (!isBelow(kind, ENTRY_KINDS) || !isBelow(good, GOODS) || many < 1 || many > 99) return OUTSIDE;
            boolean priced = kind <= SOLD;
            if (priced && !isBelow(coin, 1000) || !isBelow(day, DAYS)) return OUTSIDE;
            if (day < latestDay(pack)) return STATE;
            if (kind >= SOLD && heldOn(pack, good, DAYS) < many) return STATE;
            if (count >= MOST_ENTRIES) return FULL;
            packs[count] = pack;
            kinds[count] = kind;
            goods[count] = good;
            manys[count] = many;
            coins[count] = priced ? coin : 0;
            days[count] = day;
            return count++;
        }

        private int latestDay(int pack) {
            for (int e = count - 1; e >= 0; e--) {
                if (packs[e] == pack) return days[e];
            }
            return NONE;
        }

        int countOf(int pack) {
            int sum = 0;
            for (int e = 0; e < count; e++) {
                if (packs[e] == pack) sum++;
            }
            return sum;
        }

        int heldOn(int pack, int good, int day) {
            int sum = 0;
            for (int e = 0; e < count; e++) sum += change(e, pack, good, day);
            return sum;
        }

        /** What an ENTRY changes in HELD of a GOOD in a PACK by a DAY. */
        int change(int e, int pack, int good, int day) {
            if (packs[e] != pack || goods[e] != good || days[e] > day) return 0;
            return kinds[e] < SOLD ? manys[e] : -manys[e];
        }

        int worth(int e) {
            return manys[e] * coins[e];
        }
    }

    /** Who knows which ENTRY since when; gone through anew only after an ENTRY or a STAY has come. */
    static final class News {
        static final int VILLAGE = 6, KNOWERS = 7;

        final int[] firsts = new int[Ledger.MOST_ENTRIES * KNOWERS];
        final long[] heads = new long[KNOWERS];
        final long[] noted = new long[KNOWERS];
        final int[] spots = new int[KNOWERS];
        boolean fresh;

        int firstDay(int e, int knower) {
            return firsts[e * KNOWERS + knower];
        }

        boolean isKnownOn(int e, int knower, int day) {
            int first = firstDay(e, knower);
            return first != NONE && first <= day;
        }

        /** Only a DAY with a new ENTRY, or one on which a STAY begins, can make anything known. */
        void learn(Spans stays, Ledger ledger, Packs packs) {
            if (fresh) return;
            forget();
            int most = stays.count + ledger.count;
            int day = nextDay(-1, stays, ledger);
            for (int turn = 0; turn < most && day < DAYS; turn++) {
                hearOwn(day, ledger, packs);
                stand(day, stays);
                speak();
                for (int who = 0; who < KNOWERS; who++) note(who, day, ledger.count);
                day = nextDay(day, stays, ledger);
            }
            fresh = true;
        }

        private void forget() {
            for (int at = 0; at < firsts.length; at++) firsts[at] = NONE;
            for (int who = 0; who < KNOWERS; who++) {
                heads[who] = 0L;
                noted[who] = 0L;
            }
        }

        private static int nextDay(int day, Spans stays, Ledger ledger) {
            int next = DAYS;
            for (int s = 0; s < stays.count; s++) {
                if (stays.froms[s] > day && stays.froms[s] < next) next = stays.froms[s];
            }
            for (int e = 0; e < ledger.count; e++) {
                if (ledger.days[e] > day && ledger.days[e] < next) next = ledger.days[e];
            }
            return next;
        }

        private void hearOwn(int day, Ledger ledger, Packs packs) {
            for (int e = 0; e < ledger.count; e++) {
                int pack = ledger.packs[e];
                if (ledger.days[e] == day && packs.has(pack)) heads[packs.bands[pack]] |= 1L << e;
            }
        }

        private void stand(int day, Spans stays) {
            for (int who = 0; who < VILLAGE; who++) spots[who] = NONE;
            spots[VILLAGE] = 0;
            for (int s = 0; s < stays.count; s++) {
                if (stays.covers(s, day)) spots[stays.whos[s]] = stays.whats[s];
            }
        }

        private void speak() {
            for (int from = 0; from < KNOWERS; from++) {
                if (spots[from] == NONE || heads[from] == 0L) continue;
                for (int to = 0; to < KNOWERS; to++) {
                    if (spots[to] == spots[from]) heads[to] |= heads[from];
                }
            }
        }

        private void note(int who, int day, int count) {
            long fresher = heads[who] & ~noted[who];
            if (fresher == 0L) return;
            for (int e = 0; e < count; e++) {
                if ((fresher >> e & 1L) != 0L) firsts[e * KNOWERS + who] = day;
            }
            noted[who] = heads[who];
        }
    }

    /**
     * CUSTOM and LAWS. A clause tells of a subject: 0 s, 1 p, 2 y, 3 h, and FIRST_GOOD and the GOOD for b, u, f,
     * which are values of one subject.
     */
    static final class Texts {
        static final int SHARE = 0, PRICE = 1, LIMIT = 2, HEIR = 3, FIRST_GOOD = 4;
        static final int FREE = 0, BY_LICENCE = 2;
        static final int MOST_CLAUSES = 6, MOST_DIGITS = 4, SEMICOLON = 59, DIGIT_0 = 48, DIGIT_9 = 57;

        /** s, p, y, h; then f, b, u, in the order of what bar() answers. */
        private static final int[] LETTERS = {115, 112, 121, 104, 102, 98, 117};
        private static final int[] LEAST = {0, 0, 1, 0, 0, 0, 0};
        private static final int[] MOST = {10, 99, 9999, 2, 7, 7, 7};

        final int[] lands = new int[10];
        final int[] froms = new int[10];
        final int[] tos = new int[10];
        final int[] lengths = new int[10];
        final int[] subjects = new int[10 * MOST_CLAUSES];
        final int[] values = new int[10 * MOST_CLAUSES];
        int count;
        final int[] readSubjects = new int[MOST_CLAUSES];
        final int[] readValues = new int[MOST_CLAUSES];
        int readLength;

        /** The clauses are read beside the TEXTS, since a fault in them is told even when no more TEXT can come. */
        int read(Sheets sheets, int sheet, int i, int n) {
            readLength = 0;
            int at = 0;
            for (int clause = 1; clause <= MOST_CLAUSES; clause++) {
                int letter = at < n ? letterOf(sheets.valueAt(sheet, i + at)) : NONE;
                if (letter == NONE) return at;
                at++;
                int digits = digitsFrom(sheets, sheet, i + at, n - at);
                int number = numberOf(sheets, sheet, i + at, digits);
                if (digits == 0 || number < LEAST[letter] || number > MOST[letter]) return at;
                addRead(letter, number);
                at += digits;
                if (at >= n) return NONE;
                if (sheets.valueAt(sheet, i + at) != SEMICOLON || clause == MOST_CLAUSES) return at;
                at++;
            }
            return at;
        }

        private static int letterOf(int code) {
            for (int letter = 0; letter < LETTERS.length; letter++) {
                if (LETTERS[letter] == code) return letter;
            }
            return NONE;
        }

        private static int digitsFrom(Sheets sheets, int sheet, int from, int room) {
            int most = Math.min(MOST_DIGITS, room);
            for (int d = 0; d < most; d++) {
                int code = sheets.valueAt(sheet, from + d);
                if (code < DIGIT_0 || code > DIGIT_9) return d;
            }
            return most;
        }

        private static int numberOf(Sheets sheets, int sheet, int from, int digits) {
            int number = 0;
            for (int d = 0; d < digits; d++) number = 10 * number + sheets.valueAt(sheet, from + d) - DIGIT_0;
            return number;
        }

        private void addRead(int letter, int number) {
            if (readLength >= MOST_CLAUSES) return;
            boolean ofGood = letter >= FIRST_GOOD;
            readSubjects[readLength] = ofGood ? FIRST_GOOD + number : letter;
            readValues[readLength] = ofGood ? letter - FIRST_GOOD : number;
            readLength++;
        }

        int keep(int land, int from, int to) {
            if (count >= lands.length) return FULL;
            lands[count] = land;
            froms[count] = from;
            tos[count] = to;
            lengths[count] = readLength;
            for (int c = 0; c < readLength; c++) {
                subjects[count * MOST_CLAUSES + c] = readSubjects[c];
                values[count * MOST_CLAUSES + c] = readValues[c];
            }
            return count++;
        }

        /** The clause by which LAWS of a LAND alone, or CUSTOM alone, tell of a subject on a DAY. */
        private int clauseBy(int subject, int land, int day) {
            for (int t = count - 1; t >= 0; t--) {
                if (lands[t] != land || froms[t] > day || tos[t] < day) continue;
                for (int c = lengths[t] - 1; c >= 0; c--) {
                    if (subjects[t * MOST_CLAUSES + c] == subject) return t * MOST_CLAUSES + c;
                }
            }
            return NONE;
        }

        int clauseIn(int subject, int land, int day) {
            int byLaw = clauseBy(subject, land, day);
            return byLaw != NONE ? byLaw : clauseBy(subject, CUSTOM, day);
        }

        int textOf(int clause) {
            return clause == NONE ? NONE : clause / MOST_CLAUSES;
        }

        int valueIn(int subject, int land, int day) {
            int clause = clauseIn(subject, land, day);
            if (clause != NONE) return values[clause];
            return subject == SHARE ? 4 : 0;
        }

        boolean doQuarrel(int subject, int land, int day) {
            int byLaw = clauseBy(subject, land, day);
            int byCustom = clauseBy(subject, CUSTOM, day);
            return byLaw != NONE && byCustom != NONE && values[byLaw] != values[byCustom];
        }
    }

    /** DEBTS at doors. */
    static final class Debts {
        final int[] kinds = new int[20];
        final int[] places = new int[20];
        final int[] packs = new int[20];
        final int[] coins = new int[20];
        final int[] days = new int[20];
        final int[] paids = new int[20];
        final int[] owners = new int[20];
        int count;

        int add(int kind, int place, int pack, int coin, int day, int owner) {
            if (count >= kinds.length) return FULL;
            kinds[count] = kind;
            places[count] = place;
            packs[count] = pack;
            coins[count] = coin;
            days[count] = day;
            paids[count] = 0;
            owners[count] = owner;
            return count++;
        }

        int left(int x) {
            return coins[x] - paids[x];
        }

        boolean isLeftBy(int band, int x, int day) {
            return owners[x] == band && days[x] <= day && left(x) > 0;
        }
    }

    /** The table of what PARTIES owe, its RINGS, and what each pays as all FALL. */
    static final class Owed {
        static final int PARTIES = 10, FIRST_HOUSE = 6, RANKS = 3, LONGEST_RING = 4, MOST_TURNS = 60;

        final int[] owing = new int[PARTIES * PARTIES];
        final int[] paying = new int[PARTIES * PARTIES];
        final int[] payingNext = new int[PARTIES * PARTIES];
        final int[] coins = new int[PARTIES];
        final int[] ranks = {1, 1, 1, 1, 1, 1, 1, 1, 1, 1};
        final int[] row = new int[LONGEST_RING];
        boolean settled;

        int change(int by, int to, int v) {
            int was = owing[by * PARTIES + to];
            owing[by * PARTIES + to] = v;
            settled = false;
            return was;
        }

        int changeCoin(int p, int v) {
            int was = coins[p];
            coins[p] = v;
            settled = false;
            return was;
        }

        int changeRank(int p, int v) {
            int was = ranks[p];
            ranks[p] = v;
            settled = false;
            return was;
        }

        /** One going through all rows in their order is enough: what is OWED only becomes less, so no row ahead comes back. */
        int cancelRings() {
            settled = false;
            int less = 0;
            for (int first = 0; first < PARTIES; first++) {
                row[0] = first;
                less += cancelFrom(this, 1);
            }
            return less;
        }

        /** All rows that go on from the first ones of the table's row, these alone ahead of longer ones. */
        private static int cancelFrom(Owed table, int length) {
            int less = length < 2 ? 0 : table.lessen(length);
            if (length < 1 || length >= LONGEST_RING) return less;
            for (int next = table.row[0] + 1; next < PARTIES; next++) {
                if (table.isInRow(next, length) || !table.owesLast(next, length)) continue;
                table.row[length] = next;
                less += cancelFrom(table, length + 1);
            }
            return less;
        }

        private boolean owesLast(int next, int length) {
            return owing[row[length - 1] * PARTIES + next] > 0;
        }

        private boolean isInRow(int p, int length) {
            for (int k = 0; k < length; k++) {
                if (row[k] == p) return true;
            }
            return false;
        }

        private int lessen(int length) {
            int least = owing[link(length - 1, length)];
            for (int k = 0; k < length - 1; k++) least = Math.min(least, owing[link(k, length)]);
            for (int k = 0; k < length; k++) owing[link(k, length)] -= least;
            return least * length;
        }

        private int link(int k, int length) {
            int next = k + 1 < length ? row[k + 1] : row[0];
            return row[k] * PARTIES + next;
        }

        void settle() {
            if (settled) return;
            System.arraycopy(owing, 0, paying, 0, owing.length);
            boolean changed = true;
            for (int turn = 0; turn < MOST_TURNS && changed; turn++) {
                for (int p = 0; p < PARTIES; p++) payOut(p);
                changed = takeNext();
            }
            settled = true;
        }

        /** All pay at once by what was paid a turn ahead, so what they pay now is kept apart. */
        private boolean takeNext() {
            boolean changed = false;
            for (int at = 0; at < paying.length; at++) {
                if (paying[at] != payingNext[at]) changed = true;
                paying[at] = payingNext[at];
            }
            return changed;
        }

        private void payOut(int p) {
            int left = coins[p];
            int all = 0;
            for (int q = 0; q < PARTIES; q++) {
                left += paying[q * PARTIES + p];
                all += owing[p * PARTIES + q];
            }
            if (left >= all) {
                System.arraycopy(owing, p * PARTIES, payingNext, p * PARTIES, PARTIES);
                return;
            }
            for (int rank = 0; rank < RANKS; rank++) left = payRank(p, rank, left);
        }

        /** What is left for later RANKS: nothing behind one that could not be paid whole, though cutting may leave some. */
        private int payRank(int p, int rank, int left) {
            int all = 0;
            for (int q = 0; q < PARTIES; q++) {
                if (ranks[q] == rank) all += owing[p * PARTIES + q];
            }
            boolean whole = all <= left;
            for (int q = 0; q < PARTIES; q++) {
                if (ranks[q] != rank) continue;
                long due = owing[p * PARTIES + q];
                payingNext[p * PARTIES + q] = (int) (whole || all == 0 ? due : due * left / all);
            }
            return whole ? left - all : 0;
        }

        int fallen() {
            int bits = 0;
            for (int at = 0; at < owing.length; at++) {
                if (paying[at] < owing[at]) bits |= 1 << at / PARTIES;
            }
            return bits;
        }
    }

    /** ROUNDS: rows of PLACES. */
    static final class Rounds {
        static final int MOST_STOPS = 8;

        final int[] lengths = new int[10];
        final int[] stops = new int[10 * MOST_STOPS];
        int count;

        boolean has(int r) {
            return isBelow(r, count);
        }

        int add(Sheets sheets, int sheet, int i, int n) {
            if (count >= lengths.length || n > MOST_STOPS) return FULL;
            lengths[count] = n;
            for (int stop = 0; stop < n; stop++) {
                stops[count * MOST_STOPS + stop] = sheets.valueAt(sheet, i + stop);
            }
            return count++;
        }

        int stopAt(int r, int stop) {
            return stops[r * MOST_STOPS + stop];
        }
    }

    /** OFFERS, and the BEST set of them, looked for anew only after an OFFER has come. */
    static final class Offers {
        final int[] bands = new int[9];
        final int[] houses = new int[9];
        final int[] rounds = new int[9];
        final int[] credits = new int[9];
        final int[] gains = new int[9];
        final int[] lent = new int[4];
        int count;
        int bestSet;
        int bestGain;
        boolean planned;

        int add(int band, int house, int round, int credit, int gain) {
            if (count >= bands.length) return FULL;
            bands[count] = band;
            houses[count] = house;
            rounds[count] = round;
            credits[count] = credit;
            gains[count] = gain;
            planned = false;
            return count++;
        }

        /** Sets come as rising numbers, so of several like ones the least stays. */
        void plan(Roll roll) {
            if (planned) return;
            bestSet = 0;
            bestGain = 0;
            for (int set = 1; set < 1 << count; set++) {
                int gain = gainOfSet(set);
                if (gain > bestGain && mayBe(set, roll)) {
                    bestSet = set;
                    bestGain = gain;
                }
            }
            planned = true;
        }

        private int gainOfSet(int set) {
            int sum = 0;
            for (int k = 0; k < count; k++) {
                if ((set >> k & 1) != 0) sum += gains[k];
            }
            return sum;
        }

        boolean mayBe(int set, Roll roll) {
            int bandBits = 0;
            int roundBits = 0;
            for (int h = 0; h < lent.length; h++) lent[h] = 0;
            for (int k = 0; k < count; k++) {
                if ((set >> k & 1) == 0) continue;
                if ((bandBits >> bands[k] & 1) != 0 || (roundBits >> rounds[k] & 1) != 0) return false;
                bandBits |= 1 << bands[k];
                roundBits |= 1 << rounds[k];
                lent[houses[k]] += credits[k];
                if (lent[houses[k]] > roll.trusts[houses[k]]) return false;
            }
            return true;
        }
    }

    /** SHEETS, each with room for the longest row of any LANE; one that has nothing has the size NONE. */
    static final class Sheets {
        static final int SHEETS = 4, MOST_CELLS = 60;

        final int[] cells = new int[SHEETS * MOST_CELLS];
        final int[] lanes = new int[SHEETS];
        final int[] sizes = {NONE, NONE, NONE, NONE};

        boolean has(int k) {
            return isBelow(k, SHEETS);
        }

        boolean isNothing(int k) {
            return sizes[k] == NONE;
        }

        boolean hasCells(int k, int i, long n) {
            return i >= 0 && n >= 0 && i + n <= sizes[k];
        }

        /** The FAULT of taking n cells from i on as a row of a LANE; 0: none. */
        int takingFault(int k, int lane, int i, long n) {
            if (isNothing(k)) return NULL_FAULT;
            if (lanes[k] != lane) return CAST_FAULT;
            if (n < 0) return SIZE_FAULT;
            return hasCells(k, i, n) ? 0 : INDEX_FAULT;
        }

        void renew(int k, int lane, int n) {
            lanes[k] = lane;
            sizes[k] = n;
            for (int i = 0; i < n; i++) cells[k * MOST_CELLS + i] = 0;
        }

        int valueAt(int k, int i) {
            return cells[k * MOST_CELLS + i];
        }

        void write(int k, int i, int v) {
            cells[k * MOST_CELLS + i] = cutTo(lanes[k], v);
        }

        private static int cutTo(int lane, int v) {
            switch (lane) {
                case 0: return (byte) v;
                case 1: return (short) v;
                default: return v;
            }
        }

        void carry(int k, int i, int other, int j, int n) {
            System.arraycopy(cells, k * MOST_CELLS + i, cells, other * MOST_CELLS + j, n);
        }
    }
}
