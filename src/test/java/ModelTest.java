import java.util.ArrayList;
import java.util.List;
import java.util.Random;

/** Runs of up to 512 calls, chosen from fixed seeds, on a PedlarBook and on the Model: all answers must be alike. */
public final class ModelTest {
    private static final int RUNS = 600, CALLS = 512;
    private static int wrong = 0;

    private final Random random;
    private final int seed;
    private final PedlarBook book = new PedlarBook();
    private final Model model = new Model();
    private final List<String> calls = new ArrayList<>();
    private int span;
    private int left = CALLS;

    private ModelTest(int seed) {
        this.seed = seed;
        random = new Random(seed);
    }

    public static void main(String[] args) {
        for (int seed = 0; seed < RUNS && wrong < 5; seed++) new ModelTest(seed).run();
        System.out.println(wrong == 0 ? "all runs agree with the model" : wrong + " runs differ from the model");
        if (wrong != 0) System.exit(1);
    }

    private void run() {
        span = new int[] {12, 40, 200, 10000}[seed % 4];
        int focus = seed / 4 % 9;
        if (random.nextInt(10) > 0) settleLand();
        for (int k = random.nextInt(5); k > 0 && (focus == 3 || focus == 4); k--) text(someText());
        if (focus == 4 || focus == 5) openMarket();
        while (left > 0) step(random.nextInt(3) > 0 ? focus : random.nextInt(9));
    }

    /** Compares one call's answers; a run that has differed, or has had all its calls, says no more. */
    private void same(String call, long got, long want) {
        if (left <= 0) return;
        left--;
        calls.add(call + " = " + want);
        if (got == want) return;
        wrong++;
        left = 0;
        System.out.println("seed " + seed + ", call " + calls.size() + ": " + call + " answered " + got
            + ", the model " + want);
        int from = Math.max(0, calls.size() - 40);
        for (String c : calls.subList(from, calls.size())) System.out.println("    " + c);
    }

    private int upTo(int most) {
        return random.nextInt(most + 1);
    }

    /** Mostly 0 .. most, now and then just or far beyond. */
    private int near(int most) {
        switch (random.nextInt(60)) {
            case 0: return -1;
            case 1: return most + 1;
            case 2: return Integer.MIN_VALUE;
            case 3: return Integer.MAX_VALUE;
            case 4: return most;
            case 5: return -2;
            default: return upTo(most);
        }
    }

    private int aDay() {
        if (random.nextInt(40) == 0) return near(9999);
        if (random.nextInt(40) == 0) return 9999;
        return upTo(span - 1);
    }

    /** One that lies among those that there are, mostly. */
    private int one(int what) {
        int n = model.many(what);
        return random.nextInt(25) == 0 ? near(n) : n == 0 ? 0 : random.nextInt(n);
    }

    private int bandOrVillage() {
        return random.nextInt(4) == 0 ? -1 : one(1);
    }

    private void settleLand() {
        int places = 1 + upTo(4), bands = 1 + upTo(5), houses = 1 + upTo(3), packs = 1 + upTo(6);
        for (int k = 0; k < places; k++) place();
        for (int k = 0; k < bands; k++) band();
        for (int k = 0; k < houses; k++) house();
        for (int k = 0; k < packs; k++) pack();
    }

    /** Goods that are barred here and there, and packs that are full of them, so that sales mean something. */
    private void openMarket() {
        text("b0;u1;u2;h" + upTo(2) + ";y" + (1 + upTo(span)));
        text("f0;b1;u2;s" + upTo(10));
        for (int p = 0; p < model.many(4) && p < 4; p++) {
            for (int good = 0; good < 3; good++) enter(p, 0, good, 60 + upTo(39), upTo(9), 0);
        }
    }

    private void place() {
        int land = random.nextInt(30) == 0 ? near(5) : upTo(2);
        same("place(" + land + ")", book.place(land), model.place(land));
    }

    private void band() {
        int men = near(9), boys = near(9);
        if (random.nextInt(3) == 0) men = 0;
        if (random.nextInt(3) == 0) boys = 0;
        same("band(" + men + ", " + boys + ")", book.band(men, boys), model.band(men, boys));
    }

    private void house() {
        int trust = random.nextInt(3) == 0 ? near(1000000) : near(900);
        same("house(" + trust + ")", book.house(trust), model.house(trust));
    }

    private void pack() {
        int kind = near(2), band = one(1), house = one(2);
        same("pack(" + kind + ", " + band + ", " + house + ")", book.pack(kind, band, house),
            model.pack(kind, band, house));
    }

    private void step(int area) {
        switch (area) {
            case 0: stepPeople(); break;
            case 1: stepPacks(); break;
            case 2: stepKnown(); break;
            case 3: stepTexts(); break;
            case 4: stepDebts(); break;
            case 5: stepOwed(); break;
            case 6: stepRounds(); break;
            case 7: stepSheets(); break;
            default: stepParts(); break;
        }
    }

    private void stepPeople() {
        switch (random.nextInt(9)) {
            case 0: place(); break;
            case 1: band(); break;
            case 2: house(); break;
            case 3: pack(); break;
            case 4: case 5: walk(); break;
            case 6: {
                int b = one(1), d = aDay();
                same("day(" + b + ", " + d + ")", book.day(b, d), model.day(b, d));
                break;
            }
            case 7: {
                int a = one(1), b = one(1), d = aDay();
                same("meet(" + a + ", " + b + ", " + d + ")", book.meet(a, b, d), model.meet(a, b, d));
                break;
            }
            default: many();
        }
    }

    private void many() {
        int what = near(9);
        same("many(" + what + ")", book.many(what), model.many(what));
    }

    private void walk() {
        int b = one(1), p = one(0), from = aDay(), to = from + upTo(Math.max(2, span / 12)) - random.nextInt(20) / 19;
        if (random.nextInt(50) == 0) to = aDay();
        same("walk(" + b + ", " + p + ", " + from + ", " + to + ")", book.walk(b, p, from, to), model.walk(b, p, from, to));
    }

    /** Where a BAND stays is where it sells, mostly. */
    private void walkOn() {
        int n = model.many(3), from = span * n / 45, to = from + Math.max(1, span / 30);
        int b = one(1), p = one(0);
        same("walk(" + b + ", " + p + ", " + from + ", " + to + ")", book.walk(b, p, from, to), model.walk(b, p, from, to));
    }

    /** Days that rise with the entries there are, so that not all are ahead of the latest. */
    private int risingDay() {
        if (random.nextInt(12) == 0) return aDay();
        int n = model.many(5);
        return Math.min(9999, (int) ((long) span * n / 60) + upTo(Math.max(1, span / 30)));
    }

    private void stepPacks() {
        switch (random.nextInt(8)) {
            case 0: case 1: case 2: entry(); break;
            case 3: entryRows(); break;
            case 4: {
                int e = one(5), what = near(5);
                same("told(" + e + ", " + what + ")", book.told(e, what), model.told(e, what));
                break;
            }
            case 5: case 6: {
                int p = one(4), g = near(2), d = aDay();
                same("held(" + p + ", " + g + ", " + d + ")", book.held(p, g, d), model.held(p, g, d));
                break;
            }
            default: walk();
        }
    }

    private void entry() {
        int p = one(4), kind = random.nextInt(3) == 0 ? near(4) : 2 * upTo(1), good = random.nextInt(30) == 0 ? near(7) : upTo(2);
        int many = random.nextInt(10) == 0 ? near(99) : 1 + upTo(kind < 2 ? 60 : 5);
        enter(p, kind, good, many, random.nextInt(8) == 0 ? near(999) : upTo(40), risingDay());
    }

    private void enter(int p, int kind, int good, int many, int coin, int d) {
        same("entry(" + p + ", " + kind + ", " + good + ", " + many + ", " + coin + ", " + d + ")",
            book.entry(p, kind, good, many, coin, d), model.entry(p, kind, good, many, coin, d));
    }

    private void entryRows() {
        int n = upTo(3), k = upTo(3), lane = upTo(2), i = upTo(2);
        sheet(k, lane, 4 * n + i);
        int d = risingDay();
        for (int r = 0; r < n; r++) {
            put(k, i + 4 * r, random.nextInt(20) == 0 ? near(4) : random.nextInt(3) == 0 ? upTo(4) : 0);
            put(k, i + 4 * r + 1, random.nextInt(30) == 0 ? near(7) : upTo(2));
            put(k, i + 4 * r + 2, random.nextInt(30) == 0 ? near(99) : 1 + upTo(9));
            put(k, i + 4 * r + 3, d + (random.nextInt(15) == 0 ? -1 : upTo(1)));
        }
        int p = one(4), j = random.nextInt(12) == 0 ? near(i + 1) : i, m = random.nextInt(12) == 0 ? near(n + 1) : n;
        int l = random.nextInt(20) == 0 ? near(2) : lane, s = random.nextInt(20) == 0 ? near(3) : k;
        same("entries(" + p + ", " + s + ", " + l + ", " + j + ", " + m + ")", book.entries(p, s, l, j, m),
            model.entries(p, s, l, j, m));
        fault();
    }

    private void stepKnown() {
        switch (random.nextInt(9)) {
            case 0: entry(); break;
            case 1: walk(); break;
            case 2: case 3: case 4: {
                int e = one(5), b = bandOrVillage();
                same("known(" + e + ", " + b + ")", book.known(e, b), model.known(e, b));
                break;
            }
            case 5: case 6: {
                int p = one(4), g = near(2), d = aDay(), k = aDay();
                same("as(" + p + ", " + g + ", " + d + ", " + k + ")", book.as(p, g, d, k), model.as(p, g, d, k));
                break;
            }
            default: {
                int b = bandOrVillage(), d = aDay();
                same("knows(" + b + ", " + d + ")", book.knows(b, d), model.knows(b, d));
            }
        }
    }

    private String someText() {
        StringBuilder text = new StringBuilder();
        int clauses = random.nextInt(12) == 0 ? upTo(8) : 1 + upTo(3);
        for (int c = 0; c < clauses; c++) {
            if (c > 0) text.append(';');
            char letter = "spybufhbuf".charAt(random.nextInt(10));
            int most = letter == 's' ? 10 : letter == 'p' ? 99 : letter == 'y' ? span : letter == 'h' ? 2 : 2;
            text.append(letter);
            for (int z = random.nextInt(8) - 6; z > 0; z--) text.append('0');
            text.append(random.nextInt(20) == 0 ? upTo(12000) : random.nextInt(20) == 0 ? most + 1 : upTo(most));
        }
        if (random.nextInt(6) == 0 && text.length() > 0) {
            int at = random.nextInt(text.length());
            if (random.nextBoolean()) text.deleteCharAt(at);
            else text.setCharAt(at, "spybufh;0123459x:/".charAt(random.nextInt(18)));
        }
        if (text.length() > 58) text.setLength(58);
        return text.toString();
    }

    private void text(String codes) {
        int k = upTo(3), lane = upTo(2), i = upTo(2), n = codes.length();
        sheet(k, lane, i + n);
        for (int c = 0; c < n; c++) put(k, i + c, codes.charAt(c));
        int land = random.nextInt(3) == 0 ? -1 : random.nextInt(20) == 0 ? near(5) : upTo(2);
        int from = random.nextBoolean() ? 0 : aDay();
        int to = random.nextBoolean() ? 9999 : from + upTo(span / 2) - random.nextInt(20) / 19;
        int s = random.nextInt(20) == 0 ? near(3) : k, l = random.nextInt(20) == 0 ? near(2) : lane;
        int j = random.nextInt(20) == 0 ? near(n) : i, m = random.nextInt(20) == 0 ? near(n) : n;
        same("text(" + land + ", " + from + ", " + to + ", " + s + ", " + l + ", " + j + ", " + m + ") of " + codes,
            book.text(land, from, to, s, l, j, m), model.text(land, from, to, s, l, j, m));
        fault();
    }

    private void stepTexts() {
        int letter = near(4), good = near(2), land = random.nextInt(20) == 0 ? near(5) : upTo(2), d = aDay();
        switch (random.nextInt(20)) {
            case 0: text(someText()); break;
            case 1: case 2: case 3: case 4:
                same("force(" + letter + ", " + land + ", " + d + ")", book.force(letter, land, d),
                    model.force(letter, land, d));
                break;
            case 5: case 6: case 7: case 8:
                same("bar(" + good + ", " + land + ", " + d + ")", book.bar(good, land, d), model.bar(good, land, d));
                break;
            case 9: case 10: case 11: case 12: case 13:
                same("why(" + letter + ", " + good + ", " + land + ", " + d + ")", book.why(letter, good, land, d),
                    model.why(letter, good, land, d));
                break;
            default:
                same("quarrel(" + letter + ", " + good + ", " + land + ", " + d + ")",
                    book.quarrel(letter, good, land, d), model.quarrel(letter, good, land, d));
        }
    }

    private void stepDebts() {
        int p = one(4), d = aDay(), b = one(1), x = one(7);
        switch (random.nextInt(24)) {
            case 0: text(someText()); break;
            case 1: case 2: {
                int land = near(2), to = d + upTo(span / 3);
                same("licence(" + b + ", " + land + ", " + d + ", " + to + ")", book.licence(b, land, d, to),
                    model.licence(b, land, d, to));
                break;
            }
            case 3: case 4:
                same("unallowed(" + p + ")", book.unallowed(p), model.unallowed(p));
                break;
            case 5: case 6: case 7: {
                int kind = near(2), place = one(0), coin = random.nextInt(20) == 0 ? near(9999) : 1 + upTo(200);
                same("door(" + kind + ", " + place + ", " + p + ", " + coin + ", " + d + ")",
                    book.door(kind, place, p, coin, d), model.door(kind, place, p, coin, d));
                break;
            }
            case 8: case 9: case 10: case 11: {
                int what = random.nextInt(3) == 0 ? near(7) : 5 + upTo(2);
                same("due(" + x + ", " + what + ")", book.due(x, what), model.due(x, what));
                break;
            }
            case 12: case 13: case 14: {
                int coin = random.nextInt(20) == 0 ? near(9999) : 1 + upTo(60);
                int late = Math.min(9999, Math.max(0, model.due(x, 4)) + upTo(span / 4));
                int on = random.nextInt(4) == 0 ? d : late;
                same("paid(" + x + ", " + coin + ", " + on + ")", book.paid(x, coin, on), model.paid(x, coin, on));
                break;
            }
            case 15:
                same("dead(" + b + ", " + d + ")", book.dead(b, d), model.dead(b, d));
                break;
            case 16: case 17: {
                int coin = random.nextInt(20) == 0 ? near(99999) : 1 + upTo(100);
                same("send(" + p + ", " + coin + ", " + d + ")", book.send(p, coin, d), model.send(p, coin, d));
                break;
            }
            case 18: case 19: case 20:
                same("credit(" + p + ", " + d + ")", book.credit(p, d), model.credit(p, d));
                break;
            case 21: case 22: entry(); break;
            default: walkOn();
        }
    }

    private void stepOwed() {
        int by = near(9), to = near(9);
        switch (random.nextInt(16)) {
            case 0: case 1: case 2: case 3: case 4: case 5: {
                int v = random.nextInt(4) == 0 ? near(99999) : upTo(60);
                same("owe(" + by + ", " + to + ", " + v + ")", book.owe(by, to, v), model.owe(by, to, v));
                break;
            }
            case 6: case 7:
                same("owes(" + by + ", " + to + ")", book.owes(by, to), model.owes(by, to));
                break;
            case 8:
                if (random.nextInt(3) == 0) same("ring()", book.ring(), model.ring());
                break;
            case 9: {
                int what = near(1), v = random.nextInt(3) == 0 ? near(99999) : upTo(what == 1 ? 2 : 40);
                same("party(" + by + ", " + what + ", " + v + ")", book.party(by, what, v), model.party(by, what, v));
                break;
            }
            case 10: case 11:
                same("pays(" + by + ", " + to + ")", book.pays(by, to), model.pays(by, to));
                break;
            case 12:
                same("ruin()", book.ruin(), model.ruin());
                break;
            case 13: case 14: {
                int b = one(1), from = random.nextBoolean() ? 0 : aDay(), until = random.nextInt(3) == 0 ? 9999 : aDay(), who = near(3);
                same("share(" + b + ", " + from + ", " + until + ", " + who + ")", book.share(b, from, until, who),
                    model.share(b, from, until, who));
                break;
            }
            default: entry();
        }
    }

    private void round() {
        int k = upTo(3), lane = upTo(2), i = upTo(2), n = random.nextInt(10) == 0 ? upTo(10) : 1 + upTo(3);
        sheet(k, lane, i + n);
        for (int c = 0; c < n; c++) put(k, i + c, random.nextInt(20) == 0 ? near(4) : one(0));
        int s = random.nextInt(20) == 0 ? near(3) : k, l = random.nextInt(20) == 0 ? near(2) : lane;
        int j = random.nextInt(20) == 0 ? near(n) : i, m = random.nextInt(20) == 0 ? near(n) : n;
        same("round(" + s + ", " + l + ", " + j + ", " + m + ")", book.round(s, l, j, m), model.round(s, l, j, m));
        fault();
    }

    private void stepRounds() {
        int r = one(8), b = one(1), from = aDay(), to = from + upTo(span / 2) - random.nextInt(20) / 19;
        switch (random.nextInt(18)) {
            case 0: round(); break;
            case 1: case 2: {
                int how = near(2);
                same("right(" + b + ", " + r + ", " + how + ", " + from + ", " + to + ")",
                    book.right(b, r, how, from, to), model.right(b, r, how, from, to));
                break;
            }
            case 3: case 4: case 5:
                same("holder(" + r + ", " + from + ")", book.holder(r, from), model.holder(r, from));
                break;
            case 6: case 7:
                same("two(" + r + ")", book.two(r), model.two(r));
                break;
            case 8: case 9: case 10: {
                int low = random.nextBoolean() ? 0 : from, high = random.nextBoolean() ? 9999 : to;
                same("walked(" + r + ", " + b + ", " + low + ", " + high + ")", book.walked(r, b, low, high),
                    model.walked(r, b, low, high));
                break;
            }
            case 11: case 12: {
                int h = one(2), credit = random.nextInt(4) == 0 ? near(999999) : upTo(500);
                int gain = random.nextInt(4) == 0 ? near(99999) : upTo(60) - 20;
                if (random.nextInt(30) == 0) gain = -99999 - upTo(1);
                same("offer(" + b + ", " + h + ", " + r + ", " + credit + ", " + gain + ")",
                    book.offer(b, h, r, credit, gain), model.offer(b, h, r, credit, gain));
                break;
            }
            case 13: case 14: {
                int what = near(1);
                same("best(" + what + ")", book.best(what), model.best(what));
                break;
            }
            case 15: case 16: {
                int set = near((1 << model.many(9)) - 1);
                same("judge(" + set + ")", book.judge(set), model.judge(set));
                break;
            }
            default: walk();
        }
    }

    private void sheet(int k, int lane, int n) {
        same("sheet(" + k + ", " + lane + ", " + n + ")", book.sheet(k, lane, n), model.sheet(k, lane, n));
    }

    private void put(int k, int i, int v) {
        same("put(" + k + ", " + i + ", " + v + ")", book.put(k, i, v), model.put(k, i, v));
    }

    private void fault() {
        same("fault()", book.fault(), model.fault());
    }

    private void stepSheets() {
        int k = near(3), i = near(12), lane = near(2);
        switch (random.nextInt(8)) {
            case 0: sheet(k, lane, random.nextInt(8) == 0 ? near(60) : upTo(12)); break;
            case 1:
                if (random.nextInt(4) == 0) same("lose(" + k + ")", book.lose(k), model.lose(k));
                break;
            case 2: case 3: put(k, i, random.nextInt(3) == 0 ? random.nextInt() : near(200)); break;
            case 4: case 5:
                same("cell(" + k + ", " + i + ", " + lane + ")", book.cell(k, i, lane), model.cell(k, i, lane));
                break;
            case 6: {
                int other = random.nextInt(3) == 0 ? k : near(3), j = near(12), n = near(8);
                same("copy(" + k + ", " + i + ", " + other + ", " + j + ", " + n + ")", book.copy(k, i, other, j, n),
                    model.copy(k, i, other, j, n));
                break;
            }
            default:
        }
        fault();
    }

    private void stepParts() {
        int what = near(1), x = one(what == 1 ? 7 : 4), kind = near(2);
        switch (random.nextInt(7)) {
            case 0: case 1:
                same("tell(" + what + ", " + x + ")", book.tell(what, x), model.tell(what, x));
                break;
            case 2:
                same("show(" + x + ")", book.show(x), model.show(x));
                break;
            case 3: case 4:
                same("taken(" + what + ", " + x + ", " + kind + ")", book.taken(what, x, kind), model.taken(what, x, kind));
                fault();
                break;
            case 5: many(); break;
            default:
                same("trace()", book.trace(), model.trace());
        }
    }
}
