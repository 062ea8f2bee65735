import java.util.ArrayList;
import java.util.Collections;
import java.util.HashMap;
import java.util.List;
import java.util.Map;
import java.util.TreeSet;

/**
 * The document once more, written another way: whole states are copied where the class keeps rows,
 * laws are trees where it has orders, faults are thrown, and all sets and acts are tried one by one.
 */
final class Model {
    static final class Thing implements Cloneable {
        int told, first, bulk, dear, with, since = -1, from = -1;

        Thing copy() {
            try {
                return (Thing) clone();
            } catch (CloneNotSupportedException e) {
                throw new IllegalStateException(e);
            }
        }
    }

    /** What a step can change. */
    static final class World {
        List<Integer> pence = new ArrayList<>();
        List<Thing> things = new ArrayList<>();
        List<int[]> book = new ArrayList<>();
        int day, x = 89;

        World copy() {
            World w = new World();
            w.pence.addAll(pence);
            for (Thing t : things) w.things.add(t.copy());
            w.book.addAll(book);
            w.day = day;
            w.x = x;
            return w;
        }
    }

    /** What an image holds beside the world. */
    static final class Rest {
        List<Integer> lives = new ArrayList<>();
        List<World> steps = new ArrayList<>();
        List<Script> texts = new ArrayList<>();
        Script ruling;
        int room = 9;
        List<int[]> plans = new ArrayList<>();
        List<Integer> votes = new ArrayList<>();
        List<int[]> seen = new ArrayList<>();

        Rest copy() {
            Rest r = new Rest();
            r.lives.addAll(lives);
            for (World w : steps) r.steps.add(w.copy());
            r.texts.addAll(texts);
            r.ruling = ruling;
            r.room = room;
            r.plans.addAll(plans);
            r.votes.addAll(votes);
            r.seen.addAll(seen);
            return r;
        }
    }

    interface Sum {
        long of(Map<String, Integer> names);
    }

    interface Ask {
        boolean of(Map<String, Integer> names);
    }

    static final class Script {
        Map<String, Sum> laws = new HashMap<>();
        List<Object[]> clauses = new ArrayList<>();
    }

    World w = new World();
    Rest r = new Rest();
    World imageW = new World();
    Rest imageR = new Rest();
    StringBuilder tape = new StringBuilder();
    int fault = -1, place = -1;

    // ---- laws

    static int clip(long v, long lo, long hi) {
        return (int) Math.max(lo, Math.min(hi, v));
    }

    Map<String, Integer> names(World w, int thing) {
        Thing t = w.things.get(thing);
        Map<String, Integer> m = new HashMap<>();
        m.put("day", w.day);
        m.put("kept", w.day - t.since);
        m.put("dear", t.dear);
        m.put("bulk", t.bulk);
        m.put("owner", t.first);
        m.put("from", t.from);
        m.put("thing", thing);
        return m;
    }

    int dears(World w, int thing) {
        Sum s = r.ruling == null ? null : r.ruling.laws.get("dears");
        return s == null ? 1 : clip(s.of(names(w, thing)), -99, 99);
    }

    int after(World w, int thing) {
        Sum s = r.ruling == null ? null : r.ruling.laws.get("after");
        return s == null ? 9 : clip(s.of(names(w, thing)), 0, 9999);
    }

    int to(World w, int thing) {
        Sum s = r.ruling == null ? null : r.ruling.laws.get("to");
        return s == null ? w.things.get(thing).from : clip(s.of(names(w, thing)), 0, r.lives.size() - 1);
    }

    int brings(World w, int thing) {
        Sum s = r.ruling == null ? null : r.ruling.laws.get("brings");
        if (s == null) return w.things.get(thing).dear;
        Map<String, Integer> m = names(w, thing);
        m.put("pence", w.pence.get(to(w, thing)));
        return clip(s.of(m), -9999, 9999);
    }

    // ---- what happens in a world

    int kept(World w) {
        int sum = 0;
        for (Thing t : w.things) if (t.with == -1) sum += t.bulk;
        return sum;
    }

    boolean doSteal(World w, int thing) {
        if (thing < 0 || thing >= w.things.size()) return false;
        Thing t = w.things.get(thing);
        if (t.with == -1 || kept(w) + t.bulk > r.room) return false;
        t.from = t.with;
        t.with = -1;
        t.since = w.day;
        return true;
    }

    boolean doSend(World w, int thing) {
        if (thing < 0 || thing >= w.things.size() || w.things.get(thing).with != -1) return false;
        int owner = to(w, thing);
        int more = brings(w, thing);
        Thing t = w.things.get(thing);
        t.with = owner;
        t.since = t.from = -1;
        w.pence.set(owner, clip(w.pence.get(owner) + more, -1000000, 1000000));
        w.book.add(new int[] {w.day, thing, owner, t.dear});
        if (w.book.size() > 30) w.book.remove(0);
        return true;
    }

    boolean doGive(World w, int thing, int owner) {
        if (thing < 0 || thing >= w.things.size() || owner < 0 || owner >= r.lives.size()) return false;
        Thing t = w.things.get(thing);
        if (t.with == -1 || t.with == owner) return false;
        t.with = owner;
        return true;
    }

    /** How many come back, or -1 where no day can pass. */
    int doDay(World w) {
        if (w.day == 9999) return -1;
        w.day++;
        int back = 0;
        for (int i = 0; i < w.things.size(); i++) {
            Thing t = w.things.get(i);
            if (t.with != -1) continue;
            t.dear = clip(t.dear + dears(w, i), 0, 99);
            if (w.day - t.since >= after(w, i)) {
                doSend(w, i);
                back++;
            }
        }
        return back;
    }

    void step(World before) {
        r.steps.add(before);
        if (r.steps.size() > 30) r.steps.remove(0);
    }

    // ---- the face

    int owner(int lives) {
        if (lives < 0 || lives > 10 || r.lives.size() == 6) return -1;
        r.lives.add(lives);
        w.pence.add(0);
        return r.lives.size() - 1;
    }

    int thing(int dear, int owner, int bulk) {
        if (dear < 0 || dear > 99 || owner < 0 || owner >= r.lives.size()) return -1;
        if (bulk < 1 || bulk > 9 || w.things.size() == 8) return -1;
        Thing t = new Thing();
        t.told = t.dear = dear;
        t.first = t.with = owner;
        t.bulk = bulk;
        w.things.add(t);
        return w.things.size() - 1;
    }

    boolean room(int room) {
        if (room < 0 || room > 99) return false;
        r.room = room;
        return true;
    }

    int steal(int thing) {
        World before = w.copy();
        if (!doSteal(w, thing)) return -1;
        step(before);
        return kept(w);
    }

    int send(int thing) {
        World before = w.copy();
        if (!doSend(w, thing)) return -1;
        step(before);
        return w.things.get(thing).with;
    }

    boolean give(int thing, int owner) {
        World before = w.copy();
        if (!doGive(w, thing, owner)) return false;
        step(before);
        return true;
    }

    int day(int n) {
        if (n < 1 || n > 60 || w.day + n > 9999) return -1;
        int back = 0;
        for (int i = 0; i < n; i++) {
            World before = w.copy();
            back += doDay(w);
            step(before);
        }
        return back;
    }

    int draw(int m) {
        int as = w.x;
        w.x = (as * 293 + 197) % 30319;
        return as % m;
    }

    int decades(int seed, int n) {
        if (seed < 0 || seed > 9999 || n < 1 || n > 30 || w.things.isEmpty()) return -1;
        step(w.copy());
        w.x = seed * 2 + 89;
        for (int i = 0; i < n; i++) {
            int what = draw(5);
            int thing = draw(w.things.size());
            switch (what) {
                case 0, 1 -> doSteal(w, thing);
                case 2 -> doSend(w, thing);
                case 3 -> doGive(w, thing, draw(r.lives.size()));
                default -> doDay(w);
            }
        }
        return w.day;
    }

    int feed(int a, int b, int c, int d, int e) {
        if (tape.length() + 20 > 300) return -1;
        for (int v : new int[] {a, b, c, d, e}) {
            tape.append((char) (v >>> 24)).append((char) (v >>> 16 & 255));
            tape.append((char) (v >>> 8 & 255)).append((char) (v & 255));
        }
        return tape.length();
    }

    int end(int n) {
        if (n < 0 || n > tape.length()) return -1;
        tape.setLength(n);
        return n;
    }

    int text() {
        if (r.texts.size() == 4) return -1;
        String read = tape.toString();
        tape.setLength(0);
        try {
            Script s = new ModelReader(read).script();
            fault = 0;
            place = -1;
            r.texts.add(s);
            return r.texts.size() - 1;
        } catch (ModelReader.Fault f) {
            fault = f.number;
            place = f.place;
            return -1;
        }
    }

    int fault(int what) {
        return what == 0 ? fault : what == 1 ? place : -1;
    }

    boolean by(int text) {
        if (text < -1 || text >= r.texts.size()) return false;
        r.ruling = text == -1 ? null : r.texts.get(text);
        return true;
    }

    int played(int text) {
        if (text < 0 || text >= r.texts.size()) return -2;
        List<Object[]> clauses = r.texts.get(text).clauses;
        for (int i = 0; i < clauses.size(); i++) {
            Object[] c = clauses.get(i);
            int a = (Integer) c[1], b = (Integer) c[2], d = (Integer) c[3];
            boolean done = switch ((String) c[0]) {
                case "owner" -> owner(a) >= 0;
                case "thing" -> thing(a, b, d) >= 0;
                case "room" -> room(a);
                case "steal" -> steal(a) >= 0;
                case "send" -> send(a) >= 0;
                case "give" -> give(a, b);
                case "day" -> {
                    boolean all = true;
                    for (int k = 0; k < a; k++) all &= day(1) >= 0;
                    yield all;
                }
                default -> true;
            };
            if (!done) return i;
        }
        return -1;
    }

    int undo() {
        if (r.steps.isEmpty()) return -1;
        World before = r.steps.remove(r.steps.size() - 1);
        for (int i = before.pence.size(); i < w.pence.size(); i++) before.pence.add(0);
        for (int i = before.things.size(); i < w.things.size(); i++) {
            Thing t = w.things.get(i);
            t.dear = t.told;
            t.with = t.first;
            t.since = t.from = -1;
            before.things.add(t);
        }
        w = before;
        return r.steps.size();
    }

    int ofOwner(int owner, int what) {
        if (owner < 0 || owner >= r.lives.size()) return -2000000;
        if (what == 0) return r.lives.get(owner);
        if (what == 1) return w.pence.get(owner);
        if (what != 2) return -2000000;
        int bits = 0;
        for (int i = 0; i < w.things.size(); i++) if (w.things.get(i).with == owner) bits += 1 << i;
        return bits;
    }

    int of(int thing, int what) {
        if (thing < 0 || thing >= w.things.size() || what < 0 || what > 5) return -2;
        Thing t = w.things.get(thing);
        return new int[] {t.dear, t.bulk, t.first, t.with, t.with == -1 ? t.since : -1,
            t.with == -1 ? t.from : -1}[what];
    }

    int law(int thing, int what) {
        if (thing < 0 || thing >= w.things.size() || w.things.get(thing).with != -1) return -100000;
        return switch (what) {
            case 0 -> dears(w, thing);
            case 1 -> after(w, thing);
            case 2 -> to(w, thing);
            case 3 -> brings(w, thing);
            default -> -100000;
        };
    }

    int book(int i, int what) {
        if (i == -1) return w.book.size();
        return i < 0 || i >= w.book.size() || what < 0 || what > 3 ? -2 : w.book.get(i)[what];
    }

    World ahead(int n) {
        World a = w.copy();
        for (int i = 0; i < n; i++) doDay(a);
        return a;
    }

    int foretold(int n, int thing, int what) {
        if (n < 1 || n > 60 || thing < 0 || thing >= w.things.size() || what < 0 || what > 1) return -2;
        Thing t = ahead(n).things.get(thing);
        return what == 0 ? t.dear : t.with;
    }

    int pence(int n, int owner) {
        if (n < 1 || n > 60 || owner < 0 || owner >= r.lives.size()) return -2000000;
        return ahead(n).pence.get(owner);
    }

    int plan(int thing, int days) {
        if (thing == -1) {
            r.plans = new ArrayList<>();
            return 0;
        }
        if (thing < 0 || thing >= w.things.size() || days < 0 || days > 60 || r.plans.size() == 8) return -2;
        r.plans.add(new int[] {thing, days});
        return r.plans.size();
    }

    int first() {
        World a = w.copy();
        for (int d = 0; d <= 60; d++) {
            if (d > 0 && doDay(a) < 0) break;
            for (int i = 0; i < r.plans.size(); i++) {
                int[] p = r.plans.get(i);
                if (p[1] == d && !doSteal(a, p[0])) return i;
            }
        }
        return -1;
    }

    /** Every row of acts is played, those that can't be too. */
    int fewest(int thing, int owner, int n, int i) {
        if (thing < 0 || thing >= w.things.size() || owner < 0 || owner >= r.lives.size()) return -1;
        if (n < 1 || n > 3 || i < -1 || i >= n) return -1;
        int kinds = 1 + 2 * w.things.size();
        int all = (int) Math.pow(kinds, n);
        int best = 9;
        int[] bestActs = null;
        for (int code = 0; code < all; code++) {
            int[] acts = new int[n];
            int rest = code, count = 0;
            for (int k = n - 1; k >= 0; k--) {
                acts[k] = rest % kinds;
                rest /= kinds;
                if (acts[k] > 0) count++;
            }
            if (count >= best) continue;
            World a = w.copy();
            for (int act : acts) {
                if (act > w.things.size()) doSend(a, act - 1 - w.things.size());
                else if (act > 0) doSteal(a, act - 1);
                doDay(a);
            }
            if (a.things.get(thing).with == owner) {
                best = count;
                bestActs = acts;
            }
        }
        if (bestActs == null) return -1;
        if (i == -1) return best;
        return bestActs[i] > w.things.size() ? 10 + bestActs[i] - 1 - w.things.size() : bestActs[i];
    }

    int worth(int room) {
        if (room < 0 || room > 99) return -1;
        int best = 0, most = -1;
        for (int set = 0; set < 1 << w.things.size(); set++) {
            int bulk = 0, dear = 0;
            for (int i = 0; i < w.things.size(); i++) {
                if ((set & 1 << i) != 0) {
                    bulk += w.things.get(i).bulk;
                    dear += w.things.get(i).dear;
                }
            }
            if (bulk <= room && dear > most) {
                most = dear;
                best = set;
            }
        }
        return best;
    }

    int whose(int thing) {
        if (thing < 0 || thing >= w.things.size()) return -1;
        TreeSet<Integer> to = new TreeSet<>();
        for (int[] b : w.book) if (b[1] == thing) to.add(b[2]);
        int bits = 0;
        for (int o : to) bits += 1 << o;
        return bits;
    }

    int twice() {
        int bits = 0;
        for (int t = 0; t < 8; t++) {
            int[] times = new int[6];
            for (int[] b : w.book) if (b[1] == t) times[b[2]]++;
            for (int n : times) if (n > 1) bits |= 1 << t;
        }
        return bits;
    }

    int since(int thing, int d0, int d1, boolean most) {
        if (thing < 0 || thing >= w.things.size()) return -1;
        if (d0 < 0 || d0 > 99 || d1 < 0 || d1 > 99) return -1;
        World a = w.copy();
        Thing t = a.things.get(thing);
        if (t.with != -1) t.from = t.with;
        t.with = -1;
        t.since = a.day;
        t.dear = d0;
        List<Integer> at = new ArrayList<>();
        for (int k = 0; k <= 60; k++) {
            if (k > 0) {
                a.day++;
                t.dear = clip(t.dear + dears(a, thing), 0, 99);
            }
            if (t.dear == d1) at.add(k);
        }
        return at.isEmpty() ? -1 : most ? Collections.max(at) : Collections.min(at);
    }

    /** What the one who offers has from the k-th offer on. */
    private static int offers(int w, int n, int d, int k) {
        if (k > n) return 0;
        return Math.max(0, w - (k - 1) * d) - offers(w, n, d, k + 1);
    }

    int bargain(int w, int n, int d, boolean second) {
        if (w < 0 || w > 9999 || n < 1 || n > 20 || d < 0 || d > 9999) return -1;
        return second ? offers(w, n, d, 2) : offers(w, n, d, 1);
    }

    int vote(int vote) {
        if (vote == -1) {
            r.votes = new ArrayList<>();
            return 0;
        }
        if (vote < 0 || vote > 99 || r.votes.size() == 9) return -2;
        r.votes.add(vote);
        return r.votes.size();
    }

    private static int outcome(List<Integer> votes, boolean mean) {
        if (mean) {
            int sum = 0;
            for (int v : votes) sum += v;
            return sum / votes.size();
        }
        List<Integer> sorted = new ArrayList<>(votes);
        Collections.sort(sorted);
        return sorted.get((sorted.size() - 1) / 2);
    }

    int voted(boolean mean) {
        return r.votes.isEmpty() ? -1 : outcome(r.votes, mean);
    }

    int lying(int k, boolean mean) {
        if (k < 0 || k >= r.votes.size()) return -1;
        int truth = r.votes.get(k);
        int best = 0;
        for (int lie = 0; lie < 100; lie++) {
            List<Integer> others = new ArrayList<>(r.votes);
            others.set(k, lie);
            int gain = Math.abs(truth - outcome(r.votes, mean)) - Math.abs(truth - outcome(others, mean));
            best = Math.max(best, gain);
        }
        return best;
    }

    int seen(int dear, int bulk, boolean happy) {
        if (dear == -1) {
            r.seen = new ArrayList<>();
            return 0;
        }
        if (dear < 0 || dear > 99 || bulk < 1 || bulk > 9 || r.seen.size() == 9) return -2;
        r.seen.add(new int[] {dear, bulk, happy ? 1 : 0});
        return r.seen.size();
    }

    int rule() {
        for (int d = 0; d <= 100; d++) {
            for (int b = 1; b <= 10; b++) {
                boolean fits = true;
                for (int[] s : r.seen) fits &= (s[0] >= d && s[1] >= b) == (s[2] == 1);
                if (fits) return d * 100 + b;
            }
        }
        return -1;
    }

    long odds(int owners, int n, boolean low) {
        if (owners <= 0 || owners >= 1 << r.lives.size() || n < 0 || n > 3) return -1;
        java.math.BigInteger up = java.math.BigInteger.ONE, down = java.math.BigInteger.ONE;
        for (int i = 0; i < r.lives.size(); i++) {
            for (int y = 0; y < n && (owners & 1 << i) != 0; y++) {
                up = up.multiply(java.math.BigInteger.valueOf(r.lives.get(i)));
                down = down.multiply(java.math.BigInteger.TEN);
            }
        }
        java.math.BigInteger common = up.gcd(down);
        return (low ? down : up).divide(common).longValueExact();
    }

    int early() {
        int best = -1;
        java.math.BigDecimal most = null;
        for (int i = 0; i < w.things.size(); i++) {
            Thing t = w.things.get(i);
            if (t.with != -1) continue;
            int wait = after(w, i) - (w.day - t.since);
            int years = 0;
            while (years < 6 && years * 9 < wait) years++;
            java.math.BigDecimal live = java.math.BigDecimal.ONE;
            for (int y = 0; y < years; y++) {
                live = live.multiply(java.math.BigDecimal.valueOf(r.lives.get(t.from)).movePointLeft(1));
            }
            java.math.BigDecimal weight =
                java.math.BigDecimal.ONE.subtract(live).multiply(java.math.BigDecimal.valueOf(t.dear));
            if (most == null || weight.compareTo(most) > 0) {
                most = weight;
                best = i;
            }
        }
        return best;
    }

    int image() {
        imageW = w.copy();
        imageR = r.copy();
        return w.day;
    }

    int back() {
        w = imageW.copy();
        r = imageR.copy();
        return w.day;
    }

    int about(int what) {
        return switch (what) {
            case 0 -> r.lives.size();
            case 1 -> w.things.size();
            case 2 -> r.room;
            case 3 -> w.day;
            case 4 -> w.x;
            case 5 -> r.texts.size();
            case 6 -> r.ruling == null ? -1 : r.texts.indexOf(r.ruling);
            case 7 -> r.steps.size();
            case 8 -> r.plans.size();
            case 9 -> r.votes.size();
            case 10 -> r.seen.size();
            case 11 -> tape.length();
            default -> -2;
        };
    }
}
