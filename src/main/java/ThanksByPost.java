import java.util.Arrays;

/** What is stolen in a city is kept in a warehouse to be missed, and comes back with a card. */
public final class ThanksByPost {
    public static final int NONE = -1;

    private static final int MOST_OWNERS = 6;
    private static final int MOST_THINGS = 8;
    private static final int MOST_TEXTS = 4;
    private static final int MOST_BYTES = 300;
    private static final int MOST_CLAUSES = 24;
    private static final int MOST_OPEN = 8;
    private static final int MOST_STEPS = 30;
    private static final int MOST_RETURNS = 30;
    private static final int MOST_PLANNED = 8;
    private static final int MOST_TOLD = 9;
    private static final int MOST_DEAR = 99;
    private static final int MOST_ROOM = 99;
    private static final int MOST_DAYS = 60;
    private static final int LAST_DAY = 9999;
    private static final int MOST_NUMBER = 9999;
    private static final int MOST_WORTH = 1000000;
    private static final int YEAR = 9;
    private static final int MOST_YEARS = 6;
    private static final int FEED = 20;

    private static final int NO = -2;
    private static final int NO_LAW = -100000;
    private static final int NO_OWNER = -2000000;

    // What an act is numbered from in FEWEST ACTS.
    private static final int ACT_STEAL = 1;
    private static final int ACT_SEND = 10;

    // The kinds of signs of a text. The four laws stand first, so that a law's kind is its number.
    private static final int DEARS = 0;
    private static final int AFTER = 1;
    private static final int TO = 2;
    private static final int BRINGS = 3;
    private static final int LAWS = 4;
    private static final int OWNER = 4;
    private static final int THING = 5;
    private static final int ROOM = 6;
    private static final int STEAL = 7;
    private static final int SEND = 8;
    private static final int GIVE = 9;
    private static final int DAY = 10;
    private static final int KEPT = 11;
    private static final int DEAR = 12;
    private static final int BULK = 13;
    private static final int FROM = 14;
    private static final int PENCE = 15;
    private static final int WORDS_WITH_VALUES = 16;
    private static final int OF = 16;
    private static final int LEFT = 17;
    private static final int IF = 18;
    private static final int THEN = 19;
    private static final int ELSE = 20;
    private static final int END = 21;
    private static final int OR = 22;
    private static final int AND = 23;
    private static final int NOT = 24;
    private static final int NUMBER = 25;
    private static final int LESS = 26;
    private static final int AT_MOST = 27;
    private static final int MORE = 28;
    private static final int AT_LEAST = 29;
    private static final int EQUAL = 30;
    private static final int UNLIKE = 31;
    private static final int PLUS = 32;
    private static final int MINUS = 33;
    private static final int TIMES = 34;
    private static final int OVER = 35;
    private static final int OPEN = 36;
    private static final int CLOSE = 37;
    private static final int SEMICOLON = 38;
    private static final int STRANGE = 39;
    private static final int TAPE_END = 40;
    private static final int STOPPED = 41;

    // Orders of the worked-out form that are no signs of their own.
    private static final int NAME = 50;
    private static final int NEGATE = 51;

    private static final int CANNOT_STAND = 1;
    private static final int NUMBER_BEYOND = 2;
    private static final int TOO_DEEP = 3;
    private static final int LAW_AGAIN = 4;
    private static final int NAME_ELSEWHERE = 5;
    private static final int TOO_MANY = 6;

    private final Text[] shelf;
    private final City city;
    private final Steps steps;
    private final Told told;
    private final City imageCity;
    private final Steps imageSteps;
    private final Told imageTold;
    private final City trial;
    private final Search search;
    private final Tape tape;
    private final Reader reader;

    public ThanksByPost() {
        shelf = new Text[MOST_TEXTS];
        for (int i = 0; i < MOST_TEXTS; i++) {
            shelf[i] = new Text();
        }
        Clerk clerk = new Clerk();
        city = new City(shelf, clerk);
        imageCity = new City(shelf, clerk);
        trial = new City(shelf, clerk);
        steps = new Steps();
        imageSteps = new Steps();
        told = new Told();
        imageTold = new Told();
        search = new Search(trial);
        tape = new Tape();
        reader = new Reader(tape);
    }

    // ---- what is told and done by hand

    public int owner(int lives) {
        if (lives < 0 || lives > 10 || city.owners >= MOST_OWNERS) {
            return NONE;
        }
        city.lives[city.owners] = lives;
        city.pence[city.owners] = 0;
        city.owners++;
        return city.owners - 1;
    }

    public int thing(int dear, int owner, int bulk) {
        boolean fits = within(dear, 0, MOST_DEAR) && city.hasOwner(owner) && within(bulk, 1, 9);
        if (!fits || city.count >= MOST_THINGS) {
            return NONE;
        }
        city.things[city.count].tell(dear, owner, bulk);
        city.count++;
        return city.count - 1;
    }

    public boolean room(int room) {
        if (!within(room, 0, MOST_ROOM)) {
            return false;
        }
        city.room = room;
        return true;
    }

    public int steal(int thing) {
        if (!city.canTake(thing)) {
            return NONE;
        }
        steps.keep(city);
        city.take(thing);
        return city.keptBulk();
    }

    public int send(int thing) {
        if (!city.isKept(thing)) {
            return NONE;
        }
        steps.keep(city);
        return city.comeBack(thing);
    }

    public boolean give(int thing, int owner) {
        if (!city.canHand(thing, owner)) {
            return false;
        }
        steps.keep(city);
        city.things[thing].with = owner;
        return true;
    }

    public int day(int n) {
        if (!within(n, 1, MOST_DAYS) || n > LAST_DAY - city.day) {
            return NONE;
        }
        int back = 0;
        for (int i = 0; i < n; i++) {
            steps.keep(city);
            back += city.passOne();
        }
        return back;
    }

    public int decades(int seed, int n) {
        if (!within(seed, 0, 9999) || !within(n, 1, 30) || city.count == 0) {
            return NONE;
        }
        steps.keep(city);
        city.x = seed * 2 + 89;
        for (int i = 0; i < n; i++) {
            city.drawOne();
        }
        return city.day;
    }

    public int undo() {
        if (steps.held == 0) {
            return NONE;
        }
        steps.takeBack(city);
        return steps.held;
    }

    // ---- texts

    public int feed(int a, int b, int c, int d, int e) {
        if (tape.length + FEED > MOST_BYTES) {
            return NONE;
        }
        tape.add(a);
        tape.add(b);
        tape.add(c);
        tape.add(d);
        tape.add(e);
        return tape.length;
    }

    public int end(int n) {
        if (n < 0 || n > tape.length) {
            return NONE;
        }
        tape.length = n;
        return n;
    }

    public int text() {
        if (city.texts >= MOST_TEXTS) {
            return NONE;
        }
        boolean good = reader.readInto(shelf[city.texts]);
        tape.length = 0;
        if (!good) {
            return NONE;
        }
        city.texts++;
        return city.texts - 1;
    }

    public int fault(int what) {
        if (!reader.hasRead) {
            return NONE;
        }
        if (what == 0) {
            return reader.wrong;
        }
        return what == 1 ? reader.place : NONE;
    }

    public boolean by(int text) {
        if (text != NONE && !within(text, 0, city.texts - 1)) {
            return false;
        }
        city.ruling = text;
        return true;
    }

    public int played(int text) {
        if (!within(text, 0, city.texts - 1)) {
            return NO;
        }
        Text script = shelf[text];
        for (int i = 0; i < script.clauses; i++) {
            if (!couldDo(script, i)) {
                return i;
            }
        }
        return NONE;
    }

    private boolean couldDo(Text script, int i) {
        int a = script.a[i];
        int b = script.b[i];
        switch (script.kind[i]) {
            case OWNER:
                return owner(a) != NONE;
            case THING:
                return thing(a, b, script.c[i]) != NONE;
            case ROOM:
                return room(a);
            case STEAL:
                return steal(a) != NONE;
            case SEND:
                return send(a) != NONE;
            case GIVE:
                return give(a, b);
            case DAY:
                int possible = Math.min(a, LAST_DAY - city.day);
                day(possible);
                return possible == a;
            default:
                // A law rules only by by(), so there is nothing to do for it.
                return true;
        }
    }

    // ---- what is

    public int ofOwner(int owner, int what) {
        if (!city.hasOwner(owner)) {
            return NO_OWNER;
        }
        switch (what) {
            case 0:
                return city.lives[owner];
            case 1:
                return city.pence[owner];
            case 2:
                return city.thingsWith(owner);
            default:
                return NO_OWNER;
        }
    }

    public int of(int thing, int what) {
        if (!city.hasThing(thing)) {
            return NO;
        }
        Thing one = city.things[thing];
        switch (what) {
            case 0:
                return one.dear;
            case 1:
                return one.bulk;
            case 2:
                return one.first;
            case 3:
                return one.with;
            case 4:
                return one.with == NONE ? one.since : NONE;
            case 5:
                return one.with == NONE ? one.from : NONE;
            default:
                return NO;
        }
    }

    public int law(int thing, int what) {
        if (!city.isKept(thing) || !within(what, 0, LAWS - 1)) {
            return NO_LAW;
        }
        int to = what == BRINGS ? city.lawOf(thing, TO, NONE) : NONE;
        return city.lawOf(thing, what, to);
    }

    public int book(int i, int what) {
        if (i == NONE) {
            return city.written;
        }
        if (!within(i, 0, city.written - 1)) {
            return NO;
        }
        int card = city.cards[i];
        switch (what) {
            case 0:
                return cardDay(card);
            case 1:
                return cardThing(card);
            case 2:
                return cardTo(card);
            case 3:
                return cardDear(card);
            default:
                return NO;
        }
    }

    public int about(int what) {
        switch (what) {
            case 0:
                return city.owners;
            case 1:
                return city.count;
            case 2:
                return city.room;
            case 3:
                return city.day;
            case 4:
                return city.x;
            case 5:
                return city.texts;
            case 6:
                return city.ruling;
            case 7:
                return steps.held;
            case 8:
                return told.plans;
            case 9:
                return told.votes;
            case 10:
                return told.seen;
            case 11:
                return tape.length;
            default:
                return NO;
        }
    }

    // ---- what is to come

    public int foretold(int n, int thing, int what) {
        if (!within(n, 1, MOST_DAYS) || !city.hasThing(thing) || !within(what, 0, 1)) {
            return NO;
        }
        tryDays(n);
        Thing one = trial.things[thing];
        return what == 0 ? one.dear : one.with;
    }

    public int pence(int n, int owner) {
        if (!within(n, 1, MOST_DAYS) || !city.hasOwner(owner)) {
            return NO_OWNER;
        }
        tryDays(n);
        return trial.pence[owner];
    }

    private void tryDays(int n) {
        trial.copy(city);
        int possible = Math.min(n, LAST_DAY - city.day);
        for (int i = 0; i < possible; i++) {
            trial.passOne();
        }
    }

    public int plan(int thing, int days) {
        if (thing == NONE) {
            told.plans = 0;
            return 0;
        }
        if (!city.hasThing(thing) || !within(days, 0, MOST_DAYS) || told.plans >= MOST_PLANNED) {
            return NO;
        }
        told.planThing[told.plans] = thing;
        told.planDays[told.plans] = days;
        told.plans++;
        return told.plans;
    }

    public int first() {
        trial.copy(city);
        // Those planned for days that can't pass are passed over, so there is no looking behind the last.
        int possible = Math.min(MOST_DAYS, LAST_DAY - city.day);
        for (int ahead = 0; ahead <= possible; ahead++) {
            if (ahead > 0) {
                trial.passOne();
            }
            int plan = firstThatCannot(ahead);
            if (plan != NONE) {
                return plan;
            }
        }
        return NONE;
    }

    private int firstThatCannot(int ahead) {
        for (int i = 0; i < told.plans; i++) {
            if (told.planDays[i] == ahead) {
                if (!trial.canTake(told.planThing[i])) {
                    return i;
                }
                trial.take(told.planThing[i]);
            }
        }
        return NONE;
    }

    public int fewest(int thing, int owner, int n, int i) {
        boolean fits = city.hasThing(thing) && city.hasOwner(owner) && within(n, 1, Search.MOST_DEPTH);
        if (!fits || i < NONE || i >= n) {
            return NONE;
        }
        trial.copy(city);
        search.start(thing, owner, n);
        if (search.fewest > n) {
            return NONE;
        }
        return i == NONE ? search.fewest : search.best[i];
    }

    // ---- what is worth knowing

    public int worth(int room) {
        if (!within(room, 0, MOST_ROOM)) {
            return NONE;
        }
        int best = 0;
        int most = 0;
        for (int set = 1; set < 1 << city.count; set++) {
            int dear = city.dearOf(set);
            if (dear > most && city.bulkOf(set) <= room) {
                most = dear;
                best = set;
            }
        }
        return best;
    }

    public int whose(int thing) {
        if (!city.hasThing(thing)) {
            return NONE;
        }
        int owners = 0;
        for (int i = 0; i < city.written; i++) {
            if (cardThing(city.cards[i]) == thing) {
                owners |= 1 << cardTo(city.cards[i]);
            }
        }
        return owners;
    }

    public int twice() {
        int things = 0;
        for (int i = 1; i < city.written; i++) {
            int thing = cardThing(city.cards[i]);
            int to = cardTo(city.cards[i]);
            for (int j = 0; j < i; j++) {
                if (cardThing(city.cards[j]) == thing && cardTo(city.cards[j]) == to) {
                    things |= 1 << thing;
                }
            }
        }
        return things;
    }

    public int since(int thing, int d0, int d1, boolean most) {
        boolean fits = within(d0, 0, MOST_DEAR) && within(d1, 0, MOST_DEAR);
        if (!fits || !city.hasThing(thing)) {
            return NONE;
        }
        trial.copy(city);
        Thing one = trial.things[thing];
        if (one.with != NONE) {
            trial.take(thing);
        }
        one.since = trial.day;
        one.dear = d0;
        int found = one.dear == d1 ? 0 : NONE;
        for (int days = 1; days <= MOST_DAYS && (most || found == NONE); days++) {
            // The document lets DAY go on here and names no last day for it.
            trial.day++;
            trial.grow(thing);
            if (one.dear == d1) {
                found = days;
            }
        }
        return found;
    }

    public int bargain(int w, int n, int d, boolean second) {
        if (!within(w, 0, 9999) || !within(n, 1, 20) || !within(d, 0, 9999)) {
            return NONE;
        }
        // Told from the last offer back: what the one who offers has, and the other.
        int offers = 0;
        int takes = 0;
        for (int i = n - 1; i >= 0; i--) {
            int pot = Math.max(0, w - i * d);
            takes = offers;
            offers = pot - takes;
        }
        return second ? takes : offers;
    }

    // ---- votes and thieves

    public int vote(int vote) {
        if (vote == NONE) {
            told.votes = 0;
            return 0;
        }
        if (!within(vote, 0, 99) || told.votes >= MOST_TOLD) {
            return NO;
        }
        told.vote[told.votes] = vote;
        told.votes++;
        return told.votes;
    }

    public int voted(boolean mean) {
        return told.votes == 0 ? NONE : told.outcome(mean);
    }

    public int lying(int k, boolean mean) {
        if (!within(k, 0, told.votes - 1)) {
            return NONE;
        }
        int truth = told.vote[k];
        int nearest = Math.abs(truth - told.outcome(mean));
        int honest = nearest;
        for (int lie = 0; lie <= 99; lie++) {
            told.vote[k] = lie;
            nearest = Math.min(nearest, Math.abs(truth - told.outcome(mean)));
        }
        told.vote[k] = truth;
        return honest - nearest;
    }

    public int seen(int dear, int bulk, boolean happy) {
        if (dear == NONE) {
            told.seen = 0;
            return 0;
        }
        if (!within(dear, 0, MOST_DEAR) || !within(bulk, 1, 9) || told.seen >= MOST_TOLD) {
            return NO;
        }
        told.seenDear[told.seen] = dear;
        told.seenBulk[told.seen] = bulk;
        told.seenHappy[told.seen] = happy;
        told.seen++;
        return told.seen;
    }

    public int rule() {
        for (int dear = 0; dear <= 100; dear++) {
            for (int bulk = 1; bulk <= 10; bulk++) {
                if (told.allFit(dear, bulk)) {
                    return dear * 100 + bulk;
                }
            }
        }
        return NONE;
    }

    public long odds(int owners, int n, boolean low) {
        if (owners < 1 || owners >= 1 << city.owners || !within(n, 0, 3)) {
            return NONE;
        }
        long upper = 1;
        long lower = 1;
        for (int i = 0; i < city.owners; i++) {
            if ((owners >> i & 1) == 1) {
                upper *= power(city.lives[i], n);
                lower *= power(10, n);
            }
        }
        long common = commonMeasure(upper, lower);
        return (low ? lower : upper) / common;
    }

    public int early() {
        int best = NONE;
        long most = -1;
        for (int i = 0; i < city.count; i++) {
            if (city.isKept(i)) {
                Thing one = city.things[i];
                int wait = Math.max(0, city.lawOf(i, AFTER, NONE) - (city.day - one.since));
                int years = Math.min(MOST_YEARS, (wait + YEAR - 1) / YEAR);
                long dies = power(10, years) - power(city.lives[one.from], years);
                // All odds are told in parts of ten to the most years, to be weighed as they are.
                long weight = one.dear * dies * power(10, MOST_YEARS - years);
                if (weight > most) {
                    most = weight;
                    best = i;
                }
            }
        }
        return best;
    }

    // ---- an image to go back to

    public int image() {
        imageCity.copy(city);
        imageSteps.copy(steps);
        imageTold.copy(told);
        return city.day;
    }

    public int back() {
        city.copy(imageCity);
        steps.copy(imageSteps);
        told.copy(imageTold);
        return city.day;
    }

    // ---- small reckonings

    private static boolean within(int value, int least, int most) {
        return value >= least && value <= most;
    }

    private static int between(int value, int least, int most) {
        return Math.max(least, Math.min(most, value));
    }

    private static long power(long base, int n) {
        long product = 1;
        for (int i = 0; i < n; i++) {
            product *= base;
        }
        return product;
    }

    /** b is at least 1, so that what comes out divides. */
    private static long commonMeasure(long a, long b) {
        // Of numbers below 2^63 the rests end after fewer than a hundred turns.
        for (int i = 0; i < 100 && a != 0; i++) {
            long rest = b % a;
            b = a;
            a = rest;
        }
        return b;
    }

    // A card of the book is one number, so that a step keeps the whole book in few fields.

    private static int card(int day, int thing, int to, int dear) {
        return ((day * MOST_THINGS + thing) * MOST_OWNERS + to) * 100 + dear;
    }

    private static int cardDay(int card) {
        return card / (100 * MOST_OWNERS * MOST_THINGS);
    }

    private static int cardThing(int card) {
        return card / (100 * MOST_OWNERS) % MOST_THINGS;
    }

    private static int cardTo(int card) {
        return card / 100 % MOST_OWNERS;
    }

    private static int cardDear(int card) {
        return card % 100;
    }

    /** One thing: as it was told, and as it is. */
    private static final class Thing {
        private int told;
        private int first;
        private int bulk;
        private int dear;
        private int with;
        private int since;
        private int from;

        private void tell(int dear, int owner, int bulk) {
            this.told = dear;
            this.first = owner;
            this.bulk = bulk;
            beAsTold();
        }

        private void beAsTold() {
            dear = told;
            with = first;
            since = 0;
            from = first;
        }

        private void copy(Thing other) {
            told = other.told;
            first = other.first;
            bulk = other.bulk;
            dear = other.dear;
            with = other.with;
            since = other.since;
            from = other.from;
        }
    }

    /** Owners, things, the day and the book: all that a day changes, and what rules it. */
    private static final class City {
        private static final int ROW = 5 + MOST_OWNERS + MOST_RETURNS + 4 * MOST_THINGS;

        private final Text[] shelf;
        private final Clerk clerk;
        private final int[] lives = new int[MOST_OWNERS];
        private final int[] pence = new int[MOST_OWNERS];
        private final Thing[] things = new Thing[MOST_THINGS];
        private final int[] cards = new int[MOST_RETURNS];
        private int owners;
        private int count;
        private int written;
        private int room = 9;
        private int day;
        private int x = 89;
        private int texts;
        private int ruling = NONE;

        private City(Text[] shelf, Clerk clerk) {
            this.shelf = shelf;
            this.clerk = clerk;
            for (int i = 0; i < MOST_THINGS; i++) {
                things[i] = new Thing();
            }
        }

        private void copy(City other) {
            System.arraycopy(other.lives, 0, lives, 0, MOST_OWNERS);
            System.arraycopy(other.pence, 0, pence, 0, MOST_OWNERS);
            System.arraycopy(other.cards, 0, cards, 0, MOST_RETURNS);
            for (int i = 0; i < MOST_THINGS; i++) {
                things[i].copy(other.things[i]);
            }
            owners = other.owners;
            count = other.count;
            written = other.written;
            room = other.room;
            day = other.day;
            x = other.x;
            texts = other.texts;
            ruling = other.ruling;
        }

        /** Writes down what a step can change; the row has ROW fields. */
        private void save(int[] row) {
            row[0] = day;
            row[1] = x;
            row[2] = owners;
            row[3] = count;
            row[4] = written;
            System.arraycopy(pence, 0, row, 5, MOST_OWNERS);
            System.arraycopy(cards, 0, row, 5 + MOST_OWNERS, MOST_RETURNS);
            int at = 5 + MOST_OWNERS + MOST_RETURNS;
            for (int i = 0; i < MOST_THINGS; i++) {
                row[at + 4 * i] = things[i].dear;
                row[at + 4 * i + 1] = things[i].with;
                row[at + 4 * i + 2] = things[i].since;
                row[at + 4 * i + 3] = things[i].from;
            }
        }

        private void load(int[] row) {
            day = row[0];
            x = row[1];
            written = row[4];
            for (int i = 0; i < MOST_OWNERS; i++) {
                pence[i] = i < row[2] ? row[5 + i] : 0;
            }
            System.arraycopy(row, 5 + MOST_OWNERS, cards, 0, MOST_RETURNS);
            int at = 5 + MOST_OWNERS + MOST_RETURNS;
            for (int i = 0; i < MOST_THINGS; i++) {
                if (i < row[3]) {
                    things[i].dear = row[at + 4 * i];
                    things[i].with = row[at + 4 * i + 1];
                    things[i].since = row[at + 4 * i + 2];
                    things[i].from = row[at + 4 * i + 3];
                } else {
                    things[i].beAsTold();
                }
            }
        }

        private boolean hasOwner(int owner) {
            return owner >= 0 && owner < owners;
        }

        private boolean hasThing(int thing) {
            return thing >= 0 && thing < count;
        }

        private boolean isKept(int thing) {
            return hasThing(thing) && things[thing].with == NONE;
        }

        private boolean canTake(int thing) {
            return hasThing(thing) && things[thing].with != NONE
                && keptBulk() + things[thing].bulk <= room;
        }

        private boolean canHand(int thing, int owner) {
            return hasThing(thing) && hasOwner(owner)
                && things[thing].with != NONE && things[thing].with != owner;
        }

        private int keptBulk() {
            return bulkOf(thingsWith(NONE));
        }

        private int thingsWith(int owner) {
            int set = 0;
            for (int i = 0; i < count; i++) {
                if (things[i].with == owner) {
                    set |= 1 << i;
                }
            }
            return set;
        }

        private int bulkOf(int set) {
            int bulk = 0;
            for (int i = 0; i < count; i++) {
                bulk += (set >> i & 1) * things[i].bulk;
            }
            return bulk;
        }

        private int dearOf(int set) {
            int dear = 0;
            for (int i = 0; i < count; i++) {
                dear += (set >> i & 1) * things[i].dear;
            }
            return dear;
        }

        /** Only for a thing that can be stolen. */
        private void take(int thing) {
            Thing one = things[thing];
            one.from = one.with;
            one.since = day;
            one.with = NONE;
        }

        /** Only for a kept thing. */
        private int comeBack(int thing) {
            Thing one = things[thing];
            int to = lawOf(thing, TO, NONE);
            int brings = lawOf(thing, BRINGS, to);
            one.with = to;
            pence[to] = between(pence[to] + brings, -MOST_WORTH, MOST_WORTH);
            if (written == MOST_RETURNS) {
                System.arraycopy(cards, 1, cards, 0, MOST_RETURNS - 1);
                written--;
            }
            cards[written] = card(day, thing, to, one.dear);
            written++;
            return to;
        }

        /** A day, only if one can pass: how many come back. */
        private int passOne() {
            int back = 0;
            day++;
            for (int i = 0; i < count; i++) {
                if (isKept(i)) {
                    grow(i);
                    if (day - things[i].since >= lawOf(i, AFTER, NONE)) {
                        comeBack(i);
                        back++;
                    }
                }
            }
            return back;
        }

        private void grow(int thing) {
            Thing one = things[thing];
            one.dear = between(one.dear + lawOf(thing, DEARS, NONE), 0, MOST_DEAR);
        }

        /** What a law says of a kept thing; to is whose pence it may ask for. */
        private int lawOf(int thing, int law, int to) {
            Thing one = things[thing];
            int[] values = clerk.values;
            values[DAY] = day;
            values[KEPT] = day - one.since;
            values[DEAR] = one.dear;
            values[BULK] = one.bulk;
            values[OWNER] = one.first;
            values[FROM] = one.from;
            values[THING] = thing;
            values[PENCE] = hasOwner(to) ? pence[to] : 0;
            boolean says = ruling >= 0 && ruling < texts && shelf[ruling].start[law] != NONE;
            int answer = says ? clerk.workOut(shelf[ruling], law) : 0;
            switch (law) {
                case DEARS:
                    return says ? between(answer, -99, 99) : 1;
                case AFTER:
                    return says ? between(answer, 0, 9999) : 9;
                case TO:
                    return says ? between(answer, 0, owners - 1) : one.from;
                default:
                    return says ? between(answer, -9999, 9999) : one.dear;
            }
        }

        /** What is drawn is of X as it stands; X steps behind it, for the next draw. */
        private int draw(int m) {
            int drawn = m > 0 ? x % m : 0;
            x = (x * 293 + 197) % 30319;
            return drawn;
        }

        /** One draw's doing, only where there are things. */
        private void drawOne() {
            int what = draw(5);
            int thing = draw(count);
            int owner = what == 3 ? draw(owners) : NONE;
            if (what <= 1 && canTake(thing)) {
                take(thing);
            } else if (what == 2 && isKept(thing)) {
                comeBack(thing);
            } else if (what == 3 && canHand(thing, owner)) {
                things[thing].with = owner;
            } else if (what == 4 && day < LAST_DAY) {
                passOne();
            }
        }
    }

    /** The latest steps, each as all was ahead of it. */
    private static final class Steps {
        private final int[][] rows = new int[MOST_STEPS][City.ROW];
        private int held;
        private int next;

        private void keep(City city) {
            city.save(rows[next]);
            next = (next + 1) % MOST_STEPS;
            held = Math.min(held + 1, MOST_STEPS);
        }

        /** Only where a step is held. */
        private void takeBack(City city) {
            next = (next + MOST_STEPS - 1) % MOST_STEPS;
            held--;
            city.load(rows[next]);
        }

        private void copy(Steps other) {
            for (int i = 0; i < MOST_STEPS; i++) {
                System.arraycopy(other.rows[i], 0, rows[i], 0, City.ROW);
            }
            held = other.held;
            next = other.next;
        }
    }

    /** What is planned, voted and seen. */
    private static final class Told {
        private final int[] planThing = new int[MOST_PLANNED];
        private final int[] planDays = new int[MOST_PLANNED];
        private final int[] vote = new int[MOST_TOLD];
        private final int[] bySize = new int[MOST_TOLD];
        private final int[] seenDear = new int[MOST_TOLD];
        private final int[] seenBulk = new int[MOST_TOLD];
        private final boolean[] seenHappy = new boolean[MOST_TOLD];
        private int plans;
        private int votes;
        private int seen;

        private void copy(Told other) {
            System.arraycopy(other.planThing, 0, planThing, 0, MOST_PLANNED);
            System.arraycopy(other.planDays, 0, planDays, 0, MOST_PLANNED);
            System.arraycopy(other.vote, 0, vote, 0, MOST_TOLD);
            System.arraycopy(other.seenDear, 0, seenDear, 0, MOST_TOLD);
            System.arraycopy(other.seenBulk, 0, seenBulk, 0, MOST_TOLD);
            System.arraycopy(other.seenHappy, 0, seenHappy, 0, MOST_TOLD);
            plans = other.plans;
            votes = other.votes;
            seen = other.seen;
        }

        /** Only where there are votes. */
        private int outcome(boolean mean) {
            return mean ? mean() : middle();
        }

        private int mean() {
            int sum = 0;
            for (int i = 0; i < votes; i++) {
                sum += vote[i];
            }
            return votes == 0 ? NONE : sum / votes;
        }

        private int middle() {
            for (int i = 0; i < votes; i++) {
                int at = i;
                for (int j = i; j > 0 && bySize[j - 1] > vote[i]; j--) {
                    bySize[j] = bySize[j - 1];
                    at = j - 1;
                }
                bySize[at] = vote[i];
            }
            return votes == 0 ? NONE : bySize[(votes - 1) / 2];
        }

        private boolean allFit(int dear, int bulk) {
            for (int i = 0; i < seen; i++) {
                boolean happy = seenDear[i] >= dear && seenBulk[i] >= bulk;
                if (happy != seenHappy[i]) {
                    return false;
                }
            }
            return true;
        }
    }

    /** Looks through all acts of up to three days, those first that stand first among like ones. */
    private static final class Search {
        private static final int MOST_DEPTH = 3;

        private final City trial;
        private final int[][] rows = new int[MOST_DEPTH][City.ROW];
        private final int[] acts = new int[MOST_DEPTH];
        private final int[] best = new int[MOST_DEPTH];
        private int fewest;
        private int thing;
        private int owner;
        private int days;

        private Search(City trial) {
            this.trial = trial;
        }

        private void start(int thing, int owner, int days) {
            this.thing = thing;
            this.owner = owner;
            this.days = days;
            fewest = days + 1;
            look(0, 0);
        }

        /** An act that can't be does what no act does, so it is never among the fewest. */
        private void look(int depth, int done) {
            if (done >= fewest) {
                return;
            }
            if (depth >= days || depth >= MOST_DEPTH) {
                if (trial.things[thing].with == owner) {
                    fewest = done;
                    System.arraycopy(acts, 0, best, 0, MOST_DEPTH);
                }
                return;
            }
            trial.save(rows[depth]);
            goOn(depth, done, 0);
            for (int i = 0; i < trial.count; i++) {
                if (trial.canTake(i)) {
                    trial.take(i);
                    goOn(depth, done + 1, ACT_STEAL + i);
                }
            }
            for (int i = 0; i < trial.count; i++) {
                if (trial.isKept(i)) {
                    trial.comeBack(i);
                    goOn(depth, done + 1, ACT_SEND + i);
                }
            }
        }

        private void goOn(int depth, int done, int act) {
            acts[depth] = act;
            if (trial.day < LAST_DAY) {
                trial.passOne();
            }
            look(depth + 1, done);
            trial.load(rows[depth]);
        }
    }

    /** The bytes that have been fed and not been read. */
    private static final class Tape {
        private final int[] bytes = new int[MOST_BYTES];
        private int length;

        /** Only where four more bytes have room. */
        private void add(int four) {
            for (int shift = 24; shift >= 0; shift -= 8) {
                bytes[length] = four >> shift & 255;
                length++;
            }
        }

        private int at(int i) {
            return i >= 0 && i < length ? bytes[i] : NONE;
        }
    }

    /** A text that was read: its clauses, and its laws as orders for the clerk. */
    private static final class Text {
        private final int[] kind = new int[MOST_CLAUSES];
        private final int[] a = new int[MOST_CLAUSES];
        private final int[] b = new int[MOST_CLAUSES];
        private final int[] c = new int[MOST_CLAUSES];
        private final int[] start = new int[LAWS];
        private final int[] stop = new int[LAWS];
        private final int[] order = new int[MOST_BYTES];
        private final int[] operand = new int[MOST_BYTES];
        private int clauses;
        private int orders;

        private void empty() {
            Arrays.fill(start, NONE);
            Arrays.fill(stop, NONE);
            clauses = 0;
            orders = 0;
        }

        /** Every order stands for one sign at least, so that a tape's bytes are enough. */
        private int add(int what, int value) {
            if (orders >= MOST_BYTES) {
                return NONE;
            }
            order[orders] = what;
            operand[orders] = value;
            orders++;
            return orders - 1;
        }

        /** The order at that place goes on here. */
        private void leadHere(int place) {
            if (place >= 0 && place < orders) {
                operand[place] = orders;
            }
        }
    }

    /** Works a law out, order by order, on a pile of numbers. */
    private static final class Clerk {
        private final int[] values = new int[WORDS_WITH_VALUES];
        private final int[] pile = new int[MOST_BYTES + 2];

        private int workOut(Text text, int law) {
            int top = 0;
            for (int i = text.start[law]; i >= 0 && i < text.stop[law]; i++) {
                int order = text.order[i];
                int operand = text.operand[i];
                if (order == NUMBER || order == NAME) {
                    pile[top] = order == NUMBER ? operand : values[operand];
                    top = Math.min(top + 1, MOST_BYTES);
                } else if (order == ELSE) {
                    i = Math.max(i, operand - 1);
                } else if (order == THEN) {
                    top = Math.max(top - 1, 0);
                    i = pile[top] == 0 ? Math.max(i, operand - 1) : i;
                } else if (order == NEGATE || order == NOT) {
                    int last = Math.max(top - 1, 0);
                    pile[last] = order == NEGATE ? -pile[last] : 1 - pile[last];
                } else {
                    top = Math.max(top - 1, 1);
                    pile[top - 1] = bounded(joined(order, pile[top - 1], pile[top]));
                }
            }
            return pile[0];
        }

        private static int bounded(long value) {
            return (int) (value > MOST_WORTH ? MOST_WORTH : value < -MOST_WORTH ? -MOST_WORTH : value);
        }

        private static long joined(int order, int a, int b) {
            switch (order) {
                case PLUS:
                    return (long) a + b;
                case MINUS:
                    return (long) a - b;
                case TIMES:
                    return (long) a * b;
                case OVER:
                    return b == 0 ? 0 : a / b;
                case LEFT:
                    int rest = b == 0 ? 0 : a % b;
                    int size = b < 0 ? -b : b;
                    return rest < 0 ? rest + size : rest;
                case LESS:
                    return a < b ? 1 : 0;
                case AT_MOST:
                    return a <= b ? 1 : 0;
                case MORE:
                    return a > b ? 1 : 0;
                case AT_LEAST:
                    return a >= b ? 1 : 0;
                case EQUAL:
                    return a == b ? 1 : 0;
                case UNLIKE:
                    return a != b ? 1 : 0;
                case AND:
                    return a & b;
                case OR:
                    return a | b;
                default:
                    return 0;
            }
        }
    }

    /** The tape's signs, all found ahead of the reading, and the one that is come to. */
    private static final class Signs {
        private final Tape tape;
        private final int[] kinds = new int[MOST_BYTES + 1];
        private final int[] values = new int[MOST_BYTES + 1];
        private final int[] places = new int[MOST_BYTES + 1];
        private int at;
        private int kind;

        private Signs(Tape tape) {
            this.tape = tape;
        }

        private void find() {
            int count = 0;
            int next = 0;
            for (int i = 0; i < MOST_BYTES && next < tape.length; i++) {
                if (isBlank(tape.at(next))) {
                    next++;
                } else {
                    places[count] = next;
                    next = findOne(count, next);
                    count++;
                }
            }
            kinds[count] = TAPE_END;
            places[count] = tape.length;
            at = 0;
            kind = kinds[0];
        }

        /** Where the sign that begins there ends. */
        private int findOne(int count, int from) {
            int c = tape.at(from);
            int to = from + 1;
            if (isLetter(c)) {
                while (to < tape.length && isLetter(tape.at(to))) {
                    to++;
                }
                kinds[count] = wordKind(from, to);
            } else if (isDigit(c)) {
                while (to < tape.length && isDigit(tape.at(to))) {
                    to++;
                }
                kinds[count] = NUMBER;
                values[count] = number(from, to);
            } else {
                kinds[count] = markKind(c, tape.at(to));
                to += kinds[count] == AT_MOST || kinds[count] == AT_LEAST ? 1 : 0;
            }
            return to;
        }

        private void advance() {
            at = Math.min(at + 1, MOST_BYTES);
            kind = kinds[at];
        }

        private int number(int from, int to) {
            int value = 0;
            for (int i = from; i < to; i++) {
                // One above the most is enough to be told that it is above.
                value = Math.min(value * 10 + tape.at(i) - '0', MOST_NUMBER + 1);
            }
            return value;
        }

        private static boolean isBlank(int c) {
            return c == 32 || c == 10;
        }

        private static boolean isLetter(int c) {
            return c >= 'a' && c <= 'z' || c >= 'A' && c <= 'Z';
        }

        private static boolean isDigit(int c) {
            return c >= '0' && c <= '9';
        }

        private static int markKind(int c, int behind) {
            switch (c) {
                case '<':
                    return behind == '=' ? AT_MOST : LESS;
                case '>':
                    return behind == '=' ? AT_LEAST : MORE;
                case '=':
                    return EQUAL;
                case '#':
                    return UNLIKE;
                case '+':
                    return PLUS;
                case '-':
                    return MINUS;
                case '*':
                    return TIMES;
                case '/':
                    return OVER;
                case '(':
                    return OPEN;
                case ')':
                    return CLOSE;
                case ';':
                    return SEMICOLON;
                default:
                    return STRANGE;
            }
        }

        private int wordKind(int from, int to) {
            if (reads("dears", from, to)) return DEARS;
            if (reads("after", from, to)) return AFTER;
            if (reads("to", from, to)) return TO;
            if (reads("brings", from, to)) return BRINGS;
            if (reads("owner", from, to)) return OWNER;
            if (reads("thing", from, to)) return THING;
            if (reads("room", from, to)) return ROOM;
            if (reads("steal", from, to)) return STEAL;
            if (reads("send", from, to)) return SEND;
            if (reads("give", from, to)) return GIVE;
            if (reads("day", from, to)) return DAY;
            if (reads("kept", from, to)) return KEPT;
            if (reads("dear", from, to)) return DEAR;
            if (reads("bulk", from, to)) return BULK;
            if (reads("from", from, to)) return FROM;
            if (reads("pence", from, to)) return PENCE;
            if (reads("of", from, to)) return OF;
            if (reads("left", from, to)) return LEFT;
            if (reads("if", from, to)) return IF;
            if (reads("then", from, to)) return THEN;
            if (reads("else", from, to)) return ELSE;
            if (reads("end", from, to)) return END;
            if (reads("or", from, to)) return OR;
            if (reads("and", from, to)) return AND;
            if (reads("not", from, to)) return NOT;
            return STRANGE;
        }

        private boolean reads(String word, int from, int to) {
            if (to - from != word.length()) {
                return false;
            }
            for (int i = 0; i < word.length(); i++) {
                if (tape.at(from + i) != word.charAt(i)) {
                    return false;
                }
            }
            return true;
        }
    }

    /** Reads a tape as a text, up to its first fault. */
    private static final class Reader {
        private final Signs signs;
        private Text into;
        private int law;
        private boolean hasRead;
        private int wrong;
        private int place = NONE;

        private Reader(Tape tape) {
            signs = new Signs(tape);
        }

        private boolean readInto(Text text) {
            hasRead = true;
            wrong = 0;
            place = NONE;
            into = text;
            into.empty();
            signs.find();
            // The clause behind the last that may be is the one that has the fault.
            for (int i = 0; i <= MOST_CLAUSES && wrong == 0 && signs.kind != TAPE_END; i++) {
                clause();
            }
            return wrong == 0;
        }

        /** The first fault stays; behind it no sign is taken any more. */
        private void fail(int which) {
            if (wrong == 0) {
                wrong = which;
                place = signs.places[signs.at];
            }
            signs.kind = STOPPED;
        }

        private void expect(int kind) {
            if (signs.kind == kind) {
                signs.advance();
            } else {
                fail(CANNOT_STAND);
            }
        }

        private int number(int least, int most) {
            int value = signs.values[signs.at];
            if (signs.kind != NUMBER) {
                fail(CANNOT_STAND);
                return 0;
            }
            if (!within(value, least, most)) {
                fail(NUMBER_BEYOND);
                return 0;
            }
            signs.advance();
            return value;
        }

        private void clause() {
            int kind = signs.kind;
            if (kind > GIVE && kind != DAY) {
                fail(CANNOT_STAND);
            } else if (kind < LAWS && into.start[kind] != NONE) {
                fail(LAW_AGAIN);
            } else if (into.clauses >= MOST_CLAUSES) {
                fail(TOO_MANY);
            } else {
                into.kind[into.clauses] = kind;
                signs.advance();
                if (kind < LAWS) {
                    law = kind;
                    into.start[kind] = into.orders;
                    sum(0);
                    into.stop[kind] = into.orders;
                } else {
                    readDeed(kind, into.clauses);
                }
                expect(SEMICOLON);
                into.clauses++;
            }
        }

        private void readDeed(int kind, int at) {
            switch (kind) {
                case OWNER:
                    into.a[at] = number(0, 10);
                    break;
                case THING:
                    into.a[at] = number(0, MOST_DEAR);
                    expect(OF);
                    into.b[at] = number(0, MOST_OWNERS - 1);
                    expect(BULK);
                    into.c[at] = number(1, 9);
                    break;
                case ROOM:
                    into.a[at] = number(0, MOST_ROOM);
                    break;
                case GIVE:
                    into.a[at] = number(0, MOST_THINGS - 1);
                    expect(TO);
                    into.b[at] = number(0, MOST_OWNERS - 1);
                    break;
                case DAY:
                    into.a[at] = number(1, MOST_DAYS);
                    break;
                default:
                    into.a[at] = number(0, MOST_THINGS - 1);
                    break;
            }
        }

        // open says how many signs are open around what is read, and is never above MOST_OPEN.

        private void sum(int open) {
            product(open);
            for (int i = 0; i < MOST_BYTES && (signs.kind == PLUS || signs.kind == MINUS); i++) {
                int kind = signs.kind;
                signs.advance();
                product(open);
                into.add(kind, 0);
            }
        }

        private void product(int open) {
            one(open);
            for (int i = 0; i < MOST_BYTES && (signs.kind == TIMES || signs.kind == OVER); i++) {
                int kind = signs.kind;
                signs.advance();
                one(open);
                into.add(kind, 0);
            }
        }

        private void one(int open) {
            int kind = signs.kind;
            if (kind == NUMBER) {
                into.add(NUMBER, number(0, MOST_NUMBER));
            } else if (isName(kind)) {
                name(kind);
            } else if (kind != OPEN && kind != MINUS && kind != LEFT && kind != IF) {
                fail(CANNOT_STAND);
            } else if (open >= MOST_OPEN) {
                fail(TOO_DEEP);
            } else {
                signs.advance();
                opened(kind, open + 1);
            }
        }

        private static boolean isName(int kind) {
            return kind >= DAY && kind <= PENCE || kind == OWNER || kind == THING;
        }

        private void name(int kind) {
            boolean late = kind == PENCE || kind == THING && law != TO;
            if (late && law != BRINGS) {
                fail(NAME_ELSEWHERE);
            } else {
                into.add(NAME, kind);
                signs.advance();
            }
        }

        /** What stands behind a sign that opens. */
        private void opened(int kind, int open) {
            if (kind == OPEN) {
                sum(open);
                expect(CLOSE);
            } else if (kind == MINUS) {
                one(open);
                into.add(NEGATE, 0);
            } else if (kind == LEFT) {
                one(open);
                expect(OF);
                one(open);
                into.add(LEFT, 0);
            } else {
                either(open);
                expect(THEN);
                int unless = into.add(THEN, 0);
                sum(open);
                expect(ELSE);
                int over = into.add(ELSE, 0);
                into.leadHere(unless);
                sum(open);
                expect(END);
                into.leadHere(over);
            }
        }

        private void either(int open) {
            both(open);
            for (int i = 0; i < MOST_BYTES && signs.kind == OR; i++) {
                signs.advance();
                both(open);
                into.add(OR, 0);
            }
        }

        private void both(int open) {
            ask(open);
            for (int i = 0; i < MOST_BYTES && signs.kind == AND; i++) {
                signs.advance();
                ask(open);
                into.add(AND, 0);
            }
        }

        private void ask(int open) {
            if (signs.kind == NOT && open >= MOST_OPEN) {
                fail(TOO_DEEP);
            } else if (signs.kind == NOT) {
                signs.advance();
                ask(open + 1);
                into.add(NOT, 0);
            } else {
                sum(open);
                int kind = signs.kind;
                if (kind < LESS || kind > UNLIKE) {
                    fail(CANNOT_STAND);
                } else {
                    signs.advance();
                    sum(open);
                    into.add(kind, 0);
                }
            }
        }
    }
}
