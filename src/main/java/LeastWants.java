/**
 * It goes to who wants it least: towns of people and things, the rounds by which
 * a thing comes to one of those who say the least, and what can be foretold of them.
 * Every answer is an int; what is refused is told by a number, and nothing is thrown.
 */
public final class LeastWants {
    public static final int NONE = -1000000, BAD = -1000001, STATE = -1000002, FULL = -1000003;

    private static final int FINDING = -1000010;
    private static final int NULL = 1, PLACE = 2, KIND = 3, SIZE = 4, STORE = 5;
    private static final int FAULT = -1000100;
    private static final int ROWS = 8, IMAGES = 2, LAWS = 4, LAST_SEED = 999999;

    // All that the calls need is made here once and used again: no call makes an object.
    private final Row[] rows;
    private final Reader reader;
    private final Town[] images;
    private final Acts acts;
    private final Sayings sayings;
    private final Prospect prospect;
    private final Foretold foretold;
    private final Asking asking;
    private Town here;
    private Town spare;
    private int latestFault;
    private int latestFinding;

    public LeastWants() {
        rows = new Row[ROWS];
        for (int i = 0; i < ROWS; i++) {
            rows[i] = new Row();
        }
        images = new Town[IMAGES];
        for (int i = 0; i < IMAGES; i++) {
            images[i] = new Town();
        }
        reader = new Reader();
        acts = new Acts();
        sayings = new Sayings();
        prospect = new Prospect();
        foretold = new Foretold();
        asking = new Asking();
        here = new Town();
        spare = new Town();
    }

    // ---- rows

    public int row(int row, int lane, int n) {
        if (!isRow(row) || lane < 0 || lane >= Row.LANES || n > Row.MOST) {
            return BAD;
        }
        if (n < 0) {
            return found(SIZE);
        }
        rows[row].lay(lane, n);
        return fine(n);
    }

    public int set(int row, int i, int v) {
        if (!isRow(row)) {
            return BAD;
        }
        Row its = rows[row];
        if (its.missing) {
            return found(NULL);
        }
        if (i < 0 || i >= its.length) {
            return found(PLACE);
        }
        return fine(its.put(i, v));
    }

    public int copy(int a, int i, int b, int j, int n) {
        if (!isRow(a) || !isRow(b)) {
            return BAD;
        }
        Row from = rows[a];
        Row to = rows[b];
        if (from.missing || to.missing) {
            return found(NULL);
        }
        if (from.lane != to.lane) {
            return found(STORE);
        }
        if (!from.has(i, n) || !to.has(j, n)) {
            return found(PLACE);
        }
        System.arraycopy(from.items, i, to.items, j, n);
        return fine(n);
    }

    public int drop(int row) {
        if (!isRow(row)) {
            return BAD;
        }
        Row its = rows[row];
        if (its.missing) {
            return found(NULL);
        }
        its.missing = true;
        return fine(its.length);
    }

    // ---- towns, acts

    public int feed(long w, int n) {
        if (n < 1 || n > 8) {
            return BAD;
        }
        if (!reader.hasRoom(n)) {
            return FULL;
        }
        reader.append(w, n);
        return reader.fed;
    }

    public int town() {
        boolean sound = reader.readsInto(spare);
        reader.fed = 0;
        if (!sound) {
            latestFault = reader.wrong;
            return FAULT - reader.at;
        }
        Town before = here;
        here = spare;
        spare = before;
        acts.many = 0;
        return here.people;
    }

    public int fault() {
        return latestFault;
    }

    public int give(int thing, int row, int seed) {
        if (!isThing(thing) || !isRow(row) || !isSeed(seed)) {
            return BAD;
        }
        if (here.holders[thing] != NONE) {
            return STATE;
        }
        int refusal = hear(row);
        return refusal != 0 ? refusal : holdRound(thing, seed);
    }

    public int offer(int thing, int seed) {
        if (!isThing(thing) || !isSeed(seed)) {
            return BAD;
        }
        if (here.holders[thing] != NONE) {
            return STATE;
        }
        sayings.sayOwn(here, thing);
        return holdRound(thing, seed);
    }

    public int back(int thing) {
        if (!isThing(thing)) {
            return BAD;
        }
        int holder = here.holders[thing];
        if (holder == NONE) {
            return STATE;
        }
        acts.keep(here, thing);
        here.holders[thing] = NONE;
        here.worn[thing]++;
        return holder;
    }

    public int undo() {
        if (acts.many == 0) {
            return STATE;
        }
        acts.takeBack(here);
        return acts.many;
    }

    public int coin(int person) {
        return isPerson(person) ? here.coins[person] : BAD;
    }

    public int thing(int thing, int what) {
        if (!isThing(thing) || !isEither(what)) {
            return BAD;
        }
        return what == 0 ? here.holders[thing] : here.worn[thing];
    }

    public int worth(int thing, int person, int what) {
        if (!isThing(thing) || !isPerson(person) || !isEither(what)) {
            return BAD;
        }
        return what == 0 ? here.worthOf(thing, person) : here.ownSaying(thing, person);
    }

    // ---- foretold

    public int gain(int thing, int row, int person, int what) {
        if (!isThing(thing) || !isRow(row) || !isPerson(person) || !isEither(what)) {
            return BAD;
        }
        int refusal = hear(row);
        if (refusal != 0) {
            return refusal;
        }
        prospect.look(here, thing, sayings, person, here.pays);
        return ofFraction(prospect.gainBy(sayings.said[person]), prospect.odds, what);
    }

    public int best(int thing, int row, int person) {
        if (!isThing(thing) || !isRow(row) || !isPerson(person)) {
            return BAD;
        }
        int refusal = hear(row);
        if (refusal != 0) {
            return refusal;
        }
        prospect.look(here, thing, sayings, person, here.pays);
        return prospect.bestSaying();
    }

    public int rests(int thing, int k) {
        if (!isThing(thing) || (k != -1 && !isPerson(k))) {
            return BAD;
        }
        foretold.seekRests(here, thing);
        if (k == -1) {
            return foretold.manyRests;
        }
        return foretold.manyRests == 0 ? NONE : foretold.firstRest[k];
    }

    public int rounds(int thing, int row, int person) {
        if (!isThing(thing) || !isRow(row) || (person != -1 && !isPerson(person))) {
            return BAD;
        }
        int refusal = hear(row);
        if (refusal != 0) {
            return refusal;
        }
        int many = foretold.takeTurns(here, thing, sayings);
        return person == -1 ? many : sayings.said[person];
    }

    public int least(int thing, int what) {
        if (!isThing(thing) || !isEither(what)) {
            return BAD;
        }
        return what == 0 ? here.wantsLeast(thing) : here.wantsMost(thing);
    }

    public int lost(int thing, int row, int what) {
        if (!isThing(thing) || !isRow(row) || !isEither(what)) {
            return BAD;
        }
        int refusal = hear(row);
        if (refusal != 0) {
            return refusal;
        }
        int lowest = sayings.lowest(NONE);
        int greatest = here.worthOf(thing, here.wantsMost(thing));
        int loss = 0;
        for (int i = 0; i < here.people; i++) {
            if (sayings.said[i] == lowest) {
                loss += greatest - here.worthOf(thing, i);
            }
        }
        return ofFraction(loss, sayings.manyAt(lowest, NONE), what);
    }

    public int honest(int thing, int what) {
        if (!isThing(thing) || !isEither(what)) {
            return BAD;
        }
        sayings.sayOwn(here, thing);
        if (what == 0) {
            return foretold.isRest(here, thing, sayings, here.pays) ? 1 : 0;
        }
        int laws = 0;
        for (int pays = 0; pays < LAWS; pays++) {
            if (foretold.isRest(here, thing, sayings, pays)) {
                laws |= 1 << pays;
            }
        }
        return laws;
    }

    public int ore(int thing, int row) {
        if (!isThing(thing) || !isRow(row)) {
            return BAD;
        }
        int refusal = hear(row);
        if (refusal != 0) {
            return refusal;
        }
        int knowing = 0;
        for (int i = 0; i < here.people; i++) {
            if (sayings.said[i] < here.ownSaying(thing, i)) {
                knowing |= 1 << i;
            }
        }
        return knowing;
    }

    public int image(int k) {
        if (k < 0 || k >= IMAGES) {
            return BAD;
        }
        if (here.people == 0) {
            return STATE;
        }
        images[k].becomeLike(here);
        return 1;
    }

    public int restore(int k) {
        if (k < 0 || k >= IMAGES) {
            return BAD;
        }
        if (images[k].people == 0) {
            return STATE;
        }
        here.becomeLike(images[k]);
        acts.many = 0;
        return 1;
    }

    // ---- asked

    public int kind(int person) {
        return isPerson(person) ? here.kinds[person] : BAD;
    }

    public int as(int person, int kind) {
        if (!isPerson(person) || kind < 0 || kind >= Asking.KINDS) {
            return BAD;
        }
        return Asking.isOne(here.kinds[person], kind) ? fine(person) : found(KIND);
    }

    public int ask(int person, int what) {
        if (!isPerson(person) || !isEither(what)) {
            return BAD;
        }
        return asking.answer(here, person, what);
    }

    public int trace(int i) {
        return i >= 0 && i < asking.traced ? asking.trail[i] : NONE;
    }

    public int count(int what) {
        switch (what) {
            case 0: return countRows();
            case 1: return here.people;
            case 2: return here.things;
            case 3: return here.countHeld();
            case 4: return acts.many;
            case 5: return here.pays;
            case 6: return here.fee;
            case 7: return reader.fed;
            default: return BAD;
        }
    }

    public int status() {
        return latestFinding;
    }

    // ---- what the calls share

    private boolean isRow(int row) {
        return row >= 0 && row < ROWS;
    }

    private boolean isThing(int thing) {
        return thing >= 0 && thing < here.things;
    }

    private boolean isPerson(int person) {
        return person >= 0 && person < here.people;
    }

    private static boolean isSeed(int seed) {
        return seed >= 1 && seed <= LAST_SEED;
    }

    private static boolean isEither(int what) {
        return what == 0 || what == 1;
    }

    private int found(int finding) {
        latestFinding = finding;
        return FINDING - finding;
    }

    private int fine(int answer) {
        latestFinding = 0;
        return answer;
    }

    private int countRows() {
        int many = 0;
        for (Row its : rows) {
            if (!its.missing) {
                many++;
            }
        }
        return many;
    }

    /** The sayings become those that a ROW tells: 0, or the refusal. */
    private int hear(int row) {
        Row its = rows[row];
        if (its.missing) {
            return found(NULL);
        }
        if (its.length < here.people) {
            return found(PLACE);
        }
        for (int i = 0; i < here.people; i++) {
            if (its.items[i] < 0 || its.items[i] > Sayings.MOST) {
                return BAD;
            }
        }
        sayings.sayTold(its.items, here.people);
        return fine(0);
    }

    private int holdRound(int thing, int seed) {
        int lowest = sayings.lowest(NONE);
        long drawn = seed * 16807L % 2147483647L;
        int many = Math.max(1, sayings.manyAt(lowest, NONE));
        int winner = sayings.sayer(lowest, (int) (drawn % many));
        acts.keep(here, thing);
        here.pass(thing, winner, sayings.next(winner));
        return winner;
    }

    /** Of a fraction in lowest terms what is above (0) or below (1); below stands above 0. */
    private static int ofFraction(int above, int below, int what) {
        int common = 1;
        for (int d = 2; d <= below; d++) {
            if (above % d == 0 && below % d == 0) {
                common = d;
            }
        }
        return what == 0 ? above / common : below / common;
    }

    /** A row of items of one lane; it keeps its room when it is missing. */
    private static final class Row {
        static final int LANES = 3, MOST = 40;

        final int[] items = new int[MOST];
        boolean missing = true;
        int lane;
        int length;

        void lay(int newLane, int n) {
            missing = false;
            lane = newLane;
            length = n;
            for (int i = 0; i < MOST; i++) {
                items[i] = 0;
            }
        }

        int put(int i, int v) {
            int cut = v;
            if (lane == 0) {
                cut = (byte) v;
            } else if (lane == 1) {
                cut = (short) v;
            }
            items[i] = cut;
            return cut;
        }

        boolean has(int from, int n) {
            return from >= 0 && n >= 0 && from <= length - n;
        }
    }

    /** A law, people and things, and how it stands with them; without people it is none. */
    private static final class Town {
        static final int PEOPLE = 4, THINGS = 5;
        /** A text tells 30 more than what a thing is worth, so that it needs no sign for less than nothing. */
        static final int MOST_FEE = 20, MOST_TOLD = 60, TOLD_ABOVE = 30;
        static final int TRUE = 1, SLY = 2, SHY = 3, RICH = 4, WIDOW = 5;

        int pays;
        int fee;
        int people;
        int things;
        final int[] kinds = new int[PEOPLE];
        final int[] coins = new int[PEOPLE];
        final int[] told = new int[THINGS * PEOPLE];
        final int[] holders = new int[THINGS];
        final int[] worn = new int[THINGS];

        void becomeEmpty() {
            pays = 0;
            fee = 0;
            people = 0;
            things = 0;
            for (int i = 0; i < PEOPLE; i++) {
                coins[i] = 0;
            }
            for (int i = 0; i < THINGS; i++) {
                holders[i] = NONE;
                worn[i] = 0;
            }
        }

        void becomeLike(Town other) {
            pays = other.pays;
            fee = other.fee;
            people = other.people;
            things = other.things;
            System.arraycopy(other.kinds, 0, kinds, 0, PEOPLE);
            System.arraycopy(other.coins, 0, coins, 0, PEOPLE);
            System.arraycopy(other.told, 0, told, 0, THINGS * PEOPLE);
            System.arraycopy(other.holders, 0, holders, 0, THINGS);
            System.arraycopy(other.worn, 0, worn, 0, THINGS);
        }

        int worthOf(int thing, int person) {
            return told[thing * PEOPLE + person] - 2 * worn[thing];
        }

        int ownSaying(int thing, int person) {
            int frank = Math.max(0, Math.min(Sayings.MOST, (TOLD_ABOVE + worthOf(thing, person)) / 10));
            switch (kinds[person]) {
                case SLY: return Sayings.MOST - frank;
                case SHY: return Math.max(0, frank - 1);
                case RICH: return Math.max(3, frank);
                case WIDOW: return 0;
                default: return frank;
            }
        }

        /** What one gets to whom a thing comes (below 0: what he pays). */
        int winnerGets(int law, int next) {
            switch (law) {
                case 1: return -fee * next;
                case 2: return fee * next;
                case 3: return fee * (people - 1);
                default: return 0;
            }
        }

        /** What each one gets to whom it does not come (below 0: what he pays). */
        int othersGet(int law) {
            return law == 3 ? -fee : 0;
        }

        void pass(int thing, int winner, int next) {
            holders[thing] = winner;
            for (int i = 0; i < people; i++) {
                coins[i] += i == winner ? winnerGets(pays, next) : othersGet(pays);
            }
        }

        int wantsLeast(int thing) {
            int who = 0;
            for (int i = 1; i < people; i++) {
                if (worthOf(thing, i) < worthOf(thing, who)) {
                    who = i;
                }
            }
            return who;
        }

        int wantsMost(int thing) {
            int who = 0;
            for (int i = 1; i < people; i++) {
                if (worthOf(thing, i) > worthOf(thing, who)) {
                    who = i;
                }
            }
            return who;
        }

        int countHeld() {
            int many = 0;
            for (int i = 0; i < things; i++) {
                if (holders[i] != NONE) {
                    many++;
                }
            }
            return many;
        }

        int countHeldBy(int person) {
            int many = 0;
            for (int i = 0; i < things; i++) {
                if (holders[i] == person) {
                    many++;
                }
            }
            return many;
        }
    }

    /** The tape, and how a town is read from it, token by token, up to the first fault. */
    private static final class Reader {
        private static final int ROOM = 400, FIGURES = 3;
        private static final int END = 0, NAME = 1, NUMBER = 2, SIGN = 3, NO_TOKEN = 4;
        private static final int MISPLACED = 1, NOT_AS_TOLD = 2, NO_ROOM = 3;

        private final int[] tape = new int[ROOM];
        int fed;
        int wrong;
        int at;
        private int behind;
        private int token;
        private int number;

        boolean hasRoom(int n) {
            return fed + n <= ROOM;
        }

        void append(long w, int n) {
            for (int i = n - 1; i >= 0; i--) {
                tape[fed] = (int) (w >> (8 * i)) & 255;
                fed++;
            }
        }

        boolean readsInto(Town town) {
            town.becomeEmpty();
            wrong = 0;
            behind = 0;
            step();
            return readsLaw(town) && readsPeople(town) && readsThings(town)
                && (token == END || isWrong(MISPLACED));
        }

        private boolean readsLaw(Town town) {
            if (!passesWord("law") || !passesNumber(LAWS - 1)) {
                return false;
            }
            town.pays = number;
            if (!passesNumber(Town.MOST_FEE)) {
                return false;
            }
            town.fee = number;
            return passesSign();
        }

        private boolean readsPeople(Town town) {
            for (int i = 0; i <= Town.PEOPLE && (i == 0 || isWord("person")); i++) {
                if (i == Town.PEOPLE) {
                    return isWrong(NO_ROOM);
                }
                if (!passesWord("person") || !readsSort(town, i) || !passesSign()) {
                    return false;
                }
                town.people = i + 1;
            }
            return true;
        }

        private boolean readsSort(Town town, int person) {
            int kind = sortTold();
            if (kind == 0) {
                return isWrong(MISPLACED);
            }
            town.kinds[person] = kind;
            step();
            return true;
        }

        private boolean readsThings(Town town) {
            for (int i = 0; i <= Town.THINGS && isWord("thing"); i++) {
                if (i == Town.THINGS) {
                    return isWrong(NO_ROOM);
                }
                step();
                for (int p = 0; p < town.people; p++) {
                    if (!passesNumber(Town.MOST_TOLD)) {
                        return false;
                    }
                    town.told[i * Town.PEOPLE + p] = number - Town.TOLD_ABOVE;
                }
                if (!passesSign()) {
                    return false;
                }
                town.things = i + 1;
            }
            return true;
        }

        private int sortTold() {
            if (isWord("true")) {
                return Town.TRUE;
            }
            if (isWord("sly")) {
                return Town.SLY;
            }
            if (isWord("shy")) {
                return Town.SHY;
            }
            if (isWord("rich")) {
                return Town.RICH;
            }
            return isWord("widow") ? Town.WIDOW : 0;
        }

        private boolean passesWord(String word) {
            if (!isWord(word)) {
                return isWrong(MISPLACED);
            }
            step();
            return true;
        }

        private boolean passesSign() {
            if (token != SIGN) {
                return isWrong(MISPLACED);
            }
            step();
            return true;
        }

        /** A number up to most is passed, and kept as the latest. */
        private boolean passesNumber(int most) {
            if (token != NUMBER) {
                return isWrong(MISPLACED);
            }
            number = numberTold();
            if (number > most) {
                return isWrong(NOT_AS_TOLD);
            }
            step();
            return true;
        }

        private boolean isWrong(int fault) {
            wrong = fault;
            return false;
        }

        private boolean isWord(String word) {
            if (token != NAME || behind - at != word.length()) {
                return false;
            }
            for (int i = 0; i < word.length(); i++) {
                if (tape[at + i] != word.charAt(i)) {
                    return false;
                }
            }
            return true;
        }

        private int numberTold() {
            int value = 0;
            for (int i = at; i < behind; i++) {
                value = value * 10 + tape[i] - '0';
            }
            return value;
        }

        /** The token behind the present one becomes the present one. */
        private void step() {
            at = behind;
            while (at < fed && (tape[at] == 32 || tape[at] == 10)) {
                at++;
            }
            behind = at;
            if (at >= fed) {
                token = END;
            } else if (isLetter(tape[at])) {
                while (behind < fed && isLetter(tape[behind])) {
                    behind++;
                }
                token = NAME;
            } else if (isFigure(tape[at])) {
                while (behind < fed && isFigure(tape[behind])) {
                    behind++;
                }
                token = behind - at > FIGURES ? NO_TOKEN : NUMBER;
            } else {
                behind++;
                token = tape[at] == ';' ? SIGN : NO_TOKEN;
            }
        }

        private static boolean isLetter(int b) {
            return b >= 'a' && b <= 'z';
        }

        private static boolean isFigure(int b) {
            return b >= '0' && b <= '9';
        }
    }

    /** The latest acts, each as what it changed had been ahead of it. */
    private static final class Acts {
        private static final int KEPT = 24;

        int many;
        private int latest;
        private final int[] things = new int[KEPT];
        private final int[] holders = new int[KEPT];
        private final int[] worn = new int[KEPT];
        private final int[] coins = new int[KEPT * Town.PEOPLE];

        void keep(Town town, int thing) {
            latest = (latest + 1) % KEPT;
            many = Math.min(KEPT, many + 1);
            things[latest] = thing;
            holders[latest] = town.holders[thing];
            worn[latest] = town.worn[thing];
            System.arraycopy(town.coins, 0, coins, latest * Town.PEOPLE, Town.PEOPLE);
        }

        void takeBack(Town town) {
            int thing = things[latest];
            town.holders[thing] = holders[latest];
            town.worn[thing] = worn[latest];
            System.arraycopy(coins, latest * Town.PEOPLE, town.coins, 0, Town.PEOPLE);
            latest = (latest + KEPT - 1) % KEPT;
            many--;
        }
    }

    /** What each of the people says. */
    private static final class Sayings {
        static final int MOST = 5;

        int people;
        final int[] said = new int[Town.PEOPLE];

        void sayTold(int[] told, int many) {
            people = many;
            System.arraycopy(told, 0, said, 0, many);
        }

        void sayOwn(Town town, int thing) {
            people = town.people;
            for (int i = 0; i < people; i++) {
                said[i] = town.ownSaying(thing, i);
            }
        }

        /** The least saying of all but one (NONE: of all); above all sayings if there are none. */
        int lowest(int but) {
            int low = MOST + 1;
            for (int i = 0; i < people; i++) {
                if (i != but && said[i] < low) {
                    low = said[i];
                }
            }
            return low;
        }

        int manyAt(int saying, int but) {
            int many = 0;
            for (int i = 0; i < people; i++) {
                if (i != but && said[i] == saying) {
                    many++;
                }
            }
            return many;
        }

        int sayer(int saying, int place) {
            int ahead = 0;
            for (int i = 0; i < people; i++) {
                if (said[i] == saying) {
                    if (ahead == place) {
                        return i;
                    }
                    ahead++;
                }
            }
            return 0;
        }

        int next(int winner) {
            return people > 1 ? lowest(winner) : 0;
        }
    }

    /** What one comes to by each saying of his, while the others say as they do. */
    private static final class Prospect {
        /** How many share the lot if he, too, says the lowest of the others. */
        int odds;
        private int lowest;
        private int below;
        private int shared;
        private int above;

        /** Gains are kept times odds: so those by all his sayings compare as whole numbers. */
        void look(Town town, int thing, Sayings sayings, int person, int law) {
            lowest = sayings.lowest(person);
            odds = 1 + sayings.manyAt(lowest, person);
            int having = town.worthOf(thing, person) + town.winnerGets(law, sayings.next(person));
            int lacking = town.othersGet(law);
            below = having * odds;
            shared = having + lacking * (odds - 1);
            above = lacking * odds;
        }

        /** His gain by a saying, times odds. */
        int gainBy(int saying) {
            if (saying < lowest) {
                return below;
            }
            return saying > lowest ? above : shared;
        }

        int bestSaying() {
            int best = 0;
            for (int s = 1; s <= Sayings.MOST; s++) {
                if (gainBy(s) > gainBy(best)) {
                    best = s;
                }
            }
            return best;
        }
    }

    /** What comes of it that each looks for his best saying. */
    private static final class Foretold {
        private static final int TURNS = 20;

        int manyRests;
        final int[] firstRest = new int[Town.PEOPLE];
        private final Sayings trial = new Sayings();
        private final Prospect prospect = new Prospect();

        /** Whether nobody's gain were more by another saying of his. */
        boolean isRest(Town town, int thing, Sayings sayings, int law) {
            for (int i = 0; i < town.people; i++) {
                prospect.look(town, thing, sayings, i, law);
                if (prospect.gainBy(sayings.said[i]) < prospect.gainBy(prospect.bestSaying())) {
                    return false;
                }
            }
            return true;
        }

        void seekRests(Town town, int thing) {
            manyRests = 0;
            trial.people = town.people;
            int all = 1;
            for (int i = 0; i < town.people; i++) {
                trial.said[i] = 0;
                all *= Sayings.MOST + 1;
            }
            for (int i = 0; i < all; i++) {
                if (isRest(town, thing, trial, town.pays)) {
                    if (manyRests == 0) {
                        System.arraycopy(trial.said, 0, firstRest, 0, Town.PEOPLE);
                    }
                    manyRests++;
                }
                advance();
            }
        }

        /** The trial becomes the next row of sayings; the last person's change first. */
        private void advance() {
            for (int i = trial.people - 1; i >= 0; i--) {
                if (trial.said[i] < Sayings.MOST) {
                    trial.said[i]++;
                    return;
                }
                trial.said[i] = 0;
            }
        }

        /** How many rounds till one changes nothing; NONE: more. The sayings become the last ones. */
        int takeTurns(Town town, int thing, Sayings sayings) {
            for (int turn = 1; turn <= TURNS; turn++) {
                boolean changed = false;
                for (int i = 0; i < town.people; i++) {
                    prospect.look(town, thing, sayings, i, town.pays);
                    int best = prospect.bestSaying();
                    changed = changed || best != sayings.said[i];
                    sayings.said[i] = best;
                }
                if (!changed) {
                    return turn;
                }
            }
            return NONE;
        }
    }

    /** Kinds, the bodies that an ask of one begins, and the trace that they leave. */
    private static final class Asking {
        static final int KINDS = 6;

        private static final int TRACE = 16, DEEPEST = 8;
        /** The nearest other kind that one of each kind is, too; a person is nothing else. */
        private static final int[] NEAREST = {0, 0, 1, 1, 0, 4};
        /** The bodies told for each kind (0: none); what is lent to all stands for persons. */
        private static final int[] SIZE_BODIES = {10, 11, 12, 0, 13, 14};
        private static final int[] MARK_BODIES = {20, 21, 24, 22, 23, 0};

        int traced;
        final int[] trail = new int[TRACE];
        private int asked;
        private int askedKind;
        private int askedCoin;
        private int askedThings;

        static boolean isOne(int kind, int wanted) {
            int its = kind;
            for (int i = 0; i < KINDS && its != wanted; i++) {
                its = NEAREST[its];
            }
            return its == wanted;
        }

        int answer(Town town, int person, int what) {
            traced = 0;
            asked = person;
            askedKind = town.kinds[person];
            askedCoin = town.coins[person];
            askedThings = town.countHeldBy(person);
            return begin(what == 0 ? sizeBody() : markBody(), 0);
        }

        private static int bodyOf(int kind, int[] bodies) {
            int its = kind;
            for (int i = 0; i < KINDS && bodies[its] == 0; i++) {
                its = NEAREST[its];
            }
            return bodies[its];
        }

        private int sizeBody() {
            return bodyOf(askedKind, SIZE_BODIES);
        }

        private int markBody() {
            return bodyOf(askedKind, MARK_BODIES);
        }

        /** What a body gives; those that it begins come in the order in which they are told. */
        private int begin(int body, int depth) {
            if (depth > DEEPEST) {
                return 0;
            }
            leave(body);
            int deeper = depth + 1;
            switch (body) {
                case 10: return askedCoin;
                case 11: return begin(10, deeper) + begin(markBody(), deeper);
                case 12: return -begin(11, deeper);
                case 13: return begin(10, deeper) - 100;
                case 14: return 2 * begin(13, deeper);
                case 20: return asked;
                case 21: return begin(20, deeper) + askedThings;
                case 22: return begin(21, deeper) - 1000;
                case 23: return begin(20, deeper) - begin(sizeBody(), deeper);
                case 24: return 2 * begin(21, deeper);
                default: return 0;
            }
        }

        private void leave(int body) {
            if (traced < TRACE) {
                trail[traced] = body;
                traced++;
            }
        }
    }
}
