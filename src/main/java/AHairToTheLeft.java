/** A wireless that drifts off its station, and the people of a parlour who get up and set it. */
public final class AHairToTheLeft {
    private static final int FINE = 0;
    private static final int NOBODY = -1;
    private static final int OTHER = -2;
    private static final int STATE = -3;
    private static final int BELOW = -4;
    private static final int ROOM = -6;
    private static final int NONE = -9;
    private static final int TOLD_REFUSAL = 1000000000;

    private static final int MOST_PEOPLE = 5;
    private static final int MOST_LETTERS = 96;
    private static final int MOST_NUMBERS = 12;
    private static final int LAST_MINUTE = 9999;
    private static final int MOST_GOING = 60;
    private static final int MOST_IN_MIND = 240;
    private static final int STEADY_MINUTES = 10;
    private static final int MOST_EVENINGS = 20;
    private static final int EVENING = 60;
    private static final int FARTHEST_AT = 99;
    private static final int FARTHEST_STATION = 20;
    private static final int KINDS = 5;
    private static final int WITHOUT_SIGN = 0x7fffffff;

    // What of a parlour can be set, by number: the first six are those of set().
    private static final int AT = 0;
    private static final int STATION_0 = 1;
    private static final int STATION_1 = 2;
    private static final int RATE = 3;
    private static final int LIMIT = 4;
    private static final int PAST = 5;
    private static final int DRIFT_KIND = 6;
    private static final int RULE_KIND = 7;
    private static final int TURN = 8;
    private static final int[] LEAST = {-99, -20, -20, -9, 1, 0};
    private static final int[] GREATEST = {99, 20, 20, 9, 20, 9};

    private final Parlour now;
    private final Parlour mind;
    private final Parlour picture;
    private boolean pictured;
    private final Account account;
    private final Telling telling;
    private final int[] numbers;
    private int numbersSize;
    private final int[] refusals;

    public AHairToTheLeft() {
        now = new Parlour();
        mind = new Parlour();
        picture = new Parlour();
        account = new Account();
        telling = new Telling();
        numbers = new int[MOST_NUMBERS];
        refusals = new int[7];
    }

    public int letter(int c) {
        int why = outside(c, 0, 255);
        if (why == FINE && telling.size >= MOST_LETTERS) {
            why = ROOM;
        }
        if (why != FINE) {
            return refuse(why);
        }
        telling.add((char) c);
        return telling.size;
    }

    public int parlour() {
        int unfit = telling.firstUnfit();
        int answer = unfit == NONE ? tellAll() : -1000 - unfit;
        telling.size = 0;
        return answer;
    }

    public int person(int person, int what) {
        if (!now.has(person)) {
            return refuse(NOBODY);
        }
        if (what < 0 || what > 5) {
            return refuse(OTHER);
        }
        return now.people[person].detail(what);
    }

    public int bothers(int person, int n) {
        int why = now.has(person) ? outside(n, 0, 199) : NOBODY;
        if (why != FINE) {
            return refuse(why);
        }
        return now.people[person].botheredBy(n);
    }

    public int place(int what) {
        if (what < AT || what > STATION_1) {
            return refuseTold(OTHER);
        }
        return now.told(what);
    }

    public int set(int what, int v) {
        if (what < AT || what > PAST) {
            return refuseTold(OTHER);
        }
        int why = outside(v, LEAST[what], GREATEST[what]);
        if (why != FINE) {
            return refuseTold(why);
        }
        return now.change(what, v);
    }

    public int kind(int what, int k) {
        if (what < 0 || what > 1 || k < 0 || k >= KINDS) {
            return refuse(OTHER);
        }
        return now.change(what == 0 ? DRIFT_KIND : RULE_KIND, k);
    }

    public int turn(int person) {
        if (!now.has(person)) {
            return refuse(NOBODY);
        }
        return now.change(TURN, person);
    }

    public int drifts(int t) {
        int why = outside(t, 0, LAST_MINUTE);
        if (why != FINE) {
            return refuseTold(why);
        }
        return now.drift.amountIn(t);
    }

    public int go(int n) {
        int why = outside(n, 1, MOST_GOING);
        if (why == FINE && now.minute + n > LAST_MINUTE) {
            why = ROOM;
        }
        if (why != FINE) {
            return refuse(why);
        }
        account.clear();
        now.passMinutes(n, true, account);
        return account.allUps();
    }

    public int cost(int n, int what) {
        int why = outside(n, 0, MOST_IN_MIND);
        if (why == FINE && (what < 0 || what > 4)) {
            why = OTHER;
        }
        if (why != FINE) {
            return refuse(why);
        }
        think();
        playInMind(n, true);
        return account.told(what);
    }

    public int at(int n) {
        int why = outside(n, 0, MOST_IN_MIND);
        if (why != FINE) {
            return refuseTold(why);
        }
        think();
        playInMind(n, true);
        return mind.at;
    }

    public int of(int person, int n, int what) {
        int why = now.has(person) ? outside(n, 0, MOST_IN_MIND) : NOBODY;
        if (why == FINE && (what < 0 || what > 2)) {
            why = OTHER;
        }
        if (why != FINE) {
            return refuse(why);
        }
        think();
        playInMind(n, true);
        return account.toldOf(person, what);
    }

    public int best(int n, int what) {
        int why = outside(n, 0, MOST_IN_MIND);
        if (why == FINE && (what < 0 || what > 3)) {
            why = OTHER;
        }
        if (why != FINE) {
            return refuse(why);
        }
        switch (what) {
            case 0:
                return leastCostly(n, LIMIT, LEAST[LIMIT], GREATEST[LIMIT]);
            case 1:
                return leastCostly(n, PAST, LEAST[PAST], GREATEST[PAST]);
            case 2:
                return leastCostly(n, RULE_KIND, 0, KINDS - 1);
            default:
                return now.peopleSize == 0 ? NONE : leastCostly(n, TURN, 0, now.peopleSize - 1);
        }
    }

    public int finer(int n, int person) {
        int why = outside(n, 0, MOST_IN_MIND);
        if (why == FINE && !now.has(person)) {
            why = NOBODY;
        }
        if (why != FINE) {
            return refuseTold(why);
        }
        return savedByFineHands(n, person, person);
    }

    public int mark(int n) {
        int why = outside(n, 0, MOST_IN_MIND);
        if (why != FINE) {
            return refuseTold(why);
        }
        return savedByFineHands(n, 0, now.peopleSize - 1);
    }

    public int most(int n) {
        int why = outside(n, 0, MOST_IN_MIND);
        if (why != FINE) {
            return refuse(why);
        }
        think();
        playInMind(n, true);
        int who = NONE;
        int greatest = -1;
        for (int i = 0; i < now.peopleSize; i++) {
            int borne = account.toldOf(i, 2);
            if (borne > greatest) {
                greatest = borne;
                who = i;
            }
        }
        return who;
    }

    public int between(int n) {
        int why = outside(n, 0, MOST_IN_MIND);
        if (why != FINE) {
            return refuse(why);
        }
        return leastCostly(n, STATION_0, -FARTHEST_STATION, FARTHEST_STATION) + FARTHEST_STATION;
    }

    public int leave(int n) {
        int why = outside(n, 0, MOST_IN_MIND);
        if (why != FINE) {
            return refuseTold(why);
        }
        think();
        int asItIs = playInMind(n, true);
        think();
        return playInMind(n, false) - asItIs;
    }

    public int holds(int v) {
        int why = outside(v, -FARTHEST_AT, FARTHEST_AT);
        if (why != FINE) {
            return refuse(why);
        }
        int minutes = minutesHeld(v);
        return minutes < MOST_IN_MIND ? minutes : NONE;
    }

    public int setAt() {
        int longest = -1;
        int from = -FARTHEST_STATION;
        for (int v = -FARTHEST_STATION; v <= FARTHEST_STATION; v++) {
            int minutes = minutesHeld(v);
            if (minutes > longest) {
                longest = minutes;
                from = v;
            }
        }
        return from + FARTHEST_STATION;
    }

    public int steadyFrom() {
        int still = 0;
        for (int i = 0; i < MOST_IN_MIND + STEADY_MINUTES; i++) {
            still = now.drift.amountIn(now.minute + i) == 0 ? still + 1 : 0;
            if (still == STEADY_MINUTES) {
                return i - STEADY_MINUTES + 1;
            }
        }
        return NONE;
    }

    public int whoLast(int n) {
        int why = outside(n, 0, MOST_IN_MIND);
        if (why != FINE) {
            return refuse(why);
        }
        think();
        playInMind(n, true);
        return account.lastUp;
    }

    public int when(int i) {
        if (i < 0) {
            return refuse(BELOW);
        }
        think();
        for (int m = 0; m < MOST_IN_MIND; m++) {
            mind.passMinutes(1, true, account);
            if (account.allUps() > i) {
                return m;
            }
        }
        return NONE;
    }

    public int row(int v) {
        int why = outside(v, 0, 99);
        if (why == FINE && numbersSize >= numbers.length) {
            why = ROOM;
        }
        if (why != FINE) {
            return refuse(why);
        }
        numbers[numbersSize] = v;
        numbersSize++;
        return numbersSize;
    }

    public int kept(int what) {
        if (what < 0 || what > 1) {
            return refuse(OTHER);
        }
        return what == 0 ? rulesKept() : limitsKept();
    }

    public int judge() {
        think();
        int answer = firstUnlike();
        numbersSize = 0;
        return answer;
    }

    public int lots(int n, int z) {
        int why = outside(n, 1, MOST_EVENINGS);
        if (why != FINE) {
            return refuse(why);
        }
        int seed = z;
        int all = 0;
        for (int i = 0; i < n; i++) {
            seed = seed * 1664525 + 1013904223;
            think();
            mind.at = (seed & WITHOUT_SIGN) / 256 % 41 - 20;
            all += playInMind(EVENING, true);
        }
        return all;
    }

    public int image() {
        picture.become(now);
        pictured = true;
        return now.minute;
    }

    public int on() {
        if (!pictured) {
            return refuse(STATE);
        }
        now.become(picture);
        return now.minute;
    }

    public int count(int what) {
        switch (what) {
            case 0:
                return now.peopleSize;
            case 1:
                return now.minute;
            case 2:
                return now.drift.kind;
            case 3:
                return now.rule.kind;
            case 4:
                return now.rule.limit;
            case 5:
                return now.rule.past;
            case 6:
                return now.turn;
            case 7:
                return now.allMinds();
            case 8:
                return numbersSize;
            case 9:
                return telling.size;
            default:
                return what >= 11 && what <= 16 ? refusals[what - 10] : NONE;
        }
    }

    private static int outside(int v, int least, int greatest) {
        if (v < least) {
            return BELOW;
        }
        return v > greatest ? ROOM : FINE;
    }

    private int refuse(int why) {
        int i = -why;
        if (i >= 0 && i < refusals.length) {
            refusals[i]++;
        }
        return why;
    }

    // For the calls whose own answers may be below 0.
    private int refuseTold(int why) {
        return TOLD_REFUSAL - refuse(why);
    }

    // The statements are tried on a copy, so that with a fault nothing has come.
    private int tellAll() {
        think();
        int statements = 0;
        for (int start = 0; start < telling.size; start += 1 + telling.shapeAt(start).length()) {
            if (!telling.tellTo(mind, start, account)) {
                return -2000 - start;
            }
            statements++;
        }
        now.become(mind);
        return statements;
    }

    // Whatever is tried begins here: as it is now, with nothing on the account yet.
    private void think() {
        mind.become(now);
        account.clear();
    }

    private int playInMind(int n, boolean mayGetUp) {
        mind.passMinutes(n, mayGetUp, account);
        return account.allCost();
    }

    private int leastCostly(int n, int what, int first, int last) {
        int best = first;
        int least = -1;
        for (int v = first; v <= last; v++) {
            think();
            mind.change(what, v);
            int costs = playInMind(n, true);
            if (least < 0 || costs < least) {
                least = costs;
                best = v;
            }
        }
        return best;
    }

    private int savedByFineHands(int n, int first, int last) {
        think();
        int asItIs = playInMind(n, true);
        think();
        mind.refineHands(first, last);
        return asItIs - playInMind(n, true);
    }

    private int minutesHeld(int v) {
        think();
        mind.at = v;
        for (int m = 0; m < MOST_IN_MIND; m++) {
            mind.driftOnce();
            mind.minute++;
            if (mind.isOffEither()) {
                return m;
            }
        }
        return MOST_IN_MIND;
    }

    private int firstUnlike() {
        for (int i = 0; i < numbersSize && i < numbers.length; i++) {
            mind.passMinutes(1, true, account);
            if (held(mind.at + 50, 0, 99) != numbers[i]) {
                return i;
            }
        }
        return NONE;
    }

    private int rulesKept() {
        int bits = 0;
        for (int k = 0; k < KINDS; k++) {
            think();
            mind.rule.kind = k;
            if (firstUnlike() == NONE) {
                bits |= 1 << k;
            }
        }
        return bits;
    }

    private int limitsKept() {
        int many = 0;
        for (int limit = LEAST[LIMIT]; limit <= GREATEST[LIMIT]; limit++) {
            think();
            mind.rule.limit = limit;
            if (firstUnlike() == NONE) {
                many++;
            }
        }
        return many;
    }

    private static int held(int v, int least, int greatest) {
        return Math.max(least, Math.min(greatest, v));
    }

    /** By how much the wireless moves of itself in a minute. */
    private static final class Drift {
        int kind;
        int rate;

        Drift() {
            kind = 0;
            rate = 1;
        }

        void become(Drift other) {
            kind = other.kind;
            rate = other.rate;
        }

        int amountIn(int t) {
            switch (kind) {
                case 1:
                    return swinging(t);
                case 2:
                    return cooled(t / 20);
                case 3:
                    return t % 3 == 0 ? 3 * rate : 0;
                case 4:
                    return t % 2 == 0 ? swinging(t) + 1 : swinging(t);
                default:
                    return rate;
            }
        }

        private int swinging(int t) {
            return t / 10 % 2 == 0 ? rate : -rate;
        }

        private int cooled(int by) {
            if (rate > 0) {
                return rate > by ? rate - by : 0;
            }
            return rate < -by ? rate + by : 0;
        }
    }

    /** Whether somebody gets up, and what he means to set. */
    private static final class Rule {
        int kind;
        int limit;
        int past;

        Rule() {
            kind = 0;
            limit = 3;
            past = 2;
        }

        void become(Rule other) {
            kind = other.kind;
            limit = other.limit;
            past = other.past;
        }

        boolean rouses(int off, int minute) {
            switch (kind) {
                case 2:
                    return limit > 0 && minute % limit == 0;
                case 4:
                    return off > 2 * limit;
                default:
                    return off > limit;
            }
        }

        int aim(int own, int middle, int drifted) {
            switch (kind) {
                case 1:
                case 4:
                    return against(own, drifted);
                case 3:
                    return middle;
                default:
                    return own;
            }
        }

        private int against(int own, int drifted) {
            if (drifted == 0) {
                return own;
            }
            return drifted > 0 ? own - past : own + past;
        }
    }

    /** One of the people. */
    private static final class Person {
        int kind;
        int minds;
        int figure;
        int station;
        int hand;
        int price;

        Person() {
            hand = 1;
        }

        void become(Person other) {
            kind = other.kind;
            minds = other.minds;
            figure = other.figure;
            station = other.station;
            hand = other.hand;
            price = other.price;
        }

        int detail(int what) {
            switch (what) {
                case 0:
                    return kind;
                case 1:
                    return minds;
                case 2:
                    return figure;
                case 3:
                    return station;
                case 4:
                    return hand;
                default:
                    return price;
            }
        }

        int botheredBy(int n) {
            switch (kind) {
                case 1:
                    return deafTo(n, figure);
                case 2:
                    return 2 * n * minds;
                case 3:
                    return n > 2 ? 2 * n * minds + figure : 2 * n * minds;
                case 4:
                    return n >= 20 ? n * minds : deafTo(n, 2 * figure);
                default:
                    return n * minds;
            }
        }

        private int deafTo(int n, int unheard) {
            return n > unheard ? (n - unheard) * minds : 0;
        }

        // Whole steps of the hand only; halfway between two he stops at the first.
        int turned(int from, int aim) {
            if (hand < 1) {
                return from;
            }
            int way = Math.abs(aim - from);
            int steps = way / hand;
            if (2 * (way % hand) > hand) {
                steps++;
            }
            return aim > from ? from + steps * hand : from - steps * hand;
        }
    }

    /** What a play has cost so far, whom, and who got up. */
    private static final class Account {
        private final int[] bother;
        private final int[] ups;
        private final int[] prices;
        private int farthest0;
        private int farthest1;
        int lastUp;

        Account() {
            bother = new int[MOST_PEOPLE];
            ups = new int[MOST_PEOPLE];
            prices = new int[MOST_PEOPLE];
            lastUp = NONE;
        }

        void clear() {
            for (int i = 0; i < MOST_PEOPLE; i++) {
                bother[i] = 0;
                ups[i] = 0;
                prices[i] = 0;
            }
            farthest0 = 0;
            farthest1 = 0;
            lastUp = NONE;
        }

        void noteUp(int person, int price) {
            if (person >= 0 && person < MOST_PEOPLE) {
                ups[person]++;
                prices[person] += price;
                lastUp = person;
            }
        }

        void noteBother(int person, int much) {
            if (person >= 0 && person < MOST_PEOPLE) {
                bother[person] += much;
            }
        }

        void noteOff(int off0, int off1) {
            farthest0 = Math.max(farthest0, off0);
            farthest1 = Math.max(farthest1, off1);
        }

        int told(int what) {
            switch (what) {
                case 0:
                    return allCost();
                case 1:
                    return allUps();
                case 2:
                    return sum(prices);
                case 3:
                    return farthest0;
                default:
                    return farthest1;
            }
        }

        int toldOf(int person, int what) {
            if (person < 0 || person >= MOST_PEOPLE) {
                return 0;
            }
            switch (what) {
                case 0:
                    return bother[person];
                case 1:
                    return ups[person];
                default:
                    return bother[person] + prices[person];
            }
        }

        int allCost() {
            return sum(bother) + sum(prices);
        }

        int allUps() {
            return sum(ups);
        }

        private static int sum(int[] each) {
            int all = 0;
            for (int i = 0; i < each.length; i++) {
                all += each[i];
            }
            return all;
        }
    }

    /** All that there is in the parlour at a minute. */
    private static final class Parlour {
        int at;
        private int place0;
        private int place1;
        final Drift drift;
        final Rule rule;
        final Person[] people;
        int peopleSize;
        int turn;
        int minute;

        Parlour() {
            place1 = 6;
            drift = new Drift();
            rule = new Rule();
            people = new Person[MOST_PEOPLE];
            for (int i = 0; i < MOST_PEOPLE; i++) {
                people[i] = new Person();
            }
        }

        void become(Parlour other) {
            at = other.at;
            place0 = other.place0;
            place1 = other.place1;
            drift.become(other.drift);
            rule.become(other.rule);
            peopleSize = other.peopleSize;
            for (int i = 0; i < MOST_PEOPLE; i++) {
                people[i].become(other.people[i]);
            }
            turn = other.turn;
            minute = other.minute;
        }

        boolean has(int person) {
            return person >= 0 && person < peopleSize && person < MOST_PEOPLE;
        }

        int told(int what) {
            switch (what) {
                case AT:
                    return at;
                case STATION_0:
                    return place0;
                case STATION_1:
                    return place1;
                case RATE:
                    return drift.rate;
                case LIMIT:
                    return rule.limit;
                case PAST:
                    return rule.past;
                case DRIFT_KIND:
                    return drift.kind;
                case RULE_KIND:
                    return rule.kind;
                default:
                    return turn;
            }
        }

        int change(int what, int v) {
            int was = told(what);
            switch (what) {
                case AT:
                    at = v;
                    break;
                case STATION_0:
                    place0 = v;
                    break;
                case STATION_1:
                    place1 = v;
                    break;
                case RATE:
                    drift.rate = v;
                    break;
                case LIMIT:
                    rule.limit = v;
                    break;
                case PAST:
                    rule.past = v;
                    break;
                case DRIFT_KIND:
                    drift.kind = v;
                    break;
                case RULE_KIND:
                    rule.kind = v;
                    break;
                default:
                    turn = v;
                    break;
            }
            return was;
        }

        int allMinds() {
            int all = 0;
            for (int i = 0; i < peopleSize && i < MOST_PEOPLE; i++) {
                all += people[i].minds;
            }
            return all;
        }

        void refineHands(int first, int last) {
            for (int i = 0; i < peopleSize && i < MOST_PEOPLE; i++) {
                if (i >= first && i <= last) {
                    people[i].hand = 1;
                }
            }
        }

        void passMinutes(int n, boolean mayGetUp, Account account) {
            for (int i = 0; i < n; i++) {
                int drifted = driftOnce();
                if (mayGetUp) {
                    letOneGetUp(drifted, account);
                }
                botherAll(account);
                minute++;
            }
        }

        int driftOnce() {
            int drifted = drift.amountIn(minute);
            at = held(at + drifted, -FARTHEST_AT, FARTHEST_AT);
            return drifted;
        }

        boolean isOffEither() {
            return off(0) > rule.limit || off(1) > rule.limit;
        }

        private void letOneGetUp(int drifted, Account account) {
            if (!has(turn)) {
                return;
            }
            Person who = people[turn];
            if (!rule.rouses(off(who.station), minute)) {
                return;
            }
            int own = who.station == 0 ? place0 : place1;
            at = who.turned(at, rule.aim(own, (place0 + place1) / 2, drifted));
            account.noteUp(turn, who.price);
            turn = turn + 1 < peopleSize ? turn + 1 : 0;
        }

        private void botherAll(Account account) {
            int off0 = off(0);
            int off1 = off(1);
            for (int i = 0; i < peopleSize && i < MOST_PEOPLE; i++) {
                Person one = people[i];
                account.noteBother(i, one.botheredBy(one.station == 0 ? off0 : off1));
            }
            account.noteOff(off0, off1);
        }

        private int off(int station) {
            return Math.abs(at - (station == 0 ? place0 : place1));
        }
    }

    /** The letters, and the statements that they make. */
    private static final class Telling {
        private static final String PEOPLE_KINDS = "pdfmc";
        private static final String DRIFT_KINDS = "swcju";
        private static final String RULE_KINDS = "eokbl";

        private final char[] letters;
        int size;

        Telling() {
            letters = new char[MOST_LETTERS];
        }

        void add(char c) {
            if (size >= 0 && size < MOST_LETTERS) {
                letters[size] = c;
                size++;
            }
        }

        // What must come behind a statement's first letter: P, D, R a kind, # a digit, + a sign.
        String shapeAt(int start) {
            switch (signAt(start)) {
                case 'p':
                    return "P#####;";
                case 'w':
                    return "+##;";
                case 's':
                    return "#+##;";
                case 'd':
                    return "D+#;";
                case 'r':
                    return "R###;";
                case 'n':
                    return "##;";
                default:
                    return "";
            }
        }

        int firstUnfit() {
            String shape = "";
            int done = 0;
            for (int i = 0; i < size; i++) {
                if (done < shape.length()) {
                    if (!fits(shape.charAt(done), signAt(i))) {
                        return i;
                    }
                    done++;
                } else {
                    shape = shapeAt(i);
                    done = 0;
                    if (shape.isEmpty()) {
                        return i;
                    }
                }
            }
            return size == 0 || done < shape.length() ? size : NONE;
        }

        // Whether the statement at start, whose letters fit, is as it must be; then it comes.
        boolean tellTo(Parlour parlour, int start, Account account) {
            switch (signAt(start)) {
                case 'p':
                    return tellPerson(parlour, start);
                case 'w':
                    parlour.at = signedAt(start + 1, numberAt(start + 2));
                    return true;
                case 's':
                    return tellStation(parlour, start);
                case 'd':
                    parlour.drift.kind = kindAt(DRIFT_KINDS, start + 1);
                    parlour.drift.rate = signedAt(start + 2, digitAt(start + 3));
                    return true;
                case 'r':
                    return tellRule(parlour, start);
                default:
                    return tellMinutes(parlour, start, account);
            }
        }

        private boolean tellPerson(Parlour parlour, int start) {
            int station = digitAt(start + 4);
            int hand = digitAt(start + 5);
            int i = parlour.peopleSize;
            if (station > 1 || hand < 1 || hand > 5 || i < 0 || i >= MOST_PEOPLE) {
                return false;
            }
            Person one = parlour.people[i];
            one.kind = kindAt(PEOPLE_KINDS, start + 1);
            one.minds = digitAt(start + 2);
            one.figure = digitAt(start + 3);
            one.station = station;
            one.hand = hand;
            one.price = digitAt(start + 6);
            parlour.peopleSize++;
            return true;
        }

        private boolean tellStation(Parlour parlour, int start) {
            int station = digitAt(start + 1);
            int far = numberAt(start + 3);
            if (station > 1 || far > FARTHEST_STATION) {
                return false;
            }
            parlour.change(station == 0 ? STATION_0 : STATION_1, signedAt(start + 2, far));
            return true;
        }

        private boolean tellRule(Parlour parlour, int start) {
            int limit = numberAt(start + 2);
            if (outside(limit, LEAST[LIMIT], GREATEST[LIMIT]) != FINE) {
                return false;
            }
            parlour.rule.kind = kindAt(RULE_KINDS, start + 1);
            parlour.rule.limit = limit;
            parlour.rule.past = digitAt(start + 4);
            return true;
        }

        private boolean tellMinutes(Parlour parlour, int start, Account account) {
            int n = numberAt(start + 1);
            if (n < 1 || n > MOST_GOING || parlour.minute + n > LAST_MINUTE) {
                return false;
            }
            parlour.passMinutes(n, true, account);
            return true;
        }

        private static boolean fits(char shape, char c) {
            switch (shape) {
                case '#':
                    return c >= '0' && c <= '9';
                case '+':
                    return c == '+' || c == '-';
                case 'P':
                    return PEOPLE_KINDS.indexOf(c) >= 0;
                case 'D':
                    return DRIFT_KINDS.indexOf(c) >= 0;
                case 'R':
                    return RULE_KINDS.indexOf(c) >= 0;
                default:
                    return c == shape;
            }
        }

        private char signAt(int i) {
            return i >= 0 && i < size && i < MOST_LETTERS ? letters[i] : 0;
        }

        private int digitAt(int i) {
            return signAt(i) - '0';
        }

        private int numberAt(int i) {
            return 10 * digitAt(i) + digitAt(i + 1);
        }

        private int signedAt(int i, int much) {
            return signAt(i) == '-' ? -much : much;
        }

        private int kindAt(String kinds, int i) {
            return kinds.indexOf(signAt(i));
        }
    }
}
