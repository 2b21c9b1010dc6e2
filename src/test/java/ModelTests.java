import java.util.ArrayList;
import java.util.List;
import java.util.Random;
import java.util.regex.Matcher;
import java.util.regex.Pattern;

/**
 * Long runs of calls against a second telling of the document, made in another way: people,
 * drifts and rules by inheritance, texts by a pattern, nearest places by looking at them all.
 */
public final class ModelTests {
    private static final int NONE = -9;

    // ---- kinds ----

    interface Drift { int in(int t, int rate); }

    static class Steady implements Drift {
        public int in(int t, int rate) { return rate; }
    }

    static class Swinging extends Steady {
        public int in(int t, int rate) { return super.in(t, rate) * ((t / 10) % 2 == 0 ? 1 : -1); }
    }

    static class Cooling extends Steady {
        public int in(int t, int rate) {
            int r = super.in(t, rate);
            for (int i = 20; i <= t; i += 20) r -= Integer.signum(r);
            return r;
        }
    }

    static class Jumping extends Steady {
        public int in(int t, int rate) { return t % 3 == 0 ? 3 * super.in(t, rate) : 0; }
    }

    static class Unsure extends Swinging {
        public int in(int t, int rate) { return super.in(t, rate) + (t % 2 == 0 ? 1 : 0); }
    }

    static final Drift[] DRIFTS = {new Steady(), new Swinging(), new Cooling(), new Jumping(), new Unsure()};

    static class Ear {
        int bother(int n, int minds, int figure) { return n * minds; }
    }

    static class Deaf extends Ear {
        int bother(int n, int minds, int figure) { return super.bother(Math.max(0, n - figure), minds, figure); }
    }

    static class Fussy extends Ear {
        int bother(int n, int minds, int figure) { return 2 * super.bother(n, minds, figure); }
    }

    static class Musical extends Fussy {
        int bother(int n, int minds, int figure) { return super.bother(n, minds, figure) + (n > 2 ? figure : 0); }
    }

    static class Child extends Deaf {
        int bother(int n, int minds, int figure) {
            return n >= 20 ? new Ear().bother(n, minds, figure) : super.bother(n, minds, 2 * figure);
        }
    }

    static final Ear[] EARS = {new Ear(), new Deaf(), new Fussy(), new Musical(), new Child()};

    static class Edge {
        boolean up(Room r, int s) { return Math.abs(r.at - s) > r.limit; }
        int aim(Room r, int s) { return s; }
    }

    static class Over extends Edge {
        int aim(Room r, int s) { return s - r.past * Integer.signum(r.drift(r.minute)); }
    }

    static class Clock extends Edge {
        boolean up(Room r, int s) { return r.minute % r.limit == 0; }
    }

    static class Between extends Edge {
        int aim(Room r, int s) { return (r.stations[0] + r.stations[1]) / 2; }
    }

    static class Lazy extends Over {
        boolean up(Room r, int s) { return Math.abs(r.at - s) > 2 * r.limit; }
    }

    static final Edge[] RULES = {new Edge(), new Over(), new Clock(), new Between(), new Lazy()};

    // ---- the room; a play is a list of minutes ----

    record Human(int kind, int minds, int figure, int station, int hand, int price) {
        int bother(int n) { return EARS[kind].bother(n, minds, figure); }
        Human fine() { return new Human(kind, minds, figure, station, 1, price); }
        int get(int what) { return new int[] {kind, minds, figure, station, hand, price}[what]; }
    }

    record Minute(int at, int who, int price, int[] bother) { }

    static final class Room {
        int at;
        int[] stations = {0, 6};
        int driftKind;
        int rate = 1;
        int ruleKind;
        int limit = 3;
        int past = 2;
        int turn;
        int minute;
        boolean asleep;
        List<Human> people = new ArrayList<>();

        Room copy() {
            Room r = new Room();
            r.at = at;
            r.stations = stations.clone();
            r.driftKind = driftKind;
            r.rate = rate;
            r.ruleKind = ruleKind;
            r.limit = limit;
            r.past = past;
            r.turn = turn;
            r.minute = minute;
            r.people = new ArrayList<>(people);
            return r;
        }

        int drift(int t) { return DRIFTS[driftKind].in(t, rate); }

        static int turned(int from, int aim, int hand) {
            int best = from;
            int way = aim < from ? -1 : 1;
            for (int k = 0; k <= 200; k++) {
                int there = from + way * k * hand;
                if (Math.abs(there - aim) < Math.abs(best - aim)) best = there;
            }
            return best;
        }

        Minute pass() {
            at = Math.max(-99, Math.min(99, at + drift(minute)));
            int who = NONE;
            int price = 0;
            if (!people.isEmpty() && !asleep) {
                Human h = people.get(turn);
                int s = stations[h.station()];
                if (RULES[ruleKind].up(this, s)) {
                    who = turn;
                    price = h.price();
                    at = turned(at, RULES[ruleKind].aim(this, s), h.hand());
                    turn = (turn + 1) % people.size();
                }
            }
            int[] bother = people.stream().mapToInt(h -> h.bother(Math.abs(at - stations[h.station()]))).toArray();
            minute++;
            return new Minute(at, who, price, bother);
        }

        List<Minute> play(int n) {
            List<Minute> all = new ArrayList<>();
            for (int i = 0; i < n; i++) all.add(pass());
            return all;
        }

        int cost(int n) {
            return copyAs().play(n).stream().mapToInt(m -> m.price() + sum(m.bother())).sum();
        }

        Room copyAs() {
            Room r = copy();
            r.asleep = asleep;
            return r;
        }
    }

    static int sum(int[] a) {
        int s = 0;
        for (int v : a) s += v;
        return s;
    }

    // ---- the class in mind ----

    static final class Model {
        static final Pattern ONE = Pattern.compile("p[pdfmc]\\d{5};|w[+-]\\d\\d;|s\\d[+-]\\d\\d;|d[swcju][+-]\\d;|r[eokbl]\\d{3};|n\\d\\d;");
        static final Pattern ALL = Pattern.compile("(?:" + ONE.pattern() + ")+");

        Room room = new Room();
        Room image;
        String letters = "";
        List<Integer> row = new ArrayList<>();
        int[] refusals = new int[7];

        int no(int why) {
            refusals[-why]++;
            return why;
        }

        int noTold(int why) { return 1000000000 - no(why); }

        static int range(int v, int least, int most) { return v < least ? -4 : v > most ? -6 : 0; }

        boolean one(int i) { return i >= 0 && i < room.people.size(); }

        int letter(int c) {
            int why = range(c, 0, 255);
            if (why == 0 && letters.length() == 96) why = -6;
            if (why != 0) return no(why);
            letters += (char) c;
            return letters.length();
        }

        static boolean canGoOn(String s) {
            Matcher m = ALL.matcher(s);
            return m.matches() || m.hitEnd();
        }

        int parlour() {
            String s = letters;
            letters = "";
            for (int i = 0; i < s.length(); i++) if (!canGoOn(s.substring(0, i + 1))) return -1000 - i;
            if (!ALL.matcher(s).matches()) return -1000 - s.length();
            Room r = room.copy();
            Matcher m = ONE.matcher(s);
            int n = 0;
            while (m.find()) {
                if (!tell(r, m.group())) return -2000 - m.start();
                n++;
            }
            room = r;
            return n;
        }

        static boolean tell(Room r, String s) {
            int[] d = s.chars().map(c -> c - '0').toArray();
            String k = s.substring(1, 2);
            if (s.startsWith("p")) {
                if (d[4] > 1 || d[5] < 1 || d[5] > 5 || r.people.size() == 5) return false;
                r.people.add(new Human("pdfmc".indexOf(k), d[2], d[3], d[4], d[5], d[6]));
            } else if (s.startsWith("w")) {
                r.at = Integer.parseInt(s.substring(1, 4));
            } else if (s.startsWith("s")) {
                int v = Integer.parseInt(s.substring(2, 5));
                if (d[1] > 1 || v < -20 || v > 20) return false;
                r.stations[d[1]] = v;
            } else if (s.startsWith("d")) {
                r.driftKind = "swcju".indexOf(k);
                r.rate = Integer.parseInt(s.substring(2, 4));
            } else if (s.startsWith("r")) {
                int v = Integer.parseInt(s.substring(2, 4));
                if (v < 1 || v > 20) return false;
                r.ruleKind = "eokbl".indexOf(k);
                r.limit = v;
                r.past = d[4];
            } else {
                int v = Integer.parseInt(s.substring(1, 3));
                if (v < 1 || v > 60 || r.minute + v > 9999) return false;
                r.play(v);
            }
            return true;
        }

        int person(int i, int what) {
            if (!one(i)) return no(-1);
            if (what < 0 || what > 5) return no(-2);
            return room.people.get(i).get(what);
        }

        int bothers(int i, int n) {
            int why = !one(i) ? -1 : range(n, 0, 199);
            return why != 0 ? no(why) : room.people.get(i).bother(n);
        }

        int place(int what) {
            if (what < 0 || what > 2) return noTold(-2);
            return what == 0 ? room.at : room.stations[what - 1];
        }

        int set(int what, int v) {
            if (what < 0 || what > 5) return noTold(-2);
            int[][] r = {{-99, 99}, {-20, 20}, {-20, 20}, {-9, 9}, {1, 20}, {0, 9}};
            int why = range(v, r[what][0], r[what][1]);
            if (why != 0) return noTold(why);
            int[] was = {room.at, room.stations[0], room.stations[1], room.rate, room.limit, room.past};
            if (what == 0) room.at = v;
            if (what == 1) room.stations[0] = v;
            if (what == 2) room.stations[1] = v;
            if (what == 3) room.rate = v;
            if (what == 4) room.limit = v;
            if (what == 5) room.past = v;
            return was[what];
        }

        int kind(int what, int k) {
            if (what < 0 || what > 1 || k < 0 || k > 4) return no(-2);
            int was = what == 0 ? room.driftKind : room.ruleKind;
            if (what == 0) room.driftKind = k;
            else room.ruleKind = k;
            return was;
        }

        int turn(int i) {
            if (!one(i)) return no(-1);
            int was = room.turn;
            room.turn = i;
            return was;
        }

        int drifts(int t) {
            int why = range(t, 0, 9999);
            return why != 0 ? noTold(why) : room.drift(t);
        }

        int go(int n) {
            int why = range(n, 1, 60);
            if (why == 0 && room.minute + n > 9999) why = -6;
            if (why != 0) return no(why);
            return (int) room.play(n).stream().filter(m -> m.who() >= 0).count();
        }

        int cost(int n, int what) {
            int why = range(n, 0, 240);
            if (why == 0) why = what < 0 || what > 4 ? -2 : 0;
            if (why != 0) return no(why);
            List<Minute> p = room.copy().play(n);
            if (what == 0) return room.cost(n);
            if (what == 1) return (int) p.stream().filter(m -> m.who() >= 0).count();
            if (what == 2) return p.stream().mapToInt(Minute::price).sum();
            return p.stream().mapToInt(m -> Math.abs(m.at() - room.stations[what - 3])).max().orElse(0);
        }

        int at(int n) {
            int why = range(n, 0, 240);
            if (why != 0) return noTold(why);
            return n == 0 ? room.at : room.copy().play(n).get(n - 1).at();
        }

        int own(int i, int n, int what) {
            int all = 0;
            for (Minute m : room.copy().play(n)) {
                if (what != 1) all += m.bother()[i];
                if (what == 1 && m.who() == i) all++;
                if (what == 2 && m.who() == i) all += m.price();
            }
            return all;
        }

        int of(int i, int n, int what) {
            int why = !one(i) ? -1 : range(n, 0, 240);
            if (why == 0 && (what < 0 || what > 2)) why = -2;
            return why != 0 ? no(why) : own(i, n, what);
        }

        static int leastIndex(int[] costs) {
            int best = 0;
            for (int i = 0; i < costs.length; i++) if (costs[i] < costs[best]) best = i;
            return best;
        }

        int best(int n, int what) {
            int why = range(n, 0, 240);
            if (why == 0 && (what < 0 || what > 3)) why = -2;
            if (why != 0) return no(why);
            int[] many = {20, 10, 5, room.people.size()};
            if (many[what] == 0) return NONE;
            int[] costs = new int[many[what]];
            for (int i = 0; i < costs.length; i++) {
                Room r = room.copy();
                if (what == 0) r.limit = i + 1;
                if (what == 1) r.past = i;
                if (what == 2) r.ruleKind = i;
                if (what == 3) r.turn = i;
                costs[i] = r.cost(n);
            }
            return leastIndex(costs) + (what == 0 ? 1 : 0);
        }

        int finer(int n, int i) {
            int why = range(n, 0, 240);
            if (why == 0 && !one(i)) why = -1;
            if (why != 0) return noTold(why);
            Room r = room.copy();
            r.people.set(i, r.people.get(i).fine());
            return room.cost(n) - r.cost(n);
        }

        int mark(int n) {
            int why = range(n, 0, 240);
            if (why != 0) return noTold(why);
            Room r = room.copy();
            r.people.replaceAll(Human::fine);
            return room.cost(n) - r.cost(n);
        }

        int most(int n) {
            int why = range(n, 0, 240);
            if (why != 0) return no(why);
            int best = NONE;
            for (int i = room.people.size() - 1; i >= 0; i--) {
                if (best == NONE || own(i, n, 2) >= own(best, n, 2)) best = i;
            }
            return best;
        }

        int between(int n) {
            int why = range(n, 0, 240);
            if (why != 0) return no(why);
            int[] costs = new int[41];
            for (int v = -20; v <= 20; v++) {
                Room r = room.copy();
                r.stations[0] = v;
                costs[v + 20] = r.cost(n);
            }
            return leastIndex(costs);
        }

        int leave(int n) {
            int why = range(n, 0, 240);
            if (why != 0) return noTold(why);
            Room r = room.copy();
            r.asleep = true;
            return r.cost(n) - room.cost(n);
        }

        int held(int v) {
            Room r = room.copy();
            r.asleep = true;
            r.at = v;
            List<Minute> p = r.play(240);
            for (int i = 0; i < 240; i++) {
                for (int s : room.stations) if (Math.abs(p.get(i).at() - s) > room.limit) return i;
            }
            return NONE;
        }

        int holds(int v) {
            int why = range(v, -99, 99);
            return why != 0 ? no(why) : held(v);
        }

        int setAt() {
            int best = -20;
            for (int v = -20; v <= 20; v++) {
                int h = held(v);
                int b = held(best);
                if (b != NONE && (h == NONE || h > b)) best = v;
            }
            return best + 20;
        }

        int steadyFrom() {
            for (int m = 0; m <= 240; m++) {
                boolean still = true;
                for (int i = 0; i < 10; i++) still &= room.drift(room.minute + m + i) == 0;
                if (still) return m;
            }
            return NONE;
        }

        int whoLast(int n) {
            int why = range(n, 0, 240);
            if (why != 0) return no(why);
            int last = NONE;
            for (Minute m : room.copy().play(n)) if (m.who() >= 0) last = m.who();
            return last;
        }

        int when(int i) {
            if (i < 0) return no(-4);
            List<Integer> ups = new ArrayList<>();
            List<Minute> p = room.copy().play(240);
            for (int m = 0; m < 240; m++) if (p.get(m).who() >= 0) ups.add(m);
            return i < ups.size() ? ups.get(i) : NONE;
        }

        int row(int v) {
            int why = range(v, 0, 99);
            if (why == 0 && row.size() == 12) why = -6;
            if (why != 0) return no(why);
            row.add(v);
            return row.size();
        }

        int judged(Room r) {
            List<Minute> p = r.copy().play(row.size());
            for (int i = 0; i < row.size(); i++) {
                if (Math.max(0, Math.min(99, p.get(i).at() + 50)) != row.get(i)) return i;
            }
            return NONE;
        }

        int kept(int what) {
            if (what != 0 && what != 1) return no(-2);
            int answer = 0;
            for (int i = 0; i < (what == 0 ? 5 : 20); i++) {
                Room r = room.copy();
                if (what == 0) r.ruleKind = i;
                else r.limit = i + 1;
                if (judged(r) == NONE) answer += what == 0 ? 1 << i : 1;
            }
            return answer;
        }

        int judge() {
            int answer = judged(room);
            row.clear();
            return answer;
        }

        int lots(int n, int z) {
            int why = range(n, 1, 20);
            if (why != 0) return no(why);
            long seed = z & 0xffffffffL;
            int all = 0;
            for (int i = 0; i < n; i++) {
                seed = (seed * 1664525L + 1013904223L) % (1L << 32);
                Room r = room.copy();
                r.at = (int) (seed % (1L << 31) / 256 % 41) - 20;
                all += r.cost(60);
            }
            return all;
        }

        int image() {
            image = room.copy();
            return room.minute;
        }

        int on() {
            if (image == null) return no(-3);
            room = image.copy();
            return room.minute;
        }

        int count(int what) {
            int minds = room.people.stream().mapToInt(Human::minds).sum();
            int[] all = {room.people.size(), room.minute, room.driftKind, room.ruleKind, room.limit, room.past, room.turn,
                minds, row.size(), letters.length()};
            if (what >= 0 && what < 10) return all[what];
            return what >= 11 && what <= 16 ? refusals[what - 10] : NONE;
        }
    }

    // ---- runs ----

    static final class Run {
        final Random luck;
        final AHairToTheLeft x = new AHairToTheLeft();
        final Model m = new Model();
        final int number;
        int calls;
        int wrong;

        Run(int number) {
            this.number = number;
            luck = new Random(number);
        }

        void due(String call, int got, int want) {
            calls++;
            if (got != want) {
                wrong++;
                System.out.println("run " + number + ", call " + calls + ": " + call + " answered " + got + ", due is " + want);
            }
        }

        int below(int n) { return luck.nextInt(n); }

        // Mostly within, now and then at an edge, a little beyond, or far beyond.
        int within(int least, int most) {
            int k = below(40);
            if (k == 0) return least - 1;
            if (k == 1) return most + 1;
            if (k == 2) return luck.nextInt();
            if (k == 3) return most;
            if (k == 4) return least;
            return least + below(most - least + 1);
        }

        int someone() { return within(0, Math.max(0, m.room.people.size() - 1)); }

        char digit(int below) { return (char) ('0' + (below(20) == 0 ? below(10) : below(below))); }

        String sign() { return below(2) == 0 ? "+" : "-"; }

        String two(int below) { return digits(below(below)); }

        String digits(int v) { return "" + v / 10 + v % 10; }

        // A few minutes, but near the last one up to it or a little beyond.
        int few() {
            int left = 9999 - m.room.minute;
            return left < 60 ? Math.max(0, left - 1 + below(3)) : 1 + below(4);
        }

        String statement() {
            switch (below(8)) {
                case 0: return "w" + sign() + two(below(3) == 0 ? 100 : 20) + ";";
                case 1: return "s" + digit(2) + sign() + two(below(15) == 0 ? 100 : 21) + ";";
                case 2: return "d" + "swcju".charAt(below(5)) + sign() + digit(below(3) == 0 ? 10 : 4) + ";";
                case 3: return "r" + "eokbl".charAt(below(5)) + two(below(15) == 0 ? 30 : 21) + digit(10) + ";";
                case 4: return "n" + (below(2) == 0 ? digits(few()) : two(below(15) == 0 ? 70 : 30)) + ";";
                default:
                    return "p" + "pdfmc".charAt(below(5)) + digit(10) + digit(10) + digit(2) + (char) ('0' + 1 + below(below(15) == 0 ? 9 : 5)) + digit(10) + ";";
            }
        }

        String text() {
            StringBuilder s = new StringBuilder();
            int n = 1 + below(4);
            for (int i = 0; i < n; i++) s.append(statement());
            if (below(8) == 0) s.setCharAt(below(s.length()), (char) below(256));
            if (below(12) == 0) s.setLength(below(s.length()));
            if (below(12) == 0) s.insert(below(s.length() + 1), "pwsdrn;0+x".charAt(below(10)));
            return s.toString();
        }

        void tell() {
            for (char c : text().toCharArray()) due("letter(" + (int) c + ")", x.letter(c), m.letter(c));
            due("parlour()", x.parlour(), m.parlour());
        }

        void rowAsItGoes() {
            int n = 1 + below(12);
            List<Minute> p = m.room.copy().play(n);
            for (int i = 0; i < n; i++) {
                int v = Math.max(0, Math.min(99, p.get(i).at() + 50));
                if (below(25) == 0) v = below(100);
                due("row(" + v + ")", x.row(v), m.row(v));
            }
        }

        void letterAlone() {
            int c = within(0, 255);
            due("letter(" + c + ")", x.letter(c), m.letter(c));
        }

        void act() {
            int n = below(4) == 0 ? within(0, 240) : below(30);
            int a;
            int b;
            switch (below(36)) {
                case 0: a = someone(); b = within(0, 5); due("person(" + a + ", " + b + ")", x.person(a, b), m.person(a, b)); break;
                case 1: a = someone(); b = within(0, 199); due("bothers(" + a + ", " + b + ")", x.bothers(a, b), m.bothers(a, b)); break;
                case 2: a = within(0, 2); due("place(" + a + ")", x.place(a), m.place(a)); break;
                case 3: a = within(0, 5); b = within(-9, 20); due("set(" + a + ", " + b + ")", x.set(a, b), m.set(a, b)); break;
                case 4: a = within(0, 5); b = within(-99, 99); due("set(" + a + ", " + b + ")", x.set(a, b), m.set(a, b)); break;
                case 5: a = within(0, 1); b = within(0, 4); due("kind(" + a + ", " + b + ")", x.kind(a, b), m.kind(a, b)); break;
                case 6: a = someone(); due("turn(" + a + ")", x.turn(a), m.turn(a)); break;
                case 7: a = within(0, 9999); due("drifts(" + a + ")", x.drifts(a), m.drifts(a)); break;
                case 8: a = within(1, 60); due("go(" + a + ")", x.go(a), m.go(a)); break;
                case 9: a = few(); due("go(" + a + ")", x.go(a), m.go(a)); break;
                case 10: b = within(0, 4); due("cost(" + n + ", " + b + ")", x.cost(n, b), m.cost(n, b)); break;
                case 11: due("at(" + n + ")", x.at(n), m.at(n)); break;
                case 12: a = someone(); b = within(0, 2); due("of(" + a + ", " + n + ", " + b + ")", x.of(a, n, b), m.of(a, n, b)); break;
                case 13: b = within(0, 3); due("best(" + n + ", " + b + ")", x.best(n, b), m.best(n, b)); break;
                case 14: a = someone(); due("finer(" + n + ", " + a + ")", x.finer(n, a), m.finer(n, a)); break;
                case 15: due("mark(" + n + ")", x.mark(n), m.mark(n)); break;
                case 16: due("most(" + n + ")", x.most(n), m.most(n)); break;
                case 17: due("between(" + n + ")", x.between(n), m.between(n)); break;
                case 18: due("leave(" + n + ")", x.leave(n), m.leave(n)); break;
                case 19: a = within(-25, 25); due("holds(" + a + ")", x.holds(a), m.holds(a)); break;
                case 20: a = within(-99, 99); due("holds(" + a + ")", x.holds(a), m.holds(a)); break;
                case 21: due("setAt()", x.setAt(), m.setAt()); break;
                case 22: due("steadyFrom()", x.steadyFrom(), m.steadyFrom()); break;
                case 23: due("whoLast(" + n + ")", x.whoLast(n), m.whoLast(n)); break;
                case 24: a = within(0, 60); due("when(" + a + ")", x.when(a), m.when(a)); break;
                case 25: a = within(0, 99); due("row(" + a + ")", x.row(a), m.row(a)); break;
                case 26: rowAsItGoes(); break;
                case 27: a = within(0, 1); due("kept(" + a + ")", x.kept(a), m.kept(a)); break;
                case 28: due("judge()", x.judge(), m.judge()); break;
                case 29: a = within(1, 20); b = luck.nextInt(); due("lots(" + a + ", " + b + ")", x.lots(a, b), m.lots(a, b)); break;
                case 30: due("image()", x.image(), m.image()); break;
                case 31: due("on()", x.on(), m.on()); break;
                case 32: a = within(0, 16); due("count(" + a + ")", x.count(a), m.count(a)); break;
                case 33: if (below(4) == 0) letterAlone(); break;
                case 34: if (below(3) == 0) tell(); break;
                default: a = within(0, 4); due("kind(1, " + a + ")", x.kind(1, a), m.kind(1, a)); break;
            }
        }

        void all() {
            for (int i = below(4); i > 0; i--) tell();
            if (below(12) == 0) {
                for (int i = 0; i < 166; i++) due("go(60)", x.go(60), m.go(60));
            }
            while (calls < 440) act();
            for (int what = -1; what <= 17; what++) due("count(" + what + ")", x.count(what), m.count(what));
            for (int what = 0; what < 3; what++) due("place(" + what + ")", x.place(what), m.place(what));
        }
    }

    public static void main(String[] args) {
        int runs = args.length > 0 ? Integer.parseInt(args[0]) : 300;
        int wrong = 0;
        int calls = 0;
        for (int i = 0; i < runs; i++) {
            Run run = new Run(i);
            run.all();
            wrong += run.wrong;
            calls += run.calls;
        }
        System.out.println(wrong == 0 ? calls + " calls of " + runs + " runs are as due" : wrong + " answers are not as due");
        if (wrong != 0) System.exit(1);
    }
}
