import java.util.function.Supplier;

/** The edges of each promise: the last that is taken, the first that is refused, and in which order. */
public final class EdgeTests extends Sheet {
    private static final String TWO = "pp10012;pd94127;w-07;s0-03;s1+04;dj+2;ro032;";
    private static final String STILL = "ds+0;rk010;pp00010;";

    /** How a call that takes one number answers. */
    private interface Call {
        int of(AHairToTheLeft x, int v);
    }

    /** Below least it is refused with low, above greatest with high; at both it is not. */
    private static void range(String letters, String name, Call call, int least, int greatest, int low, int high) {
        for (int v : new int[] {least - 1, least - 2, LOW}) {
            refused(letters, name + " " + v, x -> call.of(x, v), low);
        }
        for (int v : new int[] {greatest + 1, greatest + 2, HIGH}) {
            refused(letters, name + " " + v, x -> call.of(x, v), high);
        }
        notRefused(letters, name, call, least);
        notRefused(letters, name, call, greatest);
    }

    private static void notRefused(String letters, String name, Call call, int v) {
        AHairToTheLeft x = told(letters);
        call.of(x, v);
        for (int k = 11; k <= 16; k++) {
            due("behind " + name + " " + v + ", count(" + k + ")", x.count(k), 0);
        }
    }

    private static void inMindRange(String name, Call call, boolean told) {
        range(TWO, name, call, 0, 240, told ? TOLD + 4 : -4, told ? TOLD + 6 : -6);
    }

    // ---- 1 .. 11 ----

    private static void newObject() {
        AHairToTheLeft x = new AHairToTheLeft();
        int[] counts = {0, 0, 0, 0, 3, 2, 0, 0, 0, 0, -9, 0, 0, 0, 0, 0, 0, -9};
        for (int what = 0; what < counts.length; what++) {
            due("count(" + what + ")", x.count(what), counts[what]);
        }
        due("person(0, 0)", x.person(0, 0), -1);
        due("drifts(9999)", x.drifts(9999), 1);
        due("another one is as new", new AHairToTheLeft().count(11), 0);
    }

    private static void letter() {
        range("", "letter", AHairToTheLeft::letter, 0, 255, -4, -6);
        taken("", "letter(0)", x -> x.letter(0), 1);
        taken("", "letter(255)", x -> x.letter(255), 1);
    }

    private static void letterWithoutRoom() {
        Supplier<AHairToTheLeft> full = () -> {
            AHairToTheLeft x = new AHairToTheLeft();
            for (int i = 0; i < 96; i++) {
                due("letter " + i, x.letter(i), i + 1);
            }
            return x;
        };
        refused(full, "letter(0)", x -> x.letter(0), -6);
        refused(full, "letter(256)", x -> x.letter(256), -6);
        refused(full, "letter(-1)", x -> x.letter(-1), -4);
    }

    private static void lettersNoMore() {
        AHairToTheLeft x = new AHairToTheLeft();
        due("statements", tell(x, "w+01;w+02;w+03;"), 3);
        due("count(9)", x.count(9), 0);
        due("a fault of form", tell(x, "w+04;x"), -1005);
        due("count(9)", x.count(9), 0);
        due("a fault of sense", tell(x, "w+04;n00;"), -2005);
        due("count(9)", x.count(9), 0);
        due("no letters", x.parlour(), -1000);
        due("nothing lingers", tell(x, "n01;"), 1);
        due("place(0)", x.place(0), 4);
        for (int k = 11; k <= 16; k++) {
            due("nothing is counted: count(" + k + ")", x.count(k), 0);
        }
    }

    private static void person() {
        refused("", "person(0, 0)", x -> x.person(0, 0), -1);
        refused("", "person(0, 9)", x -> x.person(0, 9), -1);
        range(TWO, "person(.., 0)", (x, v) -> x.person(v, 0), 0, 1, -1, -1);
        range(TWO, "person(1, ..)", (x, v) -> x.person(1, v), 0, 5, -2, -2);
        refused(TWO, "person(2, 6)", x -> x.person(2, 6), -1);
        int[][] each = {{0, 1, 0, 0, 1, 2}, {4, 9, 8, 1, 3, 7}};
        for (int i = 0; i < 2; i++) {
            for (int what = 0; what < 6; what++) {
                due("person(" + i + ", " + what + ")", told("pp10012;pc98137;").person(i, what), each[i][what]);
            }
        }
    }

    private static void bothers() {
        refused("", "bothers(0, 0)", x -> x.bothers(0, 0), -1);
        range(TWO, "bothers(.., 0)", (x, v) -> x.bothers(v, 0), 0, 1, -1, -1);
        range(TWO, "bothers(1, ..)", (x, v) -> x.bothers(1, v), 0, 199, -4, -6);
        refused(TWO, "bothers(2, -1)", x -> x.bothers(2, -1), -1);
        refused(TWO, "bothers(-1, 200)", x -> x.bothers(-1, 200), -1);
        taken(TWO, "bothers(1, 199)", x -> x.bothers(1, 199), 9 * 195);
    }

    private static void place() {
        range(TWO, "place", AHairToTheLeft::place, 0, 2, TOLD + 2, TOLD + 2);
        taken(TWO, "place(0)", x -> x.place(0), -7);
        taken(TWO, "place(1)", x -> x.place(1), -3);
        taken(TWO, "place(2)", x -> x.place(2), 4);
    }

    private static void set() {
        int[] least = {-99, -20, -20, -9, 1, 0};
        int[] greatest = {99, 20, 20, 9, 20, 9};
        int[] was = {-7, -3, 4, 2, 3, 2};
        for (int i = 0; i < 6; i++) {
            int what = i;
            range(TWO, "set(" + what + ", ..)", (x, v) -> x.set(what, v), least[what], greatest[what], TOLD + 4, TOLD + 6);
            taken(TWO, "set(" + what + ", least)", x -> x.set(what, least[what]), was[what]);
            taken(TWO, "set twice", x -> then(x.set(what, least[what]), x.set(what, greatest[what])), least[what]);
        }
        range(TWO, "set(.., 1)", (x, v) -> x.set(v, 1), 0, 5, TOLD + 2, TOLD + 2);
        refused(TWO, "set(6, -1000)", x -> x.set(6, -1000), TOLD + 2);
        refused(TWO, "set(-1, 1000)", x -> x.set(-1, 1000), TOLD + 2);
    }

    private static void setOneAlone() {
        for (int i = 0; i < 6; i++) {
            AHairToTheLeft x = told("w-07;s0-03;s1+04;ds+2;re032;");
            x.set(i, 5);
            int[] now = {x.place(0), x.place(1), x.place(2), x.drifts(0), x.count(4), x.count(5)};
            int[] was = {-7, -3, 4, 2, 3, 2};
            for (int k = 0; k < 6; k++) {
                due("behind set(" + i + ", 5), number " + k, now[k], k == i ? 5 : was[k]);
            }
        }
    }

    private static void kind() {
        for (int w = 0; w < 2; w++) {
            int what = w;
            range(TWO, "kind(" + what + ", ..)", (x, v) -> x.kind(what, v), 0, 4, -2, -2);
            for (int k = 0; k < 5; k++) {
                int other = k;
                taken(TWO, "kind, count", x -> x.kind(what, other) + 10 * x.count(2 + what), (what == 0 ? 3 : 1) + 10 * other);
                taken(TWO, "the other kind", x -> then(x.kind(what, other), x.count(3 - what)), what == 0 ? 1 : 3);
            }
        }
        range(TWO, "kind(.., 0)", (x, v) -> x.kind(v, 0), 0, 1, -2, -2);
        refused(TWO, "kind(2, 5)", x -> x.kind(2, 5), -2);
    }

    private static void turn() {
        refused("", "turn(0)", x -> x.turn(0), -1);
        range(TWO, "turn", AHairToTheLeft::turn, 0, 1, -1, -1);
        taken(TWO, "turn(1)", x -> x.turn(1) + 10 * x.count(6), 10);
        taken(TWO, "turn(1), turn(0)", x -> x.turn(1) + 10 * x.turn(0) + x.count(6), 10);
        taken(TWO, "turn(0)", x -> x.turn(0) + x.count(6), 0);
    }

    private static void drifts() {
        range(TWO, "drifts", AHairToTheLeft::drifts, 0, 9999, TOLD + 4, TOLD + 6);
        taken(TWO, "drifts(0)", x -> x.drifts(0), 6);
        taken(TWO, "drifts(9999)", x -> x.drifts(9999), 6);
        taken("ds-9;", "below 0 it is no refusal: drifts(0)", x -> x.drifts(0), -9);
    }

    private static void go() {
        range(TWO, "go", AHairToTheLeft::go, 1, 60, -4, -6);
        taken(STILL, "go(1)", x -> x.go(1) + 100 * x.count(1), 101);
        taken(STILL, "go(60)", x -> x.go(60) + 100 * x.count(1), 6060);
        taken("", "nobody: go(60)", x -> x.go(60), 0);
        taken("ds+0;pp10010;", "none gets up: go(60)", x -> x.go(60), 0);
        taken(STILL, "go(2), go(3)", x -> x.go(2) * 10 + x.go(3), 23);
    }

    private static void goToTheLastMinute() {
        refused(() -> toldAt(9939, STILL), "go(61) at 9939", x -> x.go(61), -6);
        due("go(60) at 9939", toldAt(9939, STILL).go(60), 60);
        refused(() -> toldAt(9940, STILL), "go(60) at 9940", x -> x.go(60), -6);
        due("go(59) at 9940", toldAt(9940, STILL).go(59), 59);
        refused(() -> toldAt(9999, STILL), "go(1) at 9999", x -> x.go(1), -6);
        refused(() -> toldAt(9999, STILL), "go(0) at 9999", x -> x.go(0), -4);
        refused(() -> toldAt(9999, STILL), "go(high) at 9999", x -> x.go(HIGH), -6);
        due("go(1) at 9998", toldAt(9998, STILL).go(1), 1);
    }

    // ---- 12 .. 25, in mind ----

    private static void cost() {
        inMindRange("cost(.., 0)", (x, n) -> x.cost(n, 0), false);
        range(TWO, "cost(5, ..)", (x, v) -> x.cost(5, v), 0, 4, -2, -2);
        refused(TWO, "cost(-1, 5)", x -> x.cost(-1, 5), -4);
        refused(TWO, "cost(241, -1)", x -> x.cost(241, -1), -6);
        for (int w = 0; w < 5; w++) {
            int what = w;
            taken(TWO, "cost(0, " + what + ")", x -> x.cost(0, what), 0);
        }
        taken(STILL, "cost(240, 1)", x -> x.cost(240, 1), 240);
    }

    private static void at() {
        inMindRange("at", AHairToTheLeft::at, true);
        taken(TWO, "at(0)", x -> x.at(0), -7);
        taken("w-99;ds-9;", "at(0)", x -> x.at(0), -99);
        taken("w-20;", "at(240)", x -> x.at(240), 99);
        taken("w+09;dw-1;", "at(240)", x -> x.at(240), 9);
    }

    private static void of() {
        refused("", "of(0, 0, 0)", x -> x.of(0, 0, 0), -1);
        range(TWO, "of(.., 5, 0)", (x, v) -> x.of(v, 5, 0), 0, 1, -1, -1);
        inMindRange("of(1, .., 0)", (x, n) -> x.of(1, n, 0), false);
        range(TWO, "of(1, 5, ..)", (x, v) -> x.of(1, 5, v), 0, 2, -2, -2);
        refused(TWO, "of(2, -1, 3)", x -> x.of(2, -1, 3), -1);
        refused(TWO, "of(-1, 241, 3)", x -> x.of(-1, 241, 3), -1);
        refused(TWO, "of(0, -1, 3)", x -> x.of(0, -1, 3), -4);
        refused(TWO, "of(0, 241, -1)", x -> x.of(0, 241, -1), -6);
        String two = "ds+0;rk010;w+01;pp30019;pp00018;pp00110;";
        int[][] rows = {{0, 0, 0, 0, 0}, {0, 240, 1440, 80, 2160}, {1, 240, 0, 80, 640}, {2, 1, 0, 0, 0}, {0, 1, 0, 1, 9}};
        for (int[] r : rows) {
            for (int w = 0; w < 3; w++) {
                int what = w;
                taken(two, "of(" + r[0] + ", " + r[1] + ", " + w + ")", x -> x.of(r[0], r[1], what), r[2 + what]);
            }
        }
        taken("ds+0;re010;w+01;pp30019;", "of(0, 240, 2)", x -> x.of(0, 240, 2), 720);
    }

    private static void best() {
        for (int w = 0; w < 4; w++) {
            int what = w;
            inMindRange("best(.., " + what + ")", (x, n) -> x.best(n, what), false);
            taken(TWO, "best(0, " + what + ")", x -> x.best(0, what), what == 0 ? 1 : 0);
        }
        range(TWO, "best(5, ..)", (x, v) -> x.best(5, v), 0, 3, -2, -2);
        refused(TWO, "best(-1, 4)", x -> x.best(-1, 4), -4);
        refused(TWO, "best(241, -1)", x -> x.best(241, -1), -6);
        refused("", "best(241, 3)", x -> x.best(241, 3), -6);
        taken("", "nobody: best(5, 3)", x -> x.best(5, 3), -9);
        taken("", "nobody: best(5, 2)", x -> x.best(5, 2), 0);
    }

    private static void finer() {
        inMindRange("finer(.., 1)", (x, n) -> x.finer(n, 1), true);
        range(TWO, "finer(5, ..)", (x, v) -> x.finer(5, v), 0, 1, TOLD + 1, TOLD + 1);
        refused("", "finer(0, 0)", x -> x.finer(0, 0), TOLD + 1);
        refused("", "finer(-1, 0)", x -> x.finer(-1, 0), TOLD + 4);
        refused("", "finer(241, -1)", x -> x.finer(241, -1), TOLD + 6);
        taken("pp10050;pp00050;", "below 0: finer(6, 0)", x -> x.finer(6, 0), -1);
    }

    private static void mark() {
        inMindRange("mark", AHairToTheLeft::mark, true);
        taken("pp10050;pp10050;", "below 0: mark(6)", x -> x.mark(6), -2);
    }

    private static void most() {
        inMindRange("most", AHairToTheLeft::most, false);
        refused("", "most(241)", x -> x.most(241), -6);
        taken("", "nobody: most(0)", x -> x.most(0), -9);
    }

    private static void between() {
        inMindRange("between", AHairToTheLeft::between, false);
        taken("re200;ds-1;w-19;pp90019;", "the least: between(1)", x -> x.between(1), 0);
        taken("re200;ds+1;w+19;pp90019;", "the greatest: between(1)", x -> x.between(1), 40);
    }

    private static void leave() {
        inMindRange("leave", AHairToTheLeft::leave, true);
        taken("pp10019;", "below 0: leave(4)", x -> x.leave(4), -5);
    }

    private static void holds() {
        range(TWO, "holds", AHairToTheLeft::holds, -99, 99, -4, -6);
        String still = "ds+0;s1+00;re200;";
        taken(still, "holds(-21)", x -> x.holds(-21), 0);
        taken(still, "holds(-20)", x -> x.holds(-20), -9);
        taken(still, "holds(20)", x -> x.holds(20), -9);
        taken(still, "holds(21)", x -> x.holds(21), 0);
    }

    private static void setAt() {
        taken("s0-20;s1-20;ds+0;re010;", "setAt()", AHairToTheLeft::setAt, 0);
        taken("s0+20;s1+20;ds-1;re010;", "setAt()", AHairToTheLeft::setAt, 40);
        taken("s0+20;s1+20;ds+0;re010;", "setAt()", AHairToTheLeft::setAt, 39);
        taken("s0-20;s1+20;re010;", "nowhere: setAt()", AHairToTheLeft::setAt, 0);
    }

    private static void steadyFrom() {
        taken("ds+0;", "at once", AHairToTheLeft::steadyFrom, 0);
        taken("dc+9;", "the latest", AHairToTheLeft::steadyFrom, 180);
        taken("ds+1;w+99;", "never", AHairToTheLeft::steadyFrom, -9);
    }

    private static void whoLast() {
        inMindRange("whoLast", AHairToTheLeft::whoLast, false);
        taken(STILL, "whoLast(0)", x -> x.whoLast(0), -9);
        taken(STILL, "whoLast(1)", x -> x.whoLast(1), 0);
        taken("", "nobody: whoLast(240)", x -> x.whoLast(240), -9);
    }

    private static void when() {
        refused(STILL, "when(-1)", x -> x.when(-1), -4);
        refused(STILL, "when(low)", x -> x.when(LOW), -4);
        refused("", "when(-1)", x -> x.when(-1), -4);
        taken(STILL, "when(0)", x -> x.when(0), 0);
        taken(STILL, "when(239)", x -> x.when(239), 239);
        taken(STILL, "when(240)", x -> x.when(240), -9);
        taken(STILL, "when(high)", x -> x.when(HIGH), -9);
    }

    // ---- 26 .. 32 ----

    private static AHairToTheLeft withRow(int... row) {
        AHairToTheLeft x = new AHairToTheLeft();
        for (int v : row) {
            x.row(v);
        }
        return x;
    }

    private static AHairToTheLeft withFullRow() {
        return withRow(51, 52, 53, 54, 55, 56, 57, 58, 59, 60, 61, 62);
    }

    private static void row() {
        range("", "row", AHairToTheLeft::row, 0, 99, -4, -6);
        refused(EdgeTests::withFullRow, "row(0)", x -> x.row(0), -6);
        refused(EdgeTests::withFullRow, "row(99)", x -> x.row(99), -6);
        refused(EdgeTests::withFullRow, "row(100)", x -> x.row(100), -6);
        refused(EdgeTests::withFullRow, "row(-1)", x -> x.row(-1), -4);
        AHairToTheLeft filling = new AHairToTheLeft();
        for (int i = 1; i <= 12; i++) {
            due("number " + i, filling.row(i), i);
        }
        AHairToTheLeft x = withFullRow();
        x.row(7);
        due("the 13th is not there", x.judge(), -9);
        due("room again", x.row(7), 1);
    }

    private static void kept() {
        range("", "kept", AHairToTheLeft::kept, 0, 1, -2, -2);
        due("the ROW is empty: kept(0)", new AHairToTheLeft().kept(0), 31);
        due("the ROW is empty: kept(1)", new AHairToTheLeft().kept(1), 20);
        AHairToTheLeft x = withFullRow();
        due("nobody is there to keep any: kept(0)", x.kept(0), 31);
        due("kept(1)", x.kept(1), 20);
        due("the ROW stays: count(8)", x.count(8), 12);
        due("kept(0) again", x.kept(0), 31);
        due("none keeps it", withRow(51, 53).kept(0) + withRow(51, 53).kept(1), 0);
        due("the last of 12 is not so", withRow(51, 52, 53, 54, 55, 56, 57, 58, 59, 60, 61, 0).kept(0), 0);
    }

    private static void judge() {
        int[] answers = {withRow().judge(), withFullRow().judge(), withRow(0).judge(), withRow(51, 0).judge()};
        int[] wants = {-9, -9, 0, 1};
        for (int i = 0; i < wants.length; i++) {
            due("judge() " + i, answers[i], wants[i]);
        }
        AHairToTheLeft x = withRow(51, 52);
        due("it is so", x.judge(), -9);
        due("the ROW has none then", x.count(8), 0);
        x.row(7);
        due("it is not so", x.judge(), 0);
        due("the ROW has none then", x.count(8), 0);
        due("of none", x.judge(), -9);
        due("nothing went by", x.count(1), 0);
    }

    private static void lots() {
        range(TWO, "lots", (x, n) -> x.lots(n, 7), 1, 20, -4, -6);
        for (int z : new int[] {LOW, -1, 0, 1, HIGH}) {
            refused(TWO, "lots(0, " + z + ")", x -> x.lots(0, z), -4);
            refused(TWO, "lots(21, " + z + ")", x -> x.lots(21, z), -6);
            notRefused(TWO, "lots(1, ..)", (x, v) -> x.lots(1, v), z);
            taken("", "nobody: lots(20, " + z + ")", x -> x.lots(20, z), 0);
        }
    }

    private static void image() {
        taken("", "image()", AHairToTheLeft::image, 0);
        due("image() at 9999", toldAt(9999, STILL).image(), 9999);
        AHairToTheLeft x = new AHairToTheLeft();
        x.image();
        x.go(7);
        due("a later one in its place", x.image(), 7);
        x.go(1);
        due("on()", x.on(), 7);
    }

    private static void on() {
        refused("", "on()", AHairToTheLeft::on, -3);
        refused(TWO + "n05;", "on()", AHairToTheLeft::on, -3);
        AHairToTheLeft x = new AHairToTheLeft();
        due("of a new one: image()", x.image(), 0);
        String then = all(x);
        tell(x, TWO + "n60;");
        due("on()", x.on(), 0);
        same("all", all(x), then);
        due("nobody again: turn(0)", x.turn(0), -1);
        due("on() a second time", x.on(), 0);
    }

    private static void roomBehindOn() {
        AHairToTheLeft x = told("pp10010;pp20010;");
        x.image();
        due("three more", tell(x, "pp30010;pp40010;pp50010;"), 3);
        due("a sixth", tell(x, "pp60010;"), -2000);
        x.on();
        due("count(0)", x.count(0), 2);
        due("count(7)", x.count(7), 3);
        due("person(2, 1)", x.person(2, 1), -1);
        due("three others", tell(x, "pp70010;pp80010;pp90010;"), 3);
        due("person(2, 1)", x.person(2, 1), 7);
        due("a sixth", tell(x, "pp60010;"), -2000);
    }

    private static void countsOfAll() {
        AHairToTheLeft x = told(TWO + "n03;");
        x.turn(1);
        x.row(5);
        x.letter('n');
        x.letter('0');
        int[] counts = {2, 3, 3, 1, 3, 2, 1, 10, 1, 2};
        for (int what = 0; what < counts.length; what++) {
            due("count(" + what + ")", x.count(what), counts[what]);
        }
    }

    private static void count() {
        for (int what : new int[] {-1, -2, LOW, 10, 17, 18, HIGH}) {
            taken("", "count(" + what + ")", x -> x.count(what), -9);
        }
        taken("pp90010;pc90010;pd90010;pf90010;pm90010;", "count(7)", x -> x.count(7), 45);
        taken("", "nobody: count(7)", x -> x.count(7), 0);
        AHairToTheLeft x = new AHairToTheLeft();
        for (int i = 1; i <= 3; i++) {
            x.turn(0);
            x.kind(9, 9);
            x.on();
            x.row(-1);
            x.row(100);
            int[] many = {i, i, i, i, 0, i};
            for (int k = 0; k < 6; k++) {
                due("count(" + (11 + k) + ")", x.count(11 + k), many[k]);
            }
        }
    }

    public static void main(String[] args) {
        firstPromises();
        promisesInMind();
        lastPromises();
        System.exit(close());
    }

    private static void firstPromises() {
        sentence("Nobody, a STEADY DRIFT, an EDGE.", EdgeTests::newObject);
        sentence("A letter (0 .. 255) comes: how many there are. -4; -6 (255;", EdgeTests::letter);
        sentence("96, too).", EdgeTests::letterWithoutRoom);
        sentence("The letters become a PARLOUR, and are no more (with a FAULT neither): how many STATEMENTS; the FAULT (nothing is counted).", EdgeTests::lettersNoMore);
        sentence("Of one: 0 KIND (0 p, 1 d, 2 f, 3 m, 4 c), 1 MINDS, 2 FIGURE, 3 STATION, 4 HAND, 5 PRICE. -1; -2.", EdgeTests::person);
        sentence("What one is BOTHERED by n (0 .. 199). -1; -4; -6 199.", EdgeTests::bothers);
        sentence("AT (what 0), the place of STATION 0 (1), 1 (2). Refused as told: -2.", EdgeTests::place);
        sentence("Refused as told: -2; -4 (-99; -20; -20; -9; 1; 0); -6 (99; 20; 20; 9; 20; 9).", EdgeTests::set);
        sentence("AT (what 0), the place of STATION 0, 1 (1, 2), RATE (3), LIMIT (4), PAST (5) becomes v: what it was.", EdgeTests::setOneAlone);
        sentence("The KIND of DRIFT (what 0: 0 s, 1 w, 2 c, 3 j, 4 u), of RULE (1: 0 e, 1 o, 2 k, 3 b, 4 l) becomes another one: what it was. -2 either.", EdgeTests::kind);
        sentence("TURN becomes his: whose it was. -1.", EdgeTests::turn);
        sentence("How much AT is more in MINUTE t (0 .. 9999). Refused as told: -4; -6 9999.", EdgeTests::drifts);
        sentence("n MINUTES (1 .. 60) go by: how many got up. -4;", EdgeTests::go);
        sentence("-6 (60; MINUTE above 9999).", EdgeTests::goToTheLastMinute);
    }

    private static void promisesInMind() {
        sentence("In mind: 0 .. 4 as told. -4; -6 240; -2.", EdgeTests::cost);
        sentence("AT behind n MINUTES. Refused as told: -4; -6 240.", EdgeTests::at);
        sentence("Of one: BOTHER (what 0), UPS (1), both (2). -1; -4; -6 240; -2.", EdgeTests::of);
        sentence("BEST LIMIT (what 0), PAST (1), RULE (2), FIRST (3; -9 nobody). -4; -6 240; -2.", EdgeTests::best);
        sentence("FINER. Refused as told: -4; -6 240; -1.", EdgeTests::finer);
        sentence("MARK. Refused as told: -4; -6 240.", EdgeTests::mark);
        sentence("MOST; -9 nobody. -4; -6 240.", EdgeTests::most);
        sentence("BETWEEN and 20. -4; -6 240.", EdgeTests::between);
        sentence("LEAVE. Refused as told: -4; -6 240.", EdgeTests::leave);
        sentence("HOLDS; -9. -4 (-99); -6 99.", EdgeTests::holds);
        sentence("SET AT and 20.", EdgeTests::setAt);
        sentence("STEADY FROM; -9.", EdgeTests::steadyFrom);
        sentence("WHO LAST; -9. -4; -6 240.", EdgeTests::whoLast);
        sentence("WHEN the i-th one (0 ..) gets up; -9. -4.", EdgeTests::when);
    }

    private static void lastPromises() {
        sentence("A number more of the ROW (0 .. 99): how many. -4; -6 (99; 12, too).", EdgeTests::row);
        sentence("KEPT: RULES (what 0, bits), LIMITS (1) (the ROW stays). -2.", EdgeTests::kept);
        sentence("JUDGED; -9 (whichever it answers, the ROW has none then).", EdgeTests::judge);
        sentence("LOTS. -4; -6 20.", EdgeTests::lots);
        sentence("THE IMAGE is taken: MINUTE.", EdgeTests::image);
        sentence("ON from it: MINUTE. -3 there is none.", EdgeTests::on);
        sentence("ON from it all is as then.", EdgeTests::roomBehindOn);
        sentence("0 PEOPLE, 1 MINUTE, 2 the KIND of DRIFT, 3 the KIND of RULE, 4 LIMIT, 5 PAST, 6 TURN, 7 all MINDS, 8 in the ROW, 9 letters,", EdgeTests::countsOfAll);
        sentence("11 .. 16 REFUSALS -1 .. -6. -9 for another what.", EdgeTests::count);
    }
}
