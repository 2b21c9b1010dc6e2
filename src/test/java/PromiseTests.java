/** Each promise of the document by examples worked out by hand, its edges and its refusals. */
public final class PromiseTests {
    private static final int TOLD = 1000000000;
    private static final int LOW = Integer.MIN_VALUE;
    private static final int HIGH = Integer.MAX_VALUE;
    private static int wrong = 0;
    private static int promise = 0;

    private static void due(String call, int got, int want) {
        if (got != want) {
            wrong++;
            System.out.println("promise " + promise + ": " + call + " answered " + got + ", due is " + want);
        }
    }

    private static int tell(AHairToTheLeft x, String letters) {
        for (char c : letters.toCharArray()) {
            x.letter(c);
        }
        return x.parlour();
    }

    private static AHairToTheLeft told(String letters) {
        AHairToTheLeft x = new AHairToTheLeft();
        due("setting out with " + letters, Math.min(0, tell(x, letters)), 0);
        return x;
    }

    private static void goTo(AHairToTheLeft x, int minute) {
        int left = minute - x.count(1);
        while (left > 0) {
            x.go(Math.min(60, left));
            left -= 60;
        }
    }

    private static void refused(AHairToTheLeft x, int... numbers) {
        for (int k = 1; k <= 6; k++) {
            due("count(" + (10 + k) + ")", x.count(10 + k), numbers[k - 1]);
        }
    }

    private static void newObject() {
        AHairToTheLeft x = new AHairToTheLeft();
        int[] counts = {0, 0, 0, 0, 3, 2, 0, 0, 0, 0};
        for (int what = 0; what < counts.length; what++) {
            due("count(" + what + ")", x.count(what), counts[what]);
        }
        refused(x, 0, 0, 0, 0, 0, 0);
        due("place(0)", x.place(0), 0);
        due("place(1)", x.place(1), 0);
        due("place(2)", x.place(2), 6);
        due("drifts(0)", x.drifts(0), 1);
        due("drifts(15)", x.drifts(15), 1);
    }

    private static void letter() {
        AHairToTheLeft x = new AHairToTheLeft();
        due("letter(-1)", x.letter(-1), -4);
        due("letter(low)", x.letter(LOW), -4);
        due("letter(256)", x.letter(256), -6);
        due("letter(high)", x.letter(HIGH), -6);
        due("letter(0)", x.letter(0), 1);
        due("letter(255)", x.letter(255), 2);
        for (int i = 3; i <= 96; i++) {
            due("letter('n')", x.letter('n'), i);
        }
        due("97th letter", x.letter('n'), -6);
        due("97th letter, below", x.letter(-1), -4);
        due("count(9)", x.count(9), 96);
        refused(x, 0, 0, 0, 3, 0, 3);
    }

    private static void fault(String letters, int want) {
        AHairToTheLeft x = new AHairToTheLeft();
        due(letters, tell(x, letters), want);
        due(letters + ", then place(0)", x.place(0), 0);
        due(letters + ", then place(1)", x.place(1), 0);
        for (int what = 0; what < 17; what++) {
            int as = what == 4 ? 3 : what == 5 ? 2 : what == 10 ? -9 : 0;
            due(letters + ", then count(" + what + ")", x.count(what), as);
        }
    }

    private static void parlourFaultsOfForm() {
        fault("", -1000);
        String[] whole = {"pc99159;", "w-99;", "s1-20;", "du-9;", "rl209;", "n60;"};
        for (String s : whole) {
            for (int i = 1; i < s.length(); i++) {
                String part = s.substring(0, i);
                fault(part, -1000 - i);
                fault("w+07;" + part, -1005 - i);
                fault(part + ";;", -1000 - i - (i == s.length() - 1 ? 1 : 0));
                fault(part + (char) 200 + s.substring(i), -1000 - i);
            }
        }
        fault("n01; n01;", -1004);
        fault(";", -1000);
        fault("N01;", -1000);
        fault("n01;" + (char) 0, -1004);
        fault("ps00010;", -1001);
        fault("de+1;", -1001);
        fault("rs031;", -1001);
        fault("n0/;", -1002);
        fault("n0:;", -1002);
        fault("w,00;", -1001);
        fault("n00;x", -1004);
        fault("n60;".repeat(23) + "n60n", -1095);
        fault("n60;".repeat(22) + "w+07;n6", -1095);
        fault("n60;".repeat(22) + "w+07;n60", -1096);
    }

    private static void parlourFaultsOfSense() {
        String[] bad = {"pp00210;", "pp00910;", "pp00000;", "pp00060;", "s2+00;", "s0+21;", "s1-21;", "s1+99;",
            "re000;", "re210;", "rk990;", "n00;", "n61;", "n99;"};
        for (String s : bad) {
            fault(s, -2000);
            fault("w+05;" + s + "n99;", -2005);
        }
        String five = "pp00010;pp00010;pp00010;pp00010;pp00010;";
        fault(five + "pp00010;", -2040);
        AHairToTheLeft x = new AHairToTheLeft();
        due("five people", tell(x, five), 5);
        due("one more", tell(x, "w+07;pp00010;"), -2005);
        due("count(0)", x.count(0), 5);
        goTo(x, 9960);
        due("n40;", tell(x, "n40;"), -2000);
        due("n20;n20;", tell(x, "n20;n20;"), -2004);
        due("count(1)", x.count(1), 9960);
        due("n20;n19;", tell(x, "n20;n19;"), 2);
        due("count(1)", x.count(1), 9999);
        due("n01;", tell(x, "n01;"), -2000);
        refused(x, 0, 0, 0, 0, 0, 0);
    }

    private static void parlour() {
        parlourFaultsOfForm();
        parlourFaultsOfSense();
        AHairToTheLeft x = new AHairToTheLeft();
        due("all kinds of statements", tell(x, "w-99;s0-20;s1+20;dj-9;rl209;pm98157;"), 6);
        due("place(0)", x.place(0), -99);
        due("place(1)", x.place(1), -20);
        due("place(2)", x.place(2), 20);
        due("count(2)", x.count(2), 3);
        due("drifts(0)", x.drifts(0), -27);
        due("count(3)", x.count(3), 4);
        due("count(4)", x.count(4), 20);
        due("count(5)", x.count(5), 9);
        due("count(9)", x.count(9), 0);
        due("w-00;", tell(x, "w-00;"), 1);
        due("place(0)", x.place(0), 0);
        due("people stay", x.count(0), 1);
        x = new AHairToTheLeft();
        due("in order", tell(x, "n05;ds+2;n03;"), 3);
        due("place(0)", x.place(0), 11);
        due("count(1)", x.count(1), 8);
        x = told("pp10019;n04;");
        due("somebody got up", x.place(0), 0);
        x = new AHairToTheLeft();
        due("24 statements", tell(x, "n60;".repeat(24)), 24);
        due("count(1)", x.count(1), 1440);
    }

    private static void person() {
        AHairToTheLeft x = told("pp30025;pd54113;pf20041;pm43015;pc69130;");
        int[][] all = {{0, 3, 0, 0, 2, 5}, {1, 5, 4, 1, 1, 3}, {2, 2, 0, 0, 4, 1}, {3, 4, 3, 0, 1, 5}, {4, 6, 9, 1, 3, 0}};
        for (int i = 0; i < 5; i++) {
            for (int what = 0; what < 6; what++) {
                due("person(" + i + ", " + what + ")", x.person(i, what), all[i][what]);
            }
        }
        due("person(5, 0)", x.person(5, 0), -1);
        due("person(-1, 0)", x.person(-1, 0), -1);
        due("person(high, 9)", x.person(HIGH, 9), -1);
        due("person(low, 9)", x.person(LOW, 9), -1);
        due("person(0, 6)", x.person(0, 6), -2);
        due("person(0, -1)", x.person(0, -1), -2);
        refused(x, 4, 2, 0, 0, 0, 0);
    }

    private static void bothers() {
        AHairToTheLeft x = told("pp30025;pd54113;pf29041;pm43015;pc63130;");
        int[][] rows = {{0, 0, 0}, {0, 1, 3}, {0, 199, 597}, {1, 4, 0}, {1, 3, 0}, {1, 5, 5}, {1, 199, 975},
            {2, 0, 0}, {2, 3, 12}, {2, 199, 796}, {3, 0, 0}, {3, 2, 16}, {3, 3, 27}, {3, 199, 1595},
            {4, 6, 0}, {4, 7, 6}, {4, 19, 78}, {4, 20, 120}, {4, 199, 1194}};
        for (int[] r : rows) {
            due("bothers(" + r[0] + ", " + r[1] + ")", x.bothers(r[0], r[1]), r[2]);
        }
        due("bothers(5, -1)", x.bothers(5, -1), -1);
        due("bothers(-1, 300)", x.bothers(-1, 300), -1);
        due("bothers(0, -1)", x.bothers(0, -1), -4);
        due("bothers(0, low)", x.bothers(0, LOW), -4);
        due("bothers(0, 200)", x.bothers(0, 200), -6);
        due("bothers(0, high)", x.bothers(0, HIGH), -6);
        refused(x, 2, 0, 0, 2, 0, 2);
    }

    private static void place() {
        AHairToTheLeft x = told("w-42;s0+13;s1-07;");
        due("place(0)", x.place(0), -42);
        due("place(1)", x.place(1), 13);
        due("place(2)", x.place(2), -7);
        due("place(3)", x.place(3), TOLD + 2);
        due("place(-1)", x.place(-1), TOLD + 2);
        due("place(low)", x.place(LOW), TOLD + 2);
        refused(x, 0, 3, 0, 0, 0, 0);
    }

    private static void set() {
        AHairToTheLeft x = new AHairToTheLeft();
        int[] first = {0, 0, 6, 1, 3, 2};
        int[] least = {-99, -20, -20, -9, 1, 0};
        int[] greatest = {99, 20, 20, 9, 20, 9};
        for (int what = 0; what < 6; what++) {
            String call = "set(" + what + ", ..)";
            due(call, x.set(what, least[what] - 1), TOLD + 4);
            due(call, x.set(what, LOW), TOLD + 4);
            due(call, x.set(what, greatest[what] + 1), TOLD + 6);
            due(call, x.set(what, HIGH), TOLD + 6);
            due(call, x.set(what, least[what]), first[what]);
            due(call, x.set(what, greatest[what]), least[what]);
            due(call, x.set(what, greatest[what]), greatest[what]);
        }
        due("set(6, -1000)", x.set(6, -1000), TOLD + 2);
        due("set(-1, 1000)", x.set(-1, 1000), TOLD + 2);
        due("place(0)", x.place(0), 99);
        due("place(1)", x.place(1), 20);
        due("place(2)", x.place(2), 20);
        due("drifts(0)", x.drifts(0), 9);
        due("count(4)", x.count(4), 20);
        due("count(5)", x.count(5), 9);
        refused(x, 0, 2, 0, 12, 0, 12);
    }

    private static void kind() {
        AHairToTheLeft x = new AHairToTheLeft();
        for (int k = 1; k < 5; k++) {
            due("kind(0, " + k + ")", x.kind(0, k), k - 1);
            due("kind(1, " + k + ")", x.kind(1, k), k - 1);
            due("count(2)", x.count(2), k);
            due("count(3)", x.count(3), k);
        }
        due("kind(0, 0)", x.kind(0, 0), 4);
        due("count(3)", x.count(3), 4);
        due("kind(0, 0)", x.kind(0, 0), 0);
        int[][] bad = {{2, 0}, {-1, 0}, {0, 5}, {0, -1}, {1, 5}, {1, -1}, {HIGH, HIGH}, {LOW, LOW}};
        for (int[] b : bad) {
            due("kind(" + b[0] + ", " + b[1] + ")", x.kind(b[0], b[1]), -2);
        }
        refused(x, 0, 8, 0, 0, 0, 0);
        for (int k = 0; k < 5; k++) {
            due("told drift", tell(x, "d" + "swcju".charAt(k) + "+1;"), 1);
            due("its kind", x.count(2), k);
            due("told rule", tell(x, "r" + "eokbl".charAt(k) + "032;"), 1);
            due("its kind", x.count(3), k);
        }
    }

    private static void turn() {
        AHairToTheLeft x = new AHairToTheLeft();
        due("turn(0)", x.turn(0), -1);
        tell(x, "pp10019;pp10119;");
        due("turn(1)", x.turn(1), 0);
        due("turn(1)", x.turn(1), 1);
        due("turn(2)", x.turn(2), -1);
        due("turn(-1)", x.turn(-1), -1);
        due("count(6)", x.count(6), 1);
        due("turn(0)", x.turn(0), 1);
        refused(x, 3, 0, 0, 0, 0, 0);
    }

    private static void driftsOf(String told, int... pairs) {
        AHairToTheLeft x = told(told);
        for (int i = 0; i < pairs.length; i += 2) {
            due(told + " drifts(" + pairs[i] + ")", x.drifts(pairs[i]), pairs[i + 1]);
        }
    }

    private static void drifts() {
        driftsOf("ds-3;", 0, -3, 15, -3, 9999, -3);
        driftsOf("dw+3;", 0, 3, 9, 3, 10, -3, 19, -3, 20, 3, 9999, -3);
        driftsOf("dw-3;", 0, -3, 10, 3);
        driftsOf("dc+3;", 0, 3, 19, 3, 20, 2, 39, 2, 59, 1, 60, 0, 80, 0, 9999, 0);
        driftsOf("dc-2;", 0, -2, 20, -1, 39, -1, 40, 0, 60, 0);
        driftsOf("dc+1;", 0, 1, 19, 1, 20, 0, 40, 0);
        driftsOf("dc+0;", 0, 0, 100, 0);
        driftsOf("dj+2;", 0, 6, 1, 0, 2, 0, 3, 6, 9999, 6);
        driftsOf("du+2;", 0, 3, 1, 2, 9, 2, 10, -1, 11, -2, 20, 3);
        driftsOf("du-1;", 0, 0, 1, -1, 10, 2, 11, 1);
        driftsOf("w+99;", 0, 1);
        AHairToTheLeft x = new AHairToTheLeft();
        due("drifts(-1)", x.drifts(-1), TOLD + 4);
        due("drifts(low)", x.drifts(LOW), TOLD + 4);
        due("drifts(10000)", x.drifts(10000), TOLD + 6);
        due("drifts(high)", x.drifts(HIGH), TOLD + 6);
        refused(x, 0, 0, 0, 2, 0, 2);
    }

    private static void goes(String told, int n, int ups, int at) {
        AHairToTheLeft x = told(told);
        due(told + " at(" + n + ")", x.at(n), at);
        due(told + " go(" + n + ")", x.go(n), ups);
        due(told + " place(0)", x.place(0), at);
    }

    private static void goByRules() {
        goes("pp10019;", 3, 0, 3);
        goes("pp10019;", 4, 1, 0);
        goes("w-10;ds+0;pp10019;", 1, 1, 0);
        goes("pp10119;", 1, 1, 6);
        goes("pp10019;ro032;", 3, 0, 3);
        goes("pp10019;ro032;", 4, 1, -2);
        goes("pp10019;ro032;ds-1;", 4, 1, 2);
        goes("pp10019;ro032;ds+0;w+10;", 1, 1, 0);
        goes("n01;pp10019;ro032;dj+1;w+10;", 1, 1, 0);
        goes("pp10019;ro032;dj+1;w+10;", 1, 1, -2);
        goes("pp10019;rk032;", 1, 1, 0);
        goes("pp10019;rk032;", 3, 1, 2);
        goes("pp10019;rk032;", 4, 2, 0);
        goes("pp10019;rk012;w+50;", 3, 3, 0);
        goes("pp10019;rb032;s1+07;", 3, 0, 3);
        goes("pp10019;rb032;s1+07;", 4, 1, 3);
        goes("pp10019;rb032;s1-07;", 4, 1, -3);
        goes("pp10019;rl032;", 6, 0, 6);
        goes("pp10019;rl032;", 7, 1, -2);
        goes("pp10019;rl032;ds+0;w+07;", 1, 1, 0);
        goes("rk012;", 60, 0, 60);
    }

    private static void goByHands() {
        goes("pp10059;ds+0;w+07;", 1, 1, 2);
        goes("pp10059;ds+0;w+08;", 1, 1, -2);
        goes("pp10059;ds+0;w+05;", 1, 1, 0);
        goes("pp10049;ds+0;w+06;", 1, 1, 2);
        goes("pp10049;ds+0;w-06;", 1, 1, -2);
        goes("pp10029;ds+0;w+05;", 1, 1, 1);
        goes("pp10029;ds+0;w-05;", 1, 1, -1);
        goes("pp10039;ds+0;w+04;", 1, 1, 1);
        goes("pp10039;ds+0;w-05;", 1, 1, 1);
        goes("pp10059;ds+0;w+02;rk012;", 3, 3, 2);
    }

    private static void go() {
        goByRules();
        goByHands();
        goes("w+95;ds+9;", 2, 0, 99);
        goes("w-95;ds-9;", 2, 0, -99);
        goes("pp10012;pp30127;", 4, 1, 0);
        goes("pp10012;pp30127;", 5, 2, 5);
        goes("pp10012;pp30127;", 6, 3, 0);
        AHairToTheLeft x = told("pp10012;pp30127;");
        int[] turns = {0, 0, 0, 1, 0, 1, 0};
        for (int i = 0; i < turns.length; i++) {
            x.go(1);
            due("count(6) behind " + (i + 1), x.count(6), turns[i]);
            due("count(1)", x.count(1), i + 1);
        }
        due("go(0)", x.go(0), -4);
        due("go(low)", x.go(LOW), -4);
        due("go(61)", x.go(61), -6);
        due("go(high)", x.go(HIGH), -6);
        goTo(x, 9960);
        due("go(40)", x.go(40), -6);
        due("count(1)", x.count(1), 9960);
        due("go(39)", Math.min(0, x.go(39)), 0);
        due("count(1)", x.count(1), 9999);
        due("go(1)", x.go(1), -6);
        refused(x, 0, 0, 0, 2, 0, 4);
    }

    private static void costs(AHairToTheLeft x, int n, int... wants) {
        for (int what = 0; what < wants.length; what++) {
            due("cost(" + n + ", " + what + ")", x.cost(n, what), wants[what]);
        }
    }

    private static void cost() {
        AHairToTheLeft x = told("pp20013;");
        costs(x, 0, 0, 0, 0, 0, 0);
        costs(x, 3, 12, 0, 0, 3, 5);
        costs(x, 4, 15, 1, 3, 3, 6);
        costs(x, 240, 900, 60, 180, 3, 6);
        costs(x, 1, 2, 0, 0, 1, 5);
        costs(x, 0, 0, 0, 0, 0, 0);
        due("nothing changes: place(0)", x.place(0), 0);
        due("count(1)", x.count(1), 0);
        due("cost(-1, 9)", x.cost(-1, 9), -4);
        due("cost(low, 0)", x.cost(LOW, 0), -4);
        due("cost(241, 9)", x.cost(241, 9), -6);
        due("cost(high, 0)", x.cost(HIGH, 0), -6);
        due("cost(0, 5)", x.cost(0, 5), -2);
        due("cost(0, -1)", x.cost(0, -1), -2);
        refused(x, 0, 2, 0, 2, 0, 2);
        costs(told("pp10012;pp30127;"), 5, 77, 2, 9, 5, 6);
        goTo(x, 9999);
        x.set(0, 0);
        costs(x, 240, 900, 60, 180, 3, 6);
        due("count(1)", x.count(1), 9999);
    }

    private static void at() {
        AHairToTheLeft x = told("pp10012;pp30127;");
        int[] places = {0, 1, 2, 3, 0, 5, 0, 5};
        for (int n = 0; n < places.length; n++) {
            due("at(" + n + ")", x.at(n), places[n]);
        }
        due("at(-1)", x.at(-1), TOLD + 4);
        due("at(low)", x.at(LOW), TOLD + 4);
        due("at(241)", x.at(241), TOLD + 6);
        due("at(high)", x.at(HIGH), TOLD + 6);
        refused(x, 0, 0, 0, 2, 0, 2);
        due("place(0)", x.place(0), 0);
        x = new AHairToTheLeft();
        due("at(240)", x.at(240), 99);
        goTo(x, 9999);
        tell(x, "w+00;dw+1;");
        due("in thought behind 9999: at(1)", x.at(1), -1);
        due("at(11)", x.at(11), 9);
        due("at(21)", x.at(21), -1);
    }

    private static void of() {
        AHairToTheLeft x = told("pp10012;pp30127;");
        int[][] rows = {{0, 5, 11, 1, 13}, {1, 5, 57, 1, 64}, {0, 7, 16, 2, 20}, {1, 7, 78, 2, 92}, {1, 0, 0, 0, 0}};
        for (int[] r : rows) {
            for (int what = 0; what < 3; what++) {
                due("of(" + r[0] + ", " + r[1] + ", " + what + ")", x.of(r[0], r[1], what), r[2 + what]);
            }
        }
        due("of(2, -1, 9)", x.of(2, -1, 9), -1);
        due("of(-1, 241, 9)", x.of(-1, 241, 9), -1);
        due("of(0, -1, 9)", x.of(0, -1, 9), -4);
        due("of(0, 241, 9)", x.of(0, 241, 9), -6);
        due("of(0, 240, 3)", x.of(0, 240, 3), -2);
        due("of(0, 0, -1)", x.of(0, 0, -1), -2);
        refused(x, 2, 2, 0, 1, 0, 1);
    }

    private static void best() {
        AHairToTheLeft x = told("pp10019;");
        due("best(240, 0)", x.best(240, 0), 3);
        due("best(4, 0)", x.best(4, 0), 4);
        due("best(0, 0)", x.best(0, 0), 1);
        due("best(0, 2)", x.best(0, 2), 0);
        due("best(4, 2)", x.best(4, 2), 4);
        due("best(8, 2)", x.best(8, 2), 1);
        x.kind(1, 1);
        due("best(8, 1)", x.best(8, 1), 2);
        due("best(3, 1)", x.best(3, 1), 0);
        due("nothing changes", x.count(4) * 100 + x.count(5) * 10 + x.count(3), 321);
        due("best(4, 3), though to leave it costs less", x.best(4, 3), 0);
        x = told("pp20010;");
        due("best(240, 0), free", x.best(240, 0), 1);
        x = told("pp10019;pp10011;");
        due("best(3, 3)", x.best(3, 3), 0);
        due("best(4, 3)", x.best(4, 3), 1);
        x.turn(1);
        due("best(3, 3)", x.best(3, 3), 0);
        due("count(6)", x.count(6), 1);
        x = new AHairToTheLeft();
        due("best(5, 3), nobody", x.best(5, 3), -9);
        due("best(-1, 9)", x.best(-1, 9), -4);
        due("best(241, 9)", x.best(241, 9), -6);
        due("best(0, 4)", x.best(0, 4), -2);
        due("best(0, -1)", x.best(0, -1), -2);
        refused(x, 0, 2, 0, 1, 0, 1);
    }

    private static void finer() {
        AHairToTheLeft x = told("pp10050;pp00050;");
        due("finer(4, 0)", x.finer(4, 0), 1);
        due("finer(5, 0)", x.finer(5, 0), 0);
        due("finer(6, 0)", x.finer(6, 0), -1);
        due("finer(4, 1)", x.finer(4, 1), 0);
        due("person(0, 4)", x.person(0, 4), 5);
        due("a hand of 1: finer(3, 0)", told("pp10050;re020;").finer(3, 0), 2);
        due("finer(240, 0), fine already", told("pp10019;").finer(240, 0), 0);
        due("finer(-1, 9)", x.finer(-1, 9), TOLD + 4);
        due("finer(241, 9)", x.finer(241, 9), TOLD + 6);
        due("finer(0, 2)", x.finer(0, 2), TOLD + 1);
        due("finer(0, -1)", x.finer(0, -1), TOLD + 1);
        refused(x, 2, 0, 0, 1, 0, 1);
    }

    private static void mark() {
        AHairToTheLeft x = told("pp10050;pp10050;");
        due("mark(0)", x.mark(0), 0);
        due("mark(4)", x.mark(4), 2);
        due("mark(6)", x.mark(6), -2);
        due("mark(8)", x.mark(8), 2);
        due("mark(9)", x.mark(9), 2);
        due("finer(8, 0)", x.finer(8, 0), 0);
        due("finer(8, 1)", x.finer(8, 1), 0);
        due("person(1, 4)", x.person(1, 4), 5);
        due("mark(-1)", x.mark(-1), TOLD + 4);
        due("mark(241)", x.mark(241), TOLD + 6);
        refused(x, 0, 0, 0, 1, 0, 1);
    }

    private static void most() {
        AHairToTheLeft x = told("pp10012;pp30127;");
        due("most(0)", x.most(0), 0);
        due("most(1)", x.most(1), 1);
        due("most(5)", x.most(5), 1);
        x = told("pp10011;pp10011;");
        due("alike, most(3)", x.most(3), 0);
        due("alike, most(8)", x.most(8), 0);
        x.turn(1);
        due("prices too, most(4)", x.most(4), 1);
        x = new AHairToTheLeft();
        due("most(5), nobody", x.most(5), -9);
        due("most(-1)", x.most(-1), -4);
        due("most(241)", x.most(241), -6);
        refused(x, 0, 0, 0, 1, 0, 1);
    }

    private static void between() {
        AHairToTheLeft x = told("pp10019;");
        due("between(0)", x.between(0), 0);
        due("between(1)", x.between(1), 21);
        due("between(2)", x.between(2), 21);
        due("between(3)", x.between(3), 22);
        due("place(1)", x.place(1), 0);
        x.set(0, 50);
        due("set where he likes it, between(1)", x.between(1), 0);
        x.set(4, 20);
        x.set(0, 30);
        due("within his limit, between(1)", x.between(1), 0);
        x = told("pp10019;w+29;re200;");
        due("far, between(1)", x.between(1), 0);
        x = told("pp90019;w+19;re200;");
        due("at the end, between(1)", x.between(1), 40);
        due("between(-1)", x.between(-1), -4);
        due("between(241)", x.between(241), -6);
        refused(x, 0, 0, 0, 1, 0, 1);
    }

    private static void leave() {
        AHairToTheLeft x = told("pp20013;");
        due("leave(0)", x.leave(0), 0);
        due("leave(3)", x.leave(3), 0);
        due("leave(240)", x.leave(240), 2 * (99 * 100 / 2 + 141 * 99) - 900);
        due("leave(4)", x.leave(4), 5);
        due("leave(8)", x.leave(8), 42);
        x = told("pp10019;");
        due("leave(4)", x.leave(4), -5);
        due("leave(-1)", x.leave(-1), TOLD + 4);
        due("leave(241)", x.leave(241), TOLD + 6);
        refused(x, 0, 0, 0, 1, 0, 1);
    }

    private static void holds() {
        AHairToTheLeft x = told("s1+00;pp10019;");
        int[] pairs = {0, 3, -99, 0, 99, 0, 3, 0, 2, 1, -4, 7, -5, 0};
        for (int i = 0; i < pairs.length; i += 2) {
            due("holds(" + pairs[i] + ")", x.holds(pairs[i]), pairs[i + 1]);
        }
        due("place(0)", x.place(0), 0);
        x.set(3, 0);
        due("holds(3), still", x.holds(3), -9);
        due("holds(4), still", x.holds(4), 0);
        x = told("s1+00;dw+1;re100;");
        due("holds(0), swinging", x.holds(0), -9);
        x.set(4, 9);
        due("holds(0), swinging", x.holds(0), 9);
        x = told("n08;w+50;s1+00;dw+1;");
        due("from now: holds(0)", x.holds(0), 7);
        x = told("s0+06;s1+00;");
        due("either station: holds(3)", x.holds(3), 0);
        due("either station: holds(2)", x.holds(2), 1);
        due("holds(-100)", x.holds(-100), -4);
        due("holds(100)", x.holds(100), -6);
        refused(x, 0, 0, 0, 1, 0, 1);
    }

    private static void setAt() {
        due("setAt()", told("s1+00;pp10019;").setAt(), 16);
        due("setAt(), both", new AHairToTheLeft().setAt(), 22);
        due("setAt(), still", told("s1+00;ds+0;").setAt(), 17);
        due("setAt(), never", told("s0-20;s1+20;").setAt(), 0);
        due("setAt(), at the end", told("s0+20;s1+20;ds-1;re010;").setAt(), 40);
        AHairToTheLeft x = told("s1+00;w+33;");
        x.setAt();
        due("place(0)", x.place(0), 33);
    }

    private static void steadyFrom() {
        due("steadyFrom(), 0", told("ds+0;").steadyFrom(), 0);
        due("steadyFrom(), 1", new AHairToTheLeft().steadyFrom(), -9);
        due("steadyFrom(), held", told("w+99;").steadyFrom(), -9);
        due("steadyFrom(), cooling", told("dc+3;").steadyFrom(), 60);
        due("steadyFrom(), cooling", told("dc-9;").steadyFrom(), 180);
        due("steadyFrom(), later", told("dc+3;n50;").steadyFrom(), 10);
        due("steadyFrom(), last", told("dc+3;n59;").steadyFrom(), 1);
        due("steadyFrom(), behind", told("dc+3;n60;n05;").steadyFrom(), 0);
        due("steadyFrom(), jumping", told("dj+1;").steadyFrom(), -9);
        due("steadyFrom(), unsure", told("du+0;").steadyFrom(), -9);
        due("steadyFrom(), unsure", told("du-1;").steadyFrom(), -9);
    }

    private static void whoLast() {
        AHairToTheLeft x = told("pp10012;pp30127;");
        int[] last = {-9, -9, -9, -9, 0, 1, 0, 1};
        for (int n = 0; n < last.length; n++) {
            due("whoLast(" + n + ")", x.whoLast(n), last[n]);
        }
        due("whoLast(-1)", x.whoLast(-1), -4);
        due("whoLast(241)", x.whoLast(241), -6);
        refused(x, 0, 0, 0, 1, 0, 1);
        x.set(3, 0);
        due("whoLast(240), still", x.whoLast(240), -9);
    }

    private static void when() {
        AHairToTheLeft x = told("n10;w+00;pp10012;pp30127;");
        due("when(0)", x.when(0), 3);
        due("when(1)", x.when(1), 4);
        due("when(2)", x.when(2), 5);
        due("when(high)", x.when(HIGH), -9);
        due("when(-1)", x.when(-1), -4);
        due("when(low)", x.when(LOW), -4);
        refused(x, 0, 0, 0, 2, 0, 0);
        x = told("pp10019;rk012;");
        due("when(239)", x.when(239), 239);
        due("when(240)", x.when(240), -9);
        due("when(0), nobody", new AHairToTheLeft().when(0), -9);
    }

    private static void rows(AHairToTheLeft x, int... numbers) {
        for (int v : numbers) {
            x.row(v);
        }
    }

    private static void row() {
        AHairToTheLeft x = new AHairToTheLeft();
        due("row(-1)", x.row(-1), -4);
        due("row(100)", x.row(100), -6);
        due("row(0)", x.row(0), 1);
        due("row(99)", x.row(99), 2);
        for (int i = 3; i <= 12; i++) {
            due("row(5)", x.row(5), i);
        }
        due("13th", x.row(5), -6);
        due("13th, below", x.row(-1), -4);
        due("13th, above", x.row(HIGH), -6);
        due("count(8)", x.count(8), 12);
        refused(x, 0, 0, 0, 2, 0, 3);
    }

    private static void kept() {
        AHairToTheLeft x = told("pp10019;");
        due("kept(0), no row", x.kept(0), 31);
        due("kept(1), no row", x.kept(1), 20);
        rows(x, 51);
        due("kept(0), 51", x.kept(0), 27);
        due("kept(1), 51", x.kept(1), 20);
        rows(x, 52, 53);
        due("kept(1), 51 52 53", x.kept(1), 18);
        rows(x, 50);
        due("kept(0), 51 52 53 50", x.kept(0), 1);
        due("kept(1), 51 52 53 50", x.kept(1), 1);
        due("count(8)", x.count(8), 4);
        due("judge()", x.judge(), -9);
        rows(x, 51, 52, 53, 48);
        due("kept(0), over", x.kept(0), 2);
        due("kept(1), by an edge", x.kept(1), 0);
        x.judge();
        rows(x, 51, 52, 53, 54, 55, 56, 48);
        due("kept(0), lazy", x.kept(0), 16);
        due("count(3)", x.count(3), 0);
        due("count(4)", x.count(4), 3);
        x.judge();
        rows(x, 50, 51, 52, 50);
        due("kept(0), clock", x.kept(0), 4);
        x.judge();
        rows(x, 51, 52, 53, 53);
        due("kept(0), between", x.kept(0), 8);
        due("kept(2)", x.kept(2), -2);
        due("kept(-1)", x.kept(-1), -2);
        refused(x, 0, 2, 0, 0, 0, 0);
    }

    private static void judge() {
        AHairToTheLeft x = told("pp10019;");
        due("judge(), no row", x.judge(), -9);
        rows(x, 51, 52, 53, 50, 51);
        due("judge(), so", x.judge(), -9);
        due("count(8)", x.count(8), 0);
        rows(x, 50);
        due("judge(), the first", x.judge(), 0);
        due("count(8)", x.count(8), 0);
        rows(x, 51, 52, 53, 54, 55);
        due("judge(), the fourth", x.judge(), 3);
        due("place(0)", x.place(0), 0);
        x = told("w+47;");
        rows(x, 98, 99, 99, 99, 98);
        due("judge(), held above", x.judge(), 4);
        x = told("w-48;ds-1;");
        rows(x, 1, 0, 0, 0, 1);
        due("judge(), held below", x.judge(), 4);
    }

    private static void lots() {
        AHairToTheLeft x = told("pp10010;re200;ds+0;");
        due("lots(1, 0)", x.lots(1, 0), 960);
        due("lots(2, 0)", x.lots(2, 0), 1440);
        due("lots(1, -1)", x.lots(1, -1), 60);
        due("lots(20, -1)", x.lots(20, -1), 9840);
        due("lots(20, low)", x.lots(20, LOW), 11040);
        due("place(0)", x.place(0), 0);
        due("count(1)", x.count(1), 0);
        due("lots(0, 0)", x.lots(0, 0), -4);
        due("lots(low, 0)", x.lots(LOW, 0), -4);
        due("lots(21, 0)", x.lots(21, 0), -6);
        due("lots(high, 0)", x.lots(HIGH, 0), -6);
        refused(x, 0, 0, 0, 2, 0, 2);
        x = told("pp10010;pp00019;rk200;ds+0;");
        due("each evening from now: lots(2, 0)", x.lots(2, 0), 2 * (9 * 1));
        goTo(x, 9999);
        due("in thought behind 9999", Math.min(0, x.lots(1, 0)), 0);
        due("count(1)", x.count(1), 9999);
    }

    private static void image() {
        AHairToTheLeft x = told("pp10012;pp30127;n07;");
        due("image()", x.image(), 7);
        due("image() again", x.image(), 7);
        due("place(0)", x.place(0), 5);
        due("go(3)", x.go(3), 3);
        due("image() later", x.image(), 10);
        x.go(1);
        due("on()", x.on(), 10);
        refused(x, 0, 0, 0, 0, 0, 0);
    }

    private static void on() {
        AHairToTheLeft x = new AHairToTheLeft();
        due("on(), none", x.on(), -3);
        tell(x, "pp10012;pd95127;w-07;s0-03;s1+04;dj+2;rk052;n02;w-07;");
        x.turn(1);
        x.letter('p');
        x.row(7);
        due("image()", x.image(), 2);
        x.parlour();
        tell(x, "pc77133;w+17;s0+13;s1-14;dw-3;rl207;n09;");
        x.row(8);
        x.letter('n');
        x.letter(-1);
        for (int again = 0; again < 2; again++) {
            due("on()", x.on(), 2);
            int[] counts = {2, 2, 3, 2, 5, 2, 1, 10, 2, 1};
            for (int what = 0; what < counts.length; what++) {
                due("count(" + what + ")", x.count(what), counts[what]);
            }
            due("place(0)", x.place(0), -7);
            due("place(1)", x.place(1), -3);
            due("place(2)", x.place(2), 4);
            due("drifts(3)", x.drifts(3), 6);
            due("person(1, 2)", x.person(1, 2), 5);
            refused(x, 0, 0, 1, 1, 0, 0);
            x.go(60);
            x.set(0, 55);
        }
        x.on();
        x.parlour();
        tell(x, "pf44044;");
        due("one comes in place of the other: person(2, 0)", x.person(2, 0), 2);
        x.on();
        due("person(2, 0)", x.person(2, 0), -1);
    }

    private static void count() {
        AHairToTheLeft x = told("pp30025;pd54113;pc69130;dw+1;rb054;n17;");
        int[] counts = {3, 17, 1, 3, 5, 4, 1, 14, 0, 0};
        for (int what = 0; what < counts.length; what++) {
            due("count(" + what + ")", x.count(what), counts[what]);
        }
        int[] others = {-1, 10, 17, 100, LOW, HIGH};
        for (int what : others) {
            due("count(" + what + ")", x.count(what), -9);
        }
        x.row(1);
        x.letter('p');
        x.letter('w');
        due("count(8)", x.count(8), 1);
        due("count(9)", x.count(9), 2);
        refused(x, 0, 0, 0, 0, 0, 0);
        x.turn(9);
        x.kept(9);
        x.place(9);
        x.on();
        x.go(0);
        x.at(-1);
        x.lots(0, 0);
        x.row(100);
        x.finer(0, 7);
        refused(x, 2, 2, 1, 3, 0, 1);
    }

    public static void main(String[] args) {
        Runnable[] promises = {PromiseTests::newObject, PromiseTests::letter, PromiseTests::parlour, PromiseTests::person,
            PromiseTests::bothers, PromiseTests::place, PromiseTests::set, PromiseTests::kind, PromiseTests::turn,
            PromiseTests::drifts, PromiseTests::go, PromiseTests::cost, PromiseTests::at, PromiseTests::of,
            PromiseTests::best, PromiseTests::finer, PromiseTests::mark, PromiseTests::most, PromiseTests::between,
            PromiseTests::leave, PromiseTests::holds, PromiseTests::setAt, PromiseTests::steadyFrom,
            PromiseTests::whoLast, PromiseTests::when, PromiseTests::row, PromiseTests::kept, PromiseTests::judge,
            PromiseTests::lots, PromiseTests::image, PromiseTests::on, PromiseTests::count};
        for (promise = 1; promise <= promises.length; promise++) {
            promises[promise - 1].run();
        }
        System.out.println(wrong == 0 ? promises.length + " promises are as due" : wrong + " answers are not as due");
        if (wrong != 0) {
            System.exit(1);
        }
    }
}
