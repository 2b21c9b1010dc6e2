import java.util.List;
import java.util.function.ToIntFunction;

/** Each sentence of the section "Terms" that names a boundary, by examples worked out by hand. */
public final class TermsTests extends Sheet {
    private static final String FIVE = "pp10010;pd20010;pf30010;pm40010;pc50010;";

    // ---- what there is ----

    private static void atAPlace() {
        taken("", "place(0)", x -> x.place(0), 0);
        taken("w-99;", "place(0)", x -> x.place(0), -99);
        taken("w+99;", "place(0)", x -> x.place(0), 99);
        taken("w+00;", "set(0, -99)", x -> then(x.set(0, -99), x.place(0)), -99);
        taken("w+00;", "set(0, 99)", x -> then(x.set(0, 99), x.place(0)), 99);
    }

    private static void stations() {
        taken("", "place(1)", x -> x.place(1), 0);
        taken("", "place(2)", x -> x.place(2), 6);
        for (int s = 0; s < 2; s++) {
            int what = s + 1;
            taken("s" + s + "-20;", "place", x -> x.place(what), -20);
            taken("s" + s + "+20;", "place", x -> x.place(what), 20);
            taken("s" + s + "-20;", "the other place", x -> x.place(3 - what), what == 1 ? 6 : 0);
            taken("s" + s + "+00;", "set, place", x -> then(x.set(what, -20), x.place(what)), -20);
            taken("s" + s + "+00;", "set, place", x -> then(x.set(what, 20), x.place(what)), 20);
        }
    }

    private static void rate() {
        taken("", "drifts(0)", x -> x.drifts(0), 1);
        taken("", "set(3, -9)", x -> x.set(3, -9), 1);
        taken("ds-9;", "drifts(0)", x -> x.drifts(0), -9);
        taken("ds+9;", "drifts(0)", x -> x.drifts(0), 9);
        taken("ds-0;", "drifts(0)", x -> x.drifts(0), 0);
        taken("ds+0;", "set(3, -9)", x -> then(x.set(3, -9), x.drifts(0)), -9);
        taken("ds+0;", "set(3, 9)", x -> then(x.set(3, 9), x.drifts(0)), 9);
    }

    private static void people() {
        AHairToTheLeft x = new AHairToTheLeft();
        due("count(0)", x.count(0), 0);
        due("five come", tell(x, FIVE), 5);
        for (int i = 0; i < 5; i++) {
            due("KIND of " + i, x.person(i, 0), i);
            due("MINDS of " + i, x.person(i, 1), i + 1);
        }
        due("a sixth", tell(x, "pp60010;"), -2000);
        due("count(0)", x.count(0), 5);
        due("the last is as he came", x.person(4, 1), 5);
    }

    private static void numbersOfOne() {
        int[] least = {0, 0, 0, 0, 1, 0};
        int[] greatest = {4, 9, 9, 1, 5, 9};
        for (int what = 0; what < 6; what++) {
            int of = what;
            taken("pp00010;", "person(0, " + what + ")", x -> x.person(0, of), least[what]);
            taken("pc99159;", "person(0, " + what + ")", x -> x.person(0, of), greatest[what]);
        }
        int[] each = {3, 4, 7, 1, 2, 5};
        for (int what = 0; what < 6; what++) {
            due("person(0, " + what + ")", told("pm47125;").person(0, what), each[what]);
        }
        for (String s : new String[] {"pp00210;", "pp00910;", "pp00000;", "pp00060;", "pp00090;"}) {
            fault(s, -2000);
        }
    }

    private static void limitAndPast() {
        taken("", "count(4)", x -> x.count(4), 3);
        taken("", "count(5)", x -> x.count(5), 2);
        taken("re010;", "count(4)", x -> x.count(4), 1);
        taken("re010;", "count(5)", x -> x.count(5), 0);
        taken("re209;", "count(4)", x -> x.count(4), 20);
        taken("re209;", "count(5)", x -> x.count(5), 9);
        taken("", "set(4, 1)", x -> then(x.set(4, 1), x.count(4)), 1);
        taken("", "set(4, 20)", x -> then(x.set(4, 20), x.count(4)), 20);
        taken("", "set(5, 0)", x -> then(x.set(5, 0), x.count(5)), 0);
        taken("", "set(5, 9)", x -> then(x.set(5, 9), x.count(5)), 9);
    }

    private static void turnAtFirst() {
        taken("", "count(6)", x -> x.count(6), 0);
        taken(FIVE, "count(6)", x -> x.count(6), 0);
        taken("rk010;" + FIVE, "whoLast(1)", x -> x.whoLast(1), 0);
    }

    private static void minute() {
        taken("", "count(1)", x -> x.count(1), 0);
        AHairToTheLeft x = toldAt(9998, "w+00;");
        due("go(2) at 9998", x.go(2), -6);
        due("go(1) at 9998", x.go(1), 0);
        due("count(1)", x.count(1), 9999);
        due("go(1) at 9999", x.go(1), -6);
        due("count(1)", x.count(1), 9999);
    }

    private static void used512Times() {
        AHairToTheLeft x = new AHairToTheLeft();
        for (int i = 1; i < 512; i++) {
            x.letter(-1);
        }
        due("the 512th call", x.count(14), 511);
        AHairToTheLeft y = told("pm99159;pc99059;pf99119;pd99019;pp99139;rl209;du+9;s0-20;");
        int first = y.between(240);
        for (int i = 59; i < 512; i++) {
            due("between(240) again", y.between(240), first);
        }
    }

    // ---- a parlour in letters ----

    private static void lettersAtMost() {
        AHairToTheLeft x = new AHairToTheLeft();
        for (int i = 0; i < 96; i++) {
            due("letter " + i, x.letter("n01;".charAt(i % 4)), i + 1);
        }
        due("the 97th", x.letter('x'), -6);
        due("count(9)", x.count(9), 96);
        due("all 96 are told", x.parlour(), 24);
        due("count(1)", x.count(1), 24);
        due("the first of the next", x.letter('n'), 1);
    }

    private static void behindEach() {
        fault("n01", -1003);
        fault("n01n01;", -1003);
        fault("n01:n01;", -1003);
        fault("n01;n01", -1007);
        fault("n01;;", -1004);
        fault(";n01;", -1000);
        taken("", "n01;", x -> tell(x, "n01;"), 1);
        taken("", "n01;n01;", x -> tell(x, "n01;n01;"), 2);
    }

    /** A statement that breaks off, goes wrong, or goes on too long at each of its letters. */
    private static void form(String statement) {
        taken("", statement, x -> tell(x, statement), 1);
        for (int i = 1; i < statement.length(); i++) {
            String head = statement.substring(0, i);
            String tail = statement.substring(i + 1);
            fault(head, -1000 - i);
            for (char c : new char[] {'x', ' ', 0, 255, '/', ':', '*', ','}) {
                fault(head + c + tail, -1000 - i);
            }
            fault("n01;" + head, -1004 - i);
        }
        fault(statement.substring(0, statement.length() - 1) + "0;", -1000 - statement.length() + 1);
    }

    private static void statementOfOne() {
        form("pp00010;");
        form("pc99159;");
        fault("pP00010;", -1001);
        fault("ps00010;", -1001);
        fault("p000010;", -1001);
        fault("pp0001;", -1006);
        String kinds = "pdfmc";
        for (int k = 0; k < 5; k++) {
            int kind = k;
            taken("p" + kinds.charAt(k) + "00010;", "person(0, 0)", x -> x.person(0, 0), kind);
        }
    }

    private static void statementOfAt() {
        form("w+07;");
        form("w-99;");
        fault("w07;", -1001);
        fault("w+7;", -1003);
        fault("w+-7;", -1002);
        taken("w-07;", "place(0)", x -> x.place(0), -7);
        taken("w+10;", "place(0)", x -> x.place(0), 10);
        taken("w-00;", "place(0)", x -> x.place(0), 0);
    }

    private static void statementOfStation() {
        form("s0+20;");
        form("s1-20;");
        fault("s+07;", -1001);
        fault("s0+7;", -1004);
        for (String s : new String[] {"s2+00;", "s9-00;", "s0+21;", "s0-21;", "s1+21;", "s1-21;", "s1+99;", "s0-99;"}) {
            fault(s, -2000);
        }
    }

    private static void statementOfDrift() {
        form("ds+1;");
        form("du-9;");
        fault("d+1;", -1001);
        fault("de+1;", -1001);
        fault("ds1;", -1002);
        fault("ds+;", -1003);
        String kinds = "swcju";
        for (int k = 0; k < 5; k++) {
            int kind = k;
            taken("d" + kinds.charAt(k) + "+1;", "count(2)", x -> x.count(2), kind);
        }
    }

    private static void statementOfRule() {
        form("re010;");
        form("rl209;");
        fault("r032;", -1001);
        fault("rs032;", -1001);
        fault("re32;", -1004);
        for (String s : new String[] {"re000;", "rl009;", "re210;", "rk990;"}) {
            fault(s, -2000);
        }
        String kinds = "eokbl";
        for (int k = 0; k < 5; k++) {
            int kind = k;
            taken("r" + kinds.charAt(k) + "032;", "count(3)", x -> x.count(3), kind);
        }
    }

    private static void statementOfMinutes() {
        form("n01;");
        form("n60;");
        fault("n1;", -1002);
        fault("n00;", -2000);
        fault("n61;", -2000);
        fault("n99;", -2000);
        taken("n01;", "count(1)", x -> x.count(1), 1);
        taken("n60;", "count(1)", x -> x.count(1), 60);
        taken("n60;", "they go by: place(0)", x -> x.place(0), 60);
        taken("pp10010;n04;", "one gets up: place(0)", x -> x.place(0), 0);
    }

    private static void atLeastOne() {
        fault("", -1000);
        AHairToTheLeft x = told("n01;");
        due("parlour() again", x.parlour(), -1000);
        due("count(1)", x.count(1), 1);
    }

    private static void faultOfForm() {
        fault("x", -1000);
        fault("N01;", -1000);
        fault("n01;x", -1004);
        fault("n01; n01;", -1004);
        fault("n01;" + (char) 0, -1004);
        fault("n01;" + (char) 255, -1004);
        fault("the first of two: ", -1000);
        fault("n0x;w+x", -1002);
        fault("n60;".repeat(23) + "n60x", -1095);
    }

    /** Letters of 128 and more are no others in disguise. */
    private static void faultOfHighLetters() {
        for (String s : new String[] {"n01;", "pp00010;", "w+07;", "s1-20;", "du-9;", "rl209;"}) {
            for (int i = 0; i < s.length(); i++) {
                fault(s.substring(0, i) + (char) (s.charAt(i) + 128) + s.substring(i + 1), -1000 - i);
            }
        }
    }

    private static int[] numbers(AHairToTheLeft x) {
        return new int[] {x.count(0), x.count(1), x.count(2), x.count(3), x.count(4), x.count(5), x.count(6), x.count(7),
            x.place(0), x.place(1), x.place(2), x.drifts(0)};
    }

    /** Of the numbers only those change that stand here by pairs: which, and what it is then. */
    private static void changesOnly(String statement, int... pairs) {
        AHairToTheLeft x = told("pp10010;pd24123;ds+2;re032;w+01;");
        x.turn(1);
        int[] want = numbers(x);
        for (int i = 0; i < pairs.length; i += 2) {
            want[pairs[i]] = pairs[i + 1];
        }
        due(statement, tell(x, statement), 1);
        int[] got = numbers(x);
        for (int i = 0; i < want.length; i++) {
            due("number " + i + " behind " + statement, got[i], want[i]);
        }
        due("the first one's MINDS behind " + statement, x.person(0, 1), 1);
        due("the second one's HAND behind " + statement, x.person(1, 4), 2);
    }

    private static void eachStatementAlone() {
        changesOnly("pm07155;", 0, 3);
        changesOnly("pp90010;", 0, 3, 7, 12);
        changesOnly("w-50;", 8, -50);
        changesOnly("s0+11;", 9, 11);
        changesOnly("s1-11;", 10, -11);
        changesOnly("dj+0;", 2, 3, 11, 0);
        changesOnly("ds-5;", 11, -5);
        changesOnly("rk032;", 3, 2);
        changesOnly("re172;", 4, 17);
        changesOnly("re038;", 5, 8);
        changesOnly("n01;", 1, 1, 8, 3);
    }

    private static void faultAtTheEnd() {
        fault("n", -1001);
        fault("pp0001", -1006);
        fault("n01;p", -1005);
        fault("n60;".repeat(23) + "n60", -1095);
        fault("n60;".repeat(22) + "w+07;n60", -1096);
    }

    private static void faultOfSense() {
        fault("n01;n00;n61;", -2004);
        fault("w+07;s0+05;ds+4;re000;", -2016);
        fault(FIVE + "n01;pp60010;", -2044);
        taken(FIVE, "a sixth and a fault behind it", x -> tell(x, "w+01;pp60010;n00;"), -2005);
        AHairToTheLeft x = toldAt(9997, "w+00;");
        due("n03;", tell(x, "n03;"), -2000);
        due("n02;n01;", tell(x, "n02;n01;"), -2004);
        due("n01;n02;", tell(x, "n01;n02;"), -2004);
        due("count(1)", x.count(1), 9997);
        due("n01;n01;", tell(x, "n01;n01;"), 2);
        due("count(1)", x.count(1), 9999);
        due("n01;", tell(x, "n01;"), -2000);
    }

    private static void formBeforeSense() {
        fault("n00;x", -1004);
        fault("re210;n0", -1008);
        fault("s2+00;pp00060;n61", -1017);
    }

    private static void allOrNothing() {
        String good = "w+07;s0+05;s1-05;ds+4;rl104;pp10010;n05;";
        fault(good + "n00;", -2040);
        fault(good + "n", -1041);
        AHairToTheLeft x = new AHairToTheLeft();
        due("without a fault", tell(x, good), 7);
        due("count(0)", x.count(0), 1);
        due("count(1)", x.count(1), 5);
        due("drifts(0)", x.drifts(0), 4);
        due("count(4)", x.count(4), 10);
        due("place(1)", x.place(1), 5);
        due("place(2)", x.place(2), -5);
        due("7 and 5 times 4, but set at 27: place(0)", x.place(0), 1);
    }

    // ---- kinds of drift ----

    private static void drifts(String letters, int... pairs) {
        AHairToTheLeft x = told(letters);
        for (int i = 0; i < pairs.length; i += 2) {
            due(letters + " drifts(" + pairs[i] + ")", x.drifts(pairs[i]), pairs[i + 1]);
        }
    }

    private static void steady() {
        drifts("ds-9;", 0, -9, 10, -9, 20, -9, 9999, -9);
        drifts("ds+9;", 0, 9, 19, 9, 9999, 9);
    }

    private static void swinging() {
        drifts("dw+9;", 0, 9, 9, 9, 10, -9, 19, -9, 20, 9, 29, 9, 9989, 9, 9990, -9, 9999, -9);
        drifts("dw-9;", 0, -9, 9, -9, 10, 9, 20, -9);
        drifts("dw+0;", 0, 0, 10, 0);
    }

    private static void cooling() {
        drifts("dc+9;", 0, 9, 19, 9, 20, 8, 39, 8, 40, 7, 159, 2, 160, 1, 179, 1, 180, 0, 199, 0, 200, 0, 9999, 0);
        drifts("dc-9;", 0, -9, 19, -9, 20, -8, 160, -1, 179, -1, 180, 0, 200, 0, 9999, 0);
        drifts("dc+1;", 0, 1, 19, 1, 20, 0, 39, 0, 40, 0);
        drifts("dc+0;", 0, 0, 20, 0, 9999, 0);
    }

    private static void jumping() {
        drifts("dj+9;", 0, 27, 1, 0, 2, 0, 3, 27, 9997, 0, 9998, 0, 9999, 27);
        drifts("dj-9;", 0, -27, 1, 0, 3, -27);
        drifts("dj+0;", 0, 0, 3, 0);
    }

    private static void unsure() {
        drifts("du+9;", 0, 10, 1, 9, 8, 10, 9, 9, 10, -8, 11, -9, 18, -8, 19, -9, 20, 10, 9998, -8, 9999, -9);
        drifts("du-1;", 0, 0, 1, -1, 10, 2, 11, 1);
        drifts("du+0;", 0, 1, 1, 0, 10, 1, 11, 0);
    }

    private static void heldAt99() {
        taken("w+89;ds+9;", "at(1)", x -> x.at(1), 98);
        taken("w+90;ds+9;", "at(1)", x -> x.at(1), 99);
        taken("w+91;ds+9;", "at(1)", x -> x.at(1), 99);
        taken("w+99;ds+1;", "at(240)", x -> x.at(240), 99);
        taken("w-89;ds-9;", "at(1)", x -> x.at(1), -98);
        taken("w-90;ds-9;", "at(1)", x -> x.at(1), -99);
        taken("w-91;ds-9;", "at(1)", x -> x.at(1), -99);
        taken("w+80;dj+9;", "go, place(0)", x -> then(x.go(1), x.place(0)), 99);
        taken("w-80;dj-9;", "go, place(0)", x -> then(x.go(1), x.place(0)), -99);
        taken("dw+9;n09;w+95;", "back from the end: at(2)", x -> x.at(2), 90);
        taken("dw-9;n09;w-95;", "back from the end: at(2)", x -> x.at(2), -90);
    }

    // ---- kinds of people ----

    private static void bothers(String letters, int... pairs) {
        AHairToTheLeft x = told(letters);
        for (int i = 0; i < pairs.length; i += 2) {
            due(letters + " bothers(0, " + pairs[i] + ")", x.bothers(0, pairs[i]), pairs[i + 1]);
        }
    }

    private static void farWithoutSign() {
        taken("ds+0;re200;pp10010;w-05;", "cost(1, 0)", x -> x.cost(1, 0), 5);
        taken("ds+0;re200;pp10010;w+05;", "cost(1, 0)", x -> x.cost(1, 0), 5);
        taken("ds+0;re200;pp10010;", "cost(1, 0)", x -> x.cost(1, 0), 0);
        taken("ds+0;re200;pp10110;w-05;", "for STATION 1: cost(1, 0)", x -> x.cost(1, 0), 11);
        taken("ds+0;re200;pp10110;w+06;", "for STATION 1: cost(1, 0)", x -> x.cost(1, 0), 0);
        taken("n01;ds+0;rk200;pp90010;w-99;s0+20;", "cost(1, 0)", x -> x.cost(1, 0), 9 * 119);
    }

    private static void personBothered() {
        bothers("pp99010;", 0, 0, 1, 9, 20, 180, 199, 1791);
        bothers("pp09010;", 0, 0, 199, 0);
    }

    private static void deaf() {
        bothers("pd94010;", 0, 0, 3, 0, 4, 0, 5, 9, 20, 144, 199, 1755);
        bothers("pd99010;", 8, 0, 9, 0, 10, 9);
        bothers("pd90010;", 0, 0, 1, 9);
    }

    private static void fussy() {
        bothers("pf99010;", 0, 0, 1, 18, 3, 54, 199, 3582);
    }

    private static void musical() {
        bothers("pm29010;", 0, 0, 1, 4, 2, 8, 3, 21, 199, 805);
        bothers("pm09010;", 2, 0, 3, 9);
        bothers("pm20010;", 2, 8, 3, 12);
    }

    private static void child() {
        bothers("pc13010;", 0, 0, 5, 0, 6, 0, 7, 1, 19, 13, 20, 20, 199, 199);
        bothers("pc19010;", 18, 0, 19, 1, 20, 20, 21, 21);
        bothers("pc20010;", 0, 0, 5, 10, 20, 40);
    }

    // ---- kinds of rules; the drift is told, the wireless stands where it will be looked at ----

    private static void ups(String letters, int want) {
        taken(letters, "cost(1, 1)", x -> x.cost(1, 1), want);
    }

    private static void lands(String letters, int want) {
        taken(letters, "at(1)", x -> x.at(1), want);
    }

    private static void edge() {
        String still = "ds+0;pp10010;";
        ups(still + "w+03;", 0);
        ups(still + "w+04;", 1);
        ups(still + "w-03;", 0);
        ups(still + "w-04;", 1);
        ups(still + "re010;w+01;", 0);
        ups(still + "re010;w+02;", 1);
        ups(still + "re200;w-20;", 0);
        ups(still + "re200;w-21;", 1);
        lands(still + "w+03;", 3);
        lands(still + "w+04;", 0);
        lands(still + "s0-20;w+99;", -20);
    }

    private static void stationOfTheTurn() {
        String both = "ds+0;re020;pp10010;pp10110;";
        ups(both + "w+02;", 0);
        lands(both + "w+03;", 0);
        taken(both + "w+03;", "at(2)", x -> x.at(2), 6);
        taken(both + "w+03;", "at(3)", x -> x.at(3), 0);
        taken(both + "w+03;", "turn(1), at(1)", x -> then(x.turn(1), x.at(1)), 6);
        taken(both + "w+04;", "turn(1), at(1)", x -> then(x.turn(1), x.at(1)), 4);
    }

    private static void over() {
        String over = "ro032;pp10010;";
        lands(over + "ds+1;w+02;", 3);
        lands(over + "ds+1;w+03;", -2);
        lands(over + "ds+1;w-05;", -2);
        lands(over + "ds-1;w-02;", -3);
        lands(over + "ds-1;w-03;", 2);
        lands(over + "ds+0;w+04;", 0);
        lands(over + "ds-0;w-04;", 0);
        lands("ro030;pp10010;ds+1;w+03;", 0);
        lands("ro039;pp10010;ds+9;w+03;", -9);
        lands("ro039;pp10010;ds+9;s0-20;", -29);
        lands("ro039;pp10010;ds-9;s0+20;", 29);
        lands("ro039;pp10110;ds+1;w+99;", -3);
    }

    private static void overOfThisMinute() {
        String over = "ro032;pp10010;";
        lands("dw+1;n09;w+10;" + over, -2);
        lands("dw+1;n10;w+10;" + over, 2);
        lands("dj+1;n03;w+10;" + over, -2);
        lands("dj+1;n04;w+10;" + over, 0);
        lands("du-1;w+10;" + over, 0);
        lands("du-1;n01;w+10;" + over, 2);
        lands("dc+1;n19;w+10;" + over, -2);
        lands("dc+1;n20;w+10;" + over, 0);
    }

    private static void clock() {
        String still = "ds+0;pp10010;";
        int[][] fives = {{1, 1}, {5, 1}, {6, 2}, {10, 2}, {11, 3}, {240, 48}};
        for (int[] f : fives) {
            taken(still + "rk050;", "cost(" + f[0] + ", 1)", x -> x.cost(f[0], 1), f[1]);
        }
        taken(still + "rk010;", "cost(240, 1)", x -> x.cost(240, 1), 240);
        taken(still + "rk200;", "cost(20, 1)", x -> x.cost(20, 1), 1);
        taken(still + "rk200;", "cost(21, 1)", x -> x.cost(21, 1), 2);
        taken(still + "rk200;n01;w+99;", "far, but not yet: cost(19, 1)", x -> x.cost(19, 1), 0);
        taken(still + "rk200;n01;w+99;", "cost(20, 1)", x -> x.cost(20, 1), 1);
        lands(still + "rk200;w+99;", 0);
        lands(still + "rk200;w+01;", 0);
    }

    private static void between() {
        String still = "ds+0;rb032;pp10010;w+50;";
        lands(still + "s1+07;", 3);
        lands(still + "s1-07;", -3);
        lands(still + "s1+01;", 0);
        lands(still + "s1-01;", 0);
        lands(still + "s0-20;s1+19;", 0);
        lands(still + "s0+20;s1-19;", 0);
        lands(still + "s0+20;s1+20;", 20);
        lands(still + "s0-20;s1-19;", -19);
        ups("ds+0;rb032;pp10010;s1+20;w+03;", 0);
        ups("ds+0;rb032;pp10010;s1+20;w+10;", 1);
    }

    private static void lazy() {
        String still = "ds+0;rl032;pp10010;";
        ups(still + "w+06;", 0);
        ups(still + "w+07;", 1);
        ups(still + "w-06;", 0);
        ups(still + "w-07;", 1);
        ups("ds+0;rl010;pp10010;w+02;", 0);
        ups("ds+0;rl010;pp10010;w+03;", 1);
        ups("ds+0;rl200;pp10010;w+40;", 0);
        ups("ds+0;rl200;pp10010;w+41;", 1);
        lands(still + "w+07;", 0);
        lands("ds+1;rl032;pp10010;w+05;", 6);
        lands("ds+1;rl032;pp10010;w+06;", -2);
        lands("ds-1;rl032;pp10010;w-06;", 2);
    }

    private static void byHand() {
        int[][] rows = {{7, 0, 1, 1, -1, 2}, {-7, 0, -1, -1, 1, -2}, {5, 0, 1, -1, 1, 0}, {-5, 0, -1, 1, -1, 0},
            {99, 0, 1, 0, -1, -1}, {-99, 0, -1, 0, 1, 1}, {6, 0, 0, 0, 2, 1}, {-6, 0, 0, 0, -2, -1}, {3, 0, 1, 0, -1, -2}};
        for (int[] r : rows) {
            for (int hand = 1; hand <= 5; hand++) {
                String w = "w" + (r[0] < 0 ? "-" : "+") + Math.abs(r[0]) / 10 + Math.abs(r[0]) % 10 + ";";
                lands("ds+0;re010;" + w + "pp000" + hand + "0;", r[hand]);
            }
        }
        lands("ds+1;ro039;w+03;pp00050;", -11);
    }

    private static void ofTwoTheNearer() {
        lands("ds+0;re010;w+03;pp00020;", 1);
        lands("ds+0;re010;w-03;pp00020;", -1);
        lands("ds+0;re010;w+02;pp00040;", 2);
        lands("ds+0;re010;w-02;pp00040;", -2);
        lands("ds+0;re010;w+06;pp00040;", 2);
    }

    private static void pricePaid() {
        taken("ds+0;re010;w+09;pp00019;", "cost(1, 2)", x -> x.cost(1, 2), 9);
        taken("ds+0;re010;w+09;pp00010;", "cost(1, 2)", x -> x.cost(1, 2), 0);
        taken("ds+0;re010;w+02;pp00059;", "too near for the hand: cost(2, 2)", x -> x.cost(2, 2), 18);
        taken("ds+0;rk010;pp00019;", "where it should be: cost(240, 2)", x -> x.cost(240, 2), 2160);
    }

    private static void nextOnesTurn() {
        AHairToTheLeft five = told("ds+0;rk010;" + FIVE);
        for (int i = 0; i < 12; i++) {
            due("count(6) behind " + i, five.count(6), i % 5);
            five.go(1);
        }
        taken("ds+0;rk010;pp00010;", "alone: count(6)", x -> then(x.go(1), x.count(6)), 0);
        taken("ds+0;rk010;" + FIVE, "turn(4), go(1), count(6)", x -> then(x.turn(4), then(x.go(1), x.count(6))), 0);
        taken("ds+0;" + FIVE, "nobody gets up: count(6)", x -> then(x.turn(3), then(x.go(7), x.count(6))), 3);
    }

    private static void aMinute() {
        ups("pp10012;w+02;", 0);
        ups("pp10012;w+03;", 1);
        taken("pp10012;w+03;", "set before it bothers: cost(1, 0)", x -> x.cost(1, 0), 2);
        taken("pp10012;w+02;", "drifted before it bothers: cost(1, 0)", x -> x.cost(1, 0), 3);
        taken("", "go(1), count(1)", x -> then(x.go(1), x.count(1)), 1);
    }

    private static void ifPeopleAreThere() {
        taken("rk010;", "at(5)", x -> x.at(5), 5);
        taken("rk010;", "cost(5, 1)", x -> x.cost(5, 1), 0);
        taken("rk010;", "go(5)", x -> x.go(5), 0);
        taken("rk010;", "whoLast(5)", x -> x.whoLast(5), -9);
    }

    private static void minuteAhead() {
        taken("dw+1;n09;", "at(1)", x -> x.at(1), 10);
        taken("dw+1;n10;", "at(1)", x -> x.at(1), 9);
        ups("ds+0;pp10010;rk100;n09;", 0);
        ups("ds+0;pp10010;rk100;n10;", 1);
        ups("ds+0;pp10010;rk100;", 1);
    }

    // ---- in mind ----

    private static void behind9999() {
        AHairToTheLeft x = toldAt(9999, "w+00;dw+1;rk200;pp10019;");
        due("at(1)", x.at(1), -1);
        due("at(2), somebody up in 10000", x.at(2), 0);
        due("at(11)", x.at(11), 9);
        due("cost(1, 1)", x.cost(1, 1), 0);
        due("cost(2, 1)", x.cost(2, 1), 1);
        due("cost(240, 1)", x.cost(240, 1), 12);
        due("of(0, 240, 1)", x.of(0, 240, 1), 12);
        due("when(0)", x.when(0), 1);
        due("when(1)", x.when(1), 21);
        due("whoLast(2)", x.whoLast(2), 0);
        due("steadyFrom()", x.steadyFrom(), -9);
        due("lots(1, 0), three up", x.lots(1, 0) >= 27 ? 1 : 0, 1);
        x.row(49);
        x.row(50);
        x.row(51);
        due("all but 1, 3, 9, 11 of the CLOCK: kept(1)", x.kept(1), 16);
        due("judge()", x.judge(), -9);
        due("holds(0)", toldAt(9999, "s1+00;dw+1;re010;").holds(0), 3);
        due("count(1)", x.count(1), 9999);
    }

    /** What swings, jumps and gets up by the clock does so alike every 60 minutes, and 9999 is 39 then. */
    private static void allBehind9999() {
        String folk = "w-07;s0-03;s1+04;pp30022;pd92127;pm41131;";
        for (String kinds : new String[] {"dw+2;ro062;", "du+0;re030;", "du-1;rb052;", "dj-1;rl022;", "dj+1;re010;"}) {
            for (int i = 0; i < ASKED.size(); i++) {
                ToIntFunction<AHairToTheLeft> asked = ASKED.get(i);
                due(kinds + " asked at 9999, number " + i, asked.applyAsInt(toldAt(9999, folk + kinds)), asked.applyAsInt(toldAt(39, folk + kinds)));
            }
        }
        due("UNSURE by 0: steadyFrom()", toldAt(9999, "du+0;").steadyFrom(), -9);
    }

    private static void inMind() {
        String letters = "pp13012;pd92127;dj+2;rk052;n02;w-07;";
        AHairToTheLeft x = told(letters);
        String before = all(x);
        for (int n = 0; n <= 240; n += 240) {
            for (int what = 0; what < 4; what++) {
                x.cost(n, what);
                x.best(n, what);
                x.of(1, n, Math.min(2, what));
            }
            due("no refusal: at(" + n + ")", x.at(n) > 99 ? 1 : 0, 0);
            x.finer(n, 1);
            x.mark(n);
            x.most(n);
            x.between(n);
            x.leave(n);
            x.whoLast(n);
        }
        x.holds(-99);
        x.setAt();
        x.steadyFrom();
        x.when(239);
        x.kept(0);
        x.kept(1);
        x.lots(20, LOW);
        same("all behind them", all(x), before);
        due("refusals -4", x.count(14), 0);
        due("refusals -6", x.count(16), 0);
    }

    /** All that is asked in mind, each by an answer. */
    private static final List<ToIntFunction<AHairToTheLeft>> ASKED = List.of(
        x -> x.cost(60, 0), x -> x.cost(60, 1), x -> x.cost(60, 2), x -> x.cost(60, 3), x -> x.cost(60, 4), x -> x.at(60),
        x -> x.of(1, 60, 0), x -> x.of(0, 60, 1), x -> x.of(1, 60, 2), x -> x.best(60, 0), x -> x.best(60, 1), x -> x.best(60, 2),
        x -> x.best(60, 3), x -> x.finer(60, 0), x -> x.finer(60, 1), x -> x.mark(60), x -> x.most(60), x -> x.between(60),
        x -> x.leave(60), x -> x.holds(0), x -> x.holds(-3), x -> x.setAt(), x -> x.steadyFrom(), x -> x.whoLast(60), x -> x.when(0),
        x -> x.when(3), x -> then(x.row(52), x.kept(0)), x -> then(x.row(52), x.kept(1)), x -> then(x.row(52), x.judge()),
        x -> x.lots(3, 7), x -> x.drifts(11), x -> x.bothers(1, 21), x -> x.person(1, 2), x -> x.count(7),
        x -> x.whoLast(0), x -> x.cost(0, 3), x -> x.cost(0, 4), x -> x.of(1, 0, 2), x -> x.most(0));

    /** Somebody has been asked much in mind, then it goes on by calls. */
    private static AHairToTheLeft byCalls() {
        AHairToTheLeft x = told("pp10012;pf34127;dw+3;");
        x.cost(240, 0);
        x.set(3, 1);
        x.kind(0, 0);
        due("two get up", x.go(5), 2);
        return x;
    }

    private static AHairToTheLeft farther(AHairToTheLeft x) {
        int[] numbers = {-11, -4, 3, 1, 2, 5};
        for (int what = 0; what < 6; what++) {
            x.set(what, numbers[what]);
        }
        x.kind(0, 4);
        x.kind(1, 1);
        x.turn(1);
        return x;
    }

    /** What stands so by calls answers as what has been told so. */
    private static void fromNow() {
        for (int i = 0; i < ASKED.size(); i++) {
            ToIntFunction<AHairToTheLeft> asked = ASKED.get(i);
            AHairToTheLeft y = told("n05;w+05;pp10012;pf34127;");
            due("asked behind minutes, number " + i, asked.applyAsInt(byCalls()), asked.applyAsInt(y));
            AHairToTheLeft z = told("n05;w-11;s0-04;s1+03;ro025;du+1;pp10012;pf34127;");
            z.turn(1);
            z.cost(9, 0);
            due("asked behind calls, number " + i, asked.applyAsInt(farther(byCalls())), asked.applyAsInt(z));
        }
    }

    private static void nothingLingers() {
        AHairToTheLeft x = told("w+50;pp30034;pp20023;");
        due("cost(240, 1)", x.cost(240, 1) > 0 ? 1 : 0, 1);
        due("whoLast(0)", x.whoLast(0), -9);
        for (int what = 0; what < 5; what++) {
            due("cost(0, " + what + ")", then(x.cost(240, 0), x.cost(0, what)), 0);
            due("of(1, 0, ..)", then(x.cost(240, 0), x.of(1, 0, Math.min(2, what))), 0);
        }
        due("at(0)", then(x.at(240), x.at(0)), 50);
        due("HAND behind finer()", then(x.finer(5, 0), x.person(0, 4)), 3);
        due("HAND behind mark()", then(x.mark(5), x.person(1, 4)), 2);
    }

    private static void costOfAll() {
        String three = "ds+0;re200;w+02;pp30019;pd51019;pf20119;";
        taken(three, "cost(0, 0)", x -> x.cost(0, 0), 0);
        taken(three, "cost(1, 0)", x -> x.cost(1, 0), 6 + 5 + 16);
        taken(three, "cost(240, 0)", x -> x.cost(240, 0), 6480);
        taken("ds+0;rk010;w+02;pp30019;pp00018;", "PRICES too: cost(3, 0)", x -> x.cost(3, 0), 26);
        taken("ds+0;rk010;w+02;pp30019;pp00018;", "cost(3, 2)", x -> x.cost(3, 2), 26);
        taken("ds+0;rk010;w+02;pp30019;pp00018;", "cost(3, 1)", x -> x.cost(3, 1), 3);
    }

    private static void farthest() {
        taken("w+50;ds-9;", "cost(0, 3)", x -> x.cost(0, 3), 0);
        taken("w+50;ds-9;", "cost(0, 4)", x -> x.cost(0, 4), 0);
        taken("w+50;ds-9;", "cost(1, 3)", x -> x.cost(1, 3), 41);
        taken("w+50;ds-9;", "cost(1, 4)", x -> x.cost(1, 4), 35);
        taken("w+50;ds-9;", "without sign: cost(240, 3)", x -> x.cost(240, 3), 99);
        taken("w+50;ds-9;", "without sign: cost(240, 4)", x -> x.cost(240, 4), 105);
        taken("w+50;ds+0;pp10010;", "behind the minute: cost(1, 3)", x -> x.cost(1, 3), 0);
        taken("w+50;ds+0;pp10010;", "behind the minute: cost(1, 4)", x -> x.cost(1, 4), 6);
        taken("s0+20;s1-20;w-99;ds-1;", "cost(240, 3)", x -> x.cost(240, 3), 119);
        taken("s0+20;s1-20;w-99;ds-1;", "cost(240, 4)", x -> x.cost(240, 4), 79);
    }

    private static void atThen() {
        String one = "w-02;pp10010;";
        int[] places = {-2, -1, 0, 1, 2, 3, 0, 1};
        for (int i = 0; i < places.length; i++) {
            int n = i;
            taken(one, "at(" + n + ")", x -> x.at(n), places[n]);
        }
        taken("w-99;ds-9;", "at(0)", x -> x.at(0), -99);
        taken("", "at(240)", x -> x.at(240), 99);
    }

    private static void ofOne() {
        String two = "w+03;pp10019;pp20018;";
        int[][] rows = {{0, 0, 0, 0, 0, 0}, {1, 0, 1, 9, 0, 0}, {4, 6, 1, 15, 12, 0}, {5, 6, 1, 15, 12, 1}};
        for (int[] r : rows) {
            for (int w = 0; w < 2; w++) {
                int what = w;
                taken(two, "of(0, " + r[0] + ", " + what + ")", x -> x.of(0, r[0], what), r[1 + what]);
                taken(two, "of(1, " + r[0] + ", " + what + ")", x -> x.of(1, r[0], what), r[4 + what]);
            }
            taken(two, "of(0, " + r[0] + ", 2)", x -> x.of(0, r[0], 2), r[3]);
            taken(two, "of(1, " + r[0] + ", 2)", x -> x.of(1, r[0], 2), r[4] + 8 * r[5]);
        }
    }

    private static void bestLimit() {
        taken("pp20010;", "best(240, 0)", x -> x.best(240, 0), 1);
        taken("ds+0;w+20;pp00019;", "best(1, 0)", x -> x.best(1, 0), 20);
        taken("ds+0;w+20;pp00019;", "best(240, 0)", x -> x.best(240, 0), 20);
        taken("ds+0;w+05;pp00019;", "of several: best(1, 0)", x -> x.best(1, 0), 5);
        taken("ds+0;w+21;pp00019;", "all alike: best(9, 0)", x -> x.best(9, 0), 1);
        taken("re200;pp10010;", "best(0, 0)", x -> x.best(0, 0), 1);
        taken("re200;", "nobody: best(240, 0)", x -> x.best(240, 0), 1);
    }

    private static void bestPast() {
        taken("ro200;w+20;pp00019;", "best(30, 1)", x -> x.best(30, 1), 9);
        taken("ro200;w+20;pp00019;", "of several: best(29, 1)", x -> x.best(29, 1), 8);
        taken("ro032;w+03;pp00019;", "no farther than he sits still with: best(13, 1)", x -> x.best(13, 1), 3);
        taken("ro209;w+20;pp00019;", "all alike: best(21, 1)", x -> x.best(21, 1), 0);
        taken("ro039;w+03;pp10010;", "best(1, 1)", x -> x.best(1, 1), 0);
        taken("ro200;w+20;pp00019;", "10 were better, but there is none: best(31, 1)", x -> x.best(31, 1), 0);
        taken("re039;w+03;pp10019;", "an EDGE: best(240, 1)", x -> x.best(240, 1), 0);
        taken("ro039;w+03;pp10010;", "best(0, 1)", x -> x.best(0, 1), 0);
    }

    private static void bestRule() {
        taken("w+03;pp00019;", "best(1, 2)", x -> x.best(1, 2), 4);
        taken("n01;ds+0;w+20;pp00019;", "best(2, 2)", x -> x.best(2, 2), 2);
        taken("rl032;w+50;ds+0;pp00019;", "all alike: best(1, 2)", x -> x.best(1, 2), 0);
        taken("rl032;w+50;pp10010;", "best(0, 2)", x -> x.best(0, 2), 0);
    }

    private static void first() {
        String three = "ds+0;w+20;pp00019;pp00012;pp00011;";
        taken(three, "best(1, 3)", x -> x.best(1, 3), 2);
        taken(three, "turn(2), best(0, 3)", x -> then(x.turn(2), x.best(0, 3)), 0);
        taken("ds+0;w+20;pp00019;pp00012;pp00012;", "of several: best(1, 3)", x -> x.best(1, 3), 1);
        taken("ds+0;w+20;pp00011;pp00012;pp00013;", "turn(1), best(1, 3)", x -> then(x.turn(1), x.best(1, 3)), 0);
        taken("ds+0;w+20;pp00019;pp00019;pp00019;pp00019;pp00018;", "best(1, 3)", x -> x.best(1, 3), 4);
        taken("", "nobody: best(240, 3)", x -> x.best(240, 3), -9);
        taken("", "nobody: best(0, 3)", x -> x.best(0, 3), -9);
    }

    private static void finer() {
        String two = "pp10050;pp00050;";
        taken(two, "finer(0, 0)", x -> x.finer(0, 0), 0);
        taken(two, "finer(4, 0)", x -> x.finer(4, 0), 1);
        taken(two, "finer(5, 0)", x -> x.finer(5, 0), 0);
        taken(two, "below 0: finer(6, 0)", x -> x.finer(6, 0), -1);
        taken(two, "another's: finer(4, 1)", x -> x.finer(4, 1), 0);
        taken("ds+0;re010;w+03;pp10050;", "1, not 2: finer(1, 0)", x -> x.finer(1, 0), 2);
        taken("pp10019;", "fine already: finer(240, 0)", x -> x.finer(240, 0), 0);
    }

    private static void mark() {
        String two = "pp10050;pp10050;";
        taken(two, "mark(0)", x -> x.mark(0), 0);
        taken(two, "mark(4)", x -> x.mark(4), 2);
        taken(two, "below 0: mark(6)", x -> x.mark(6), -2);
        taken("ds+0;re010;w+02;pp00010;pp10050;", "the last one's too: turn(1), mark(1)", x -> then(x.turn(1), x.mark(1)), 2);
        taken("ds+0;re010;w+03;pp10050;", "1, not 2: mark(1)", x -> x.mark(1), 2);
        taken("pp10010;pp10010;", "fine already: mark(240)", x -> x.mark(240), 0);
        taken("", "nobody: mark(240)", x -> x.mark(240), 0);
        String five = "ds+0;re010;w+02;pp00010;pp00010;pp00010;pp00010;pp10050;";
        taken(five, "the fifth one's: turn(4), mark(1)", x -> then(x.turn(4), x.mark(1)), 2);
    }

    private static void most() {
        taken("pp10010;pp20010;pp30010;", "most(1)", x -> x.most(1), 2);
        taken("pp20010;pp20010;pp10010;", "of several: most(1)", x -> x.most(1), 0);
        taken("pp10010;pp20010;pp20010;", "of several: most(1)", x -> x.most(1), 1);
        taken("ds+0;rk010;pp00011;pp00012;pp00010;", "PRICES: most(2)", x -> x.most(2), 1);
        taken(FIVE, "most(0)", x -> x.most(0), 0);
        taken("", "nobody: most(240)", x -> x.most(240), -9);
    }

    private static void placeBetween() {
        taken("re200;ds-1;w-19;pp90019;", "between(1)", x -> x.between(1), 0);
        taken("re200;ds+1;w+19;pp90019;", "between(1)", x -> x.between(1), 40);
        taken("re200;ds+0;pp10010;", "between(1)", x -> x.between(1), 20);
        taken("re200;ds+0;pd13010;", "of several: between(1)", x -> x.between(1), 17);
        taken("pp10010;s0+20;", "between(0)", x -> x.between(0), 0);
        taken("s0+20;", "nobody: between(240)", x -> x.between(240), 0);
    }

    private static void leave() {
        taken("pp20013;", "leave(0)", x -> x.leave(0), 0);
        taken("pp20013;", "leave(3)", x -> x.leave(3), 0);
        taken("pp20013;", "leave(4)", x -> x.leave(4), 5);
        taken("pp10019;", "below 0: leave(4)", x -> x.leave(4), -5);
        taken("", "nobody: leave(240)", x -> x.leave(240), 0);
    }

    private static void holds(String letters, int... pairs) {
        AHairToTheLeft x = told(letters);
        for (int i = 0; i < pairs.length; i += 2) {
            due(letters + " holds(" + pairs[i] + ")", x.holds(pairs[i]), pairs[i + 1]);
        }
        for (int k = 11; k <= 16; k++) {
            due("refusals", x.count(k), 0);
        }
    }

    private static void holdsFromAPlace() {
        holds("s1+00;", 3, 0, 2, 1, -4, 7, -5, 0, -99, 0, 99, 0);
        holds("s1+00;ds-1;", -3, 0, -2, 1, 4, 7, 5, 0);
        holds("", 3, 0, 2, 1, 1, 0);
        holds("ds-1;", 4, 1, 3, 0, 5, 0);
        holds("s1+00;pp10019;w+50;", 3, 0, -4, 7);
        holds("s1+00;ds+0;", 3, -9, -3, -9, 4, 0, -4, 0);
        holds("s1+00;dw+1;re100;", 0, -9, 1, 9, -10, -9);
        holds("s1+00;dw+1;re010;n09;", 0, 3);
        holds("s0+20;s1+20;re200;du+0;", -1, 82, 0, 80, -2, 0);
        for (char rule : "eokbl".toCharArray()) {
            String whichever = "s1+00;pp10019;pp10119;r" + rule + "032;";
            holds(whichever, 3, 0, 2, 1, -3, 6, -4, 7, -5, 0);
            taken(whichever, "by LIMIT: setAt()", AHairToTheLeft::setAt, 16);
        }
    }

    private static void setAt() {
        taken("s1+00;", "setAt()", AHairToTheLeft::setAt, 16);
        taken("s1+00;ds+0;", "never, of several: setAt()", AHairToTheLeft::setAt, 17);
        taken("s1+00;dc+1;re100;n10;", "never: setAt()", AHairToTheLeft::setAt, 9);
        taken("s0-20;s1+20;", "of several: setAt()", AHairToTheLeft::setAt, 0);
        taken("s0+20;s1+20;ds-1;re010;", "setAt()", AHairToTheLeft::setAt, 40);
        taken("s0-20;s1-20;ds+1;re010;", "setAt()", AHairToTheLeft::setAt, 0);
        taken("s1+00;w+77;pp10010;", "from now it counts not: setAt()", AHairToTheLeft::setAt, 16);
    }

    private static void steadyFrom() {
        taken("ds+0;", "steadyFrom()", AHairToTheLeft::steadyFrom, 0);
        taken("dc+9;", "steadyFrom()", AHairToTheLeft::steadyFrom, 180);
        taken("dc-9;", "steadyFrom()", AHairToTheLeft::steadyFrom, 180);
        taken("dc+9;n60;n60;n59;", "steadyFrom()", AHairToTheLeft::steadyFrom, 1);
        taken("dc+9;n60;n60;n60;", "steadyFrom()", AHairToTheLeft::steadyFrom, 0);
        taken("dc+9;", "behind minutes in mind", x -> then(x.cost(60, 0), x.steadyFrom()), 180);
        taken("dc+9;", "behind another RATE", x -> then(x.cost(0, 0), then(x.set(3, 2), x.steadyFrom())), 40);
        taken("dj+1;", "two still minutes: steadyFrom()", AHairToTheLeft::steadyFrom, -9);
        taken("du-1;", "one still minute: steadyFrom()", AHairToTheLeft::steadyFrom, -9);
        taken("dw+1;", "steadyFrom()", AHairToTheLeft::steadyFrom, -9);
        due("steadyFrom() at 9999", toldAt(9999, "dc+9;").steadyFrom(), 0);
    }

    private static void whoLast() {
        taken("rk010;pp10010;pp10010;", "whoLast(0)", x -> x.whoLast(0), -9);
        taken("rk010;pp10010;pp10010;", "whoLast(1)", x -> x.whoLast(1), 0);
        taken("rk010;pp10010;pp10010;", "whoLast(2)", x -> x.whoLast(2), 1);
        taken("rk200;pp10010;pp10010;", "whoLast(20)", x -> x.whoLast(20), 0);
        taken("rk200;pp10010;pp10010;", "whoLast(21)", x -> x.whoLast(21), 1);
        taken("ds+0;pp10010;", "never: whoLast(240)", x -> x.whoLast(240), -9);
        taken("", "nobody: whoLast(240)", x -> x.whoLast(240), -9);
    }

    private static void when() {
        taken("rk010;pp10010;", "when(0)", x -> x.when(0), 0);
        taken("rk010;pp10010;", "when(239)", x -> x.when(239), 239);
        taken("rk010;pp10010;", "when(240)", x -> x.when(240), -9);
        taken("rk010;pp10010;", "when(high)", x -> x.when(HIGH), -9);
        taken("n01;rk200;pp10010;", "from now: when(0)", x -> x.when(0), 19);
        taken("n01;rk200;pp10010;", "when(11)", x -> x.when(11), 239);
        taken("rk200;pp10010;", "when(11)", x -> x.when(11), 220);
        taken("rk200;pp10010;", "when(12)", x -> x.when(12), -9);
        taken("", "nobody: when(0)", x -> x.when(0), -9);
    }

    private static int judged(AHairToTheLeft x, int... row) {
        for (int v : row) {
            x.row(v);
        }
        return x.judge();
    }

    private static void rowOfNumbers() {
        taken("", "row(0)", x -> x.row(0), 1);
        taken("", "row(99)", x -> x.row(99), 1);
        refused("", "row(-1)", x -> x.row(-1), -4);
        refused("", "row(100)", x -> x.row(100), -6);
        AHairToTheLeft x = new AHairToTheLeft();
        for (int i = 1; i <= 12; i++) {
            due("row " + i, x.row(50 + i), i);
        }
        due("row 13", x.row(63), -6);
        due("count(8)", x.count(8), 12);
        due("judge()", x.judge(), -9);
    }

    private static void judged() {
        taken("", "the first", x -> judged(x, 50, 52), 0);
        taken("", "behind 1 minute", x -> judged(x, 51, 52, 53), -9);
        taken("", "the last of 12", x -> judged(x, 51, 52, 53, 54, 55, 56, 57, 58, 59, 60, 61, 63), 11);
        taken("", "the first of two", x -> judged(x, 51, 53, 54), 1);
        taken("", "none", x -> judged(x), -9);
        taken("pp10010;", "one gets up", x -> judged(x, 51, 52, 53, 50, 51), -9);
    }

    private static void judgedHeld() {
        taken("ds+0;w+48;", "below the end", x -> judged(x, 98), -9);
        taken("ds+0;w+49;", "at the end", x -> judged(x, 99), -9);
        taken("ds+0;w+50;", "held", x -> judged(x, 99, 0), 1);
        taken("ds+0;w+99;", "held", x -> judged(x, 99, 98), 1);
        taken("ds+0;w-49;", "above the end", x -> judged(x, 1), -9);
        taken("ds+0;w-50;", "at the end", x -> judged(x, 0), -9);
        taken("ds+0;w-51;", "held", x -> judged(x, 0, 99), 1);
        taken("ds+0;w-99;", "held", x -> judged(x, 0, 1), 1);
    }

    private static int kept(AHairToTheLeft x, int what, int... row) {
        for (int v : row) {
            x.row(v);
        }
        return x.kept(what);
    }

    private static void keptRules() {
        String one = "pp10010;";
        taken(one, "no row", x -> kept(x, 0), 31);
        taken(one, "none", x -> kept(x, 0, 0), 0);
        taken(one, "e", x -> kept(x, 0, 51, 52, 53, 50), 1);
        taken(one, "o", x -> kept(x, 0, 51, 52, 53, 48), 2);
        taken(one, "k", x -> kept(x, 0, 50, 51, 52, 50), 4);
        taken(one, "b", x -> kept(x, 0, 51, 52, 53, 53), 8);
        taken(one, "l", x -> kept(x, 0, 51, 52, 53, 54, 55, 56, 48), 16);
        taken(one + "rk032;", "whichever it is", x -> kept(x, 0, 51, 52, 53, 50), 1);
        taken(one + "re042;", "LIMIT as it is", x -> kept(x, 0, 51, 52, 53, 50), 0);
        taken(one + "re042;", "LIMIT as it is", x -> kept(x, 0, 51, 52, 53, 54, 50), 1);
    }

    private static void keptLimits() {
        taken("pp10010;", "no row", x -> kept(x, 1), 20);
        taken("pp10010;", "none", x -> kept(x, 1, 0), 0);
        taken("ds+0;w+20;pp10010;", "20 alone", x -> kept(x, 1, 70), 1);
        taken("ds+0;w+20;pp10010;", "all but 20", x -> kept(x, 1, 50), 19);
        taken("ds+0;w+02;pp10010;", "1 alone", x -> kept(x, 1, 50), 1);
        taken("ds+0;w+02;pp10010;", "all but 1", x -> kept(x, 1, 52), 19);
        taken("ds+0;w+02;rl030;pp10010;", "RULE as it is", x -> kept(x, 1, 52), 20);
        taken("ds+0;w+03;rl030;pp10010;", "RULE as it is", x -> kept(x, 1, 50), 1);
    }

    /** The place that an evening begins at, in numbers that have room for all of it. */
    private static int drawn(long[] seed) {
        seed[0] = (seed[0] * 1664525L + 1013904223L) % (1L << 32);
        return (int) (seed[0] % (1L << 31) / 256 % 41) - 20;
    }

    private static void lots() {
        int least = 0;
        int greatest = 0;
        for (int z : new int[] {0, 1, -1, 2, -2, 7, 255, 256, -256, 12345, -98765, LOW, LOW + 1, HIGH, HIGH - 1}) {
            AHairToTheLeft x = told("rl200;ds+0;s0+20;pp10010;");
            long[] seed = {z & 0xffffffffL};
            int all = 0;
            for (int n = 1; n <= 20; n++) {
                int at = drawn(seed);
                least = Math.min(least, at);
                greatest = Math.max(greatest, at);
                all += 60 * (20 - at);
                due("lots(" + n + ", " + z + ")", x.lots(n, z), all);
            }
        }
        due("the least that was drawn", least, -20);
        due("the greatest that was drawn", greatest, 20);
    }

    private static void eveningsFromNow() {
        taken("ds+0;rk200;pp00019;pp00010;", "lots(1, 5)", x -> x.lots(1, 5), 18);
        taken("ds+0;rk200;pp00019;pp00010;", "lots(2, 5)", x -> x.lots(2, 5), 36);
        taken("ds+0;rk200;pp00019;pp00010;", "turn(1), lots(2, 5)", x -> then(x.turn(1), x.lots(2, 5)), 18);
        taken("n01;ds+0;rk200;pp00019;", "lots(20, 5)", x -> x.lots(20, 5), 20 * 27);
    }

    // ---- the image, refusals ----

    private static final String FULL = "pp13012;pd92127;w-07;s0-03;s1+04;dj+2;rk052;n02;w-07;";

    private static void asAtTheImage() {
        AHairToTheLeft x = told(FULL);
        x.turn(1);
        String then = all(x);
        int cost = x.cost(240, 0);
        due("image()", x.image(), 2);
        tell(x, "pc77133;w+17;s0+13;s1-14;dw-3;rl207;n09;");
        x.turn(2);
        for (int again = 0; again < 2; again++) {
            due("on()", x.on(), 2);
            same("all", all(x), then);
            due("cost(240, 0)", x.cost(240, 0), cost);
            x.go(60);
        }
    }

    /** Others have come since, and go with what they brought. */
    private static void asNothingHadBeen() {
        String then = "n03;pp10012;pf34127;pd21013;w-05;";
        for (int i = 0; i < ASKED.size(); i++) {
            AHairToTheLeft x = told(then);
            x.turn(1);
            x.image();
            tell(x, "pc99159;pm71130;w+60;s0+11;s1-09;ds-2;rl077;n09;");
            x.mark(60);
            x.on();
            AHairToTheLeft y = told(then);
            y.turn(1);
            due("asked behind on(), number " + i, ASKED.get(i).applyAsInt(x), ASKED.get(i).applyAsInt(y));
        }
    }

    private static AHairToTheLeft gone() {
        AHairToTheLeft x = new AHairToTheLeft();
        x.image();
        tell(x, "pc99159;pm71130;");
        x.on();
        return x;
    }

    private static void nobodyThen() {
        refused(TermsTests::gone, "person(0, 0)", x -> x.person(0, 0), -1);
        refused(TermsTests::gone, "bothers(0, 0)", x -> x.bothers(0, 0), -1);
        refused(TermsTests::gone, "of(0, 0, 0)", x -> x.of(0, 0, 0), -1);
        refused(TermsTests::gone, "finer(0, 0)", x -> x.finer(0, 0), TOLD + 1);
        refused(TermsTests::gone, "turn(0)", x -> x.turn(0), -1);
        due("best(5, 3)", gone().best(5, 3), -9);
        due("most(5)", gone().most(5), -9);
        due("cost(60, 0)", gone().cost(60, 0), 0);
        due("mark(60)", gone().mark(60), 0);
        due("count(7)", gone().count(7), 0);
    }

    private static void otherPeopleThen() {
        AHairToTheLeft x = new AHairToTheLeft();
        x.image();
        tell(x, "pc99159;pm71130;");
        x.on();
        tell(x, "pp10012;pd21013;");
        x.image();
        tell(x, "pf50049;");
        x.on();
        due("person(1, 0)", x.person(1, 0), 1);
        due("bothers(1, 3)", x.bothers(1, 3), 4);
        due("finer(0, 2)", x.finer(0, 2), TOLD + 1);
        due("of(2, 0, 0)", x.of(2, 0, 0), -1);
        AHairToTheLeft one = told("ds+0;w+50;pp00019;");
        one.image();
        tell(one, "pp00019;");
        one.on();
        due("best(5, 3)", one.best(5, 3), 0);
    }

    private static void allButThese() {
        AHairToTheLeft x = new AHairToTheLeft();
        x.row(51);
        x.letter('n');
        x.letter(-1);
        x.image();
        x.row(52);
        x.letter('0');
        x.letter(256);
        x.go(5);
        due("on()", x.on(), 0);
        due("the ROW", x.count(8), 2);
        due("letters", x.count(9), 2);
        due("refusals -4", x.count(14), 1);
        due("refusals -6", x.count(16), 1);
        due("the image is there still", x.on(), 0);
        due("the ROW is so", x.judge(), -9);
        due("the letters are so", x.parlour(), -1002);
    }

    private static void refusalsCounted() {
        AHairToTheLeft x = told("pp10010;");
        x.person(1, 0);
        x.finer(0, 1);
        x.kind(0, 5);
        x.place(3);
        x.set(6, 0);
        x.on();
        x.letter(-1);
        x.at(-1);
        x.drifts(-1);
        x.mark(-1);
        x.leave(-1);
        x.set(0, -100);
        x.row(100);
        x.at(241);
        int[] many = {2, 3, 1, 6, 0, 2};
        for (int k = 0; k < 6; k++) {
            due("count(" + (11 + k) + ")", x.count(11 + k), many[k]);
        }
    }

    private static void refusalsTold() {
        refused("", "place(3)", x -> x.place(3), TOLD + 2);
        refused("", "at(-1)", x -> x.at(-1), TOLD + 4);
        refused("", "drifts(10000)", x -> x.drifts(10000), TOLD + 6);
        refused("", "finer(0, 0)", x -> x.finer(0, 0), TOLD + 1);
        refused("", "mark(241)", x -> x.mark(241), TOLD + 6);
        refused("", "leave(-1)", x -> x.leave(-1), TOLD + 4);
        refused("", "set(4, 0)", x -> x.set(4, 0), TOLD + 4);
    }

    /** Two alike: one is refused all the while, the other not; they answer the same. */
    private static void nothingElseChanges() {
        AHairToTheLeft x = told(FULL);
        AHairToTheLeft y = told(FULL);
        for (int round = 0; round < 8; round++) {
            refuseAll(x);
            due("go", x.go(3), y.go(3));
            due("row", x.row(40 + round), y.row(40 + round));
            due("letter", x.letter('n'), y.letter('n'));
            if (round == 3) {
                due("image", x.image(), y.image());
            }
            due("kept(1)", x.kept(1), y.kept(1));
            due("cost", x.cost(60, 0), y.cost(60, 0));
        }
        refuseAll(x);
        due("judge", x.judge(), y.judge());
        due("parlour", x.parlour(), y.parlour());
        refuseAll(x);
        due("on", x.on(), y.on());
        same("all", all(x), all(y));
        AHairToTheLeft z = told("ds+0;w+05;re200;pp10010;");
        z.row(55);
        refuseAll(z);
        due("kept(1) behind refusals", z.kept(1), 16);
        z.row(55);
        refuseAll(z);
        due("judge() behind refusals", z.judge(), -9);
    }

    private static void refuseAll(AHairToTheLeft x) {
        x.letter(256);
        x.person(7, 0);
        x.person(0, 7);
        x.bothers(0, 200);
        x.place(-1);
        x.set(0, 100);
        x.set(1, -21);
        x.set(2, 21);
        x.set(3, 10);
        x.set(4, 0);
        x.set(5, -1);
        x.kind(0, 5);
        x.kind(1, -1);
        x.turn(2);
        x.drifts(-1);
        x.go(0);
        x.go(61);
        x.cost(241, 0);
        x.at(241);
        x.of(0, 0, 3);
        x.best(0, 4);
        x.finer(0, 2);
        x.mark(241);
        x.most(-1);
        x.between(241);
        x.leave(-1);
        x.holds(100);
        x.whoLast(241);
        x.when(-1);
        x.row(100);
        x.kept(2);
        x.lots(0, 0);
        x.count(10);
    }

    private static void firstThatFits() {
        refused("", "bothers(0, -1)", x -> x.bothers(0, -1), -1);
        refused("", "of(0, 241, 9)", x -> x.of(0, 241, 9), -1);
        refused("pp10010;", "of(0, 241, 9)", x -> x.of(0, 241, 9), -6);
        refused("pp10010;", "of(0, -1, 9)", x -> x.of(0, -1, 9), -4);
        refused("", "finer(-1, 0)", x -> x.finer(-1, 0), TOLD + 4);
        refused("", "finer(241, 0)", x -> x.finer(241, 0), TOLD + 6);
        refused("", "set(6, 1000)", x -> x.set(6, 1000), TOLD + 2);
        refused("", "cost(241, 9)", x -> x.cost(241, 9), -6);
    }

    public static void main(String[] args) {
        whatThereIs();
        inLetters();
        kinds();
        bestOnes();
        timesAndRows();
        System.exit(close());
    }

    private static void whatThereIs() {
        sentence("An object is used for at most 512 calls after it has been made", TermsTests::used512Times);
        sentence("THE WIRELESS stands AT a place (-99 .. 99; 0 at first).", TermsTests::atAPlace);
        sentence("STATIONS 0 and 1 at places (-20 .. 20; 0 and 6 at first).", TermsTests::stations);
        sentence("DRIFT of a KIND with a RATE (-9 .. 9; 1 at first).", TermsTests::rate);
        sentence("PEOPLE 0 .. as they come (5 at most):", TermsTests::people);
        sentence("KIND, MINDS (0 .. 9), FIGURE (0 .. 9), STATION (0, 1), HAND (1 .. 5), PRICE (0 .. 9) of getting up.", TermsTests::numbersOfOne);
        sentence("A RULE of a KIND with a LIMIT (1 .. 20: 3 at first) and PAST (0 .. 9: 2 at first).", TermsTests::limitAndPast);
        sentence("TURN (whose it is to get up: 0 at first).", TermsTests::turnAtFirst);
        sentence("MINUTE (0 .. 9999; 0 at first).", TermsTests::minute);
    }

    private static void inLetters() {
        sentence("A PARLOUR is told in letters, one by one (96 at most):", TermsTests::lettersAtMost);
        sentence("STATEMENTS, each with \";\" behind:", TermsTests::behindEach);
        sentence("\"p\" a letter of a KIND, MINDS, FIGURE, STATION, HAND, PRICE (a digit each): one of PEOPLE more;", TermsTests::statementOfOne);
        sentence("\"w\" \"+\" or \"-\", AT (2 digits);", TermsTests::statementOfAt);
        sentence("\"s\" a STATION (a digit), \"+\" or \"-\", its place (2 digits);", TermsTests::statementOfStation);
        sentence("\"d\" a letter of a KIND of DRIFT, \"+\" or \"-\", RATE (a digit);", TermsTests::statementOfDrift);
        sentence("\"r\" a letter of a KIND of RULE, LIMIT (2 digits), PAST (a digit);", TermsTests::statementOfRule);
        sentence("\"n\" MINUTES (2 digits, 1 .. 60): they go by.", TermsTests::statementOfMinutes);
        sentence("At least one STATEMENT.", TermsTests::atLeastOne);
        sentence("kind 1 the place of the first letter with which no PARLOUR can go on", TermsTests::faultOfForm);
        sentence("kind 1 the place of the first letter with which no PARLOUR can go on", TermsTests::faultOfHighLetters);
        sentence("(the end, if something lacks): -1000 less the place;", TermsTests::faultAtTheEnd);
        sentence("else kind 2", TermsTests::formBeforeSense);
        sentence("the place of the first letter of the first STATEMENT that, behind all ahead of it in the text, is not as it must be"
            + " (a number out of range, MINUTE above 9999, no room for more): -2000 less the place.", TermsTests::faultOfSense);
        sentence("Without FAULT all of it comes, with one nothing.", TermsTests::allOrNothing);
        sentence("Without FAULT all of it comes, with one nothing.", TermsTests::eachStatementAlone);
    }

    private static void kinds() {
        sentence("s STEADY: RATE.", TermsTests::steady);
        sentence("w SWINGING under STEADY: RATE, if t by 10, cut, is even, else RATE times -1.", TermsTests::swinging);
        sentence("c COOLING under STEADY: RATE, nearer to 0 by 1 for each 20 of t, cut, 0 at last.", TermsTests::cooling);
        sentence("j JUMPING under STEADY: 3 times RATE, if 3 divides t, else 0.", TermsTests::jumping);
        sentence("u UNSURE under SWINGING: as a SWINGING one, 1 more if 2 divides t.", TermsTests::unsure);
        sentence("AT is held at -99 and 99.", TermsTests::heldAt99);
        sentence("what one is BOTHERED by n that AT is from the place of the own STATION (without sign):", TermsTests::farWithoutSign);
        sentence("p PERSON: n times MINDS.", TermsTests::personBothered);
        sentence("d DEAF under PERSON: as a PERSON, n less FIGURE (0 at least) in place of n.", TermsTests::deaf);
        sentence("f FUSSY under PERSON: twice as a PERSON.", TermsTests::fussy);
        sentence("m MUSICAL under FUSSY: as a FUSSY one, FIGURE more if n is above 2.", TermsTests::musical);
        sentence("c CHILD under DEAF: as a DEAF one with twice FIGURE; if n is 20 or more, as a PERSON.", TermsTests::child);
        sentence("by S, the place of the STATION of whose TURN it is:", TermsTests::stationOfTheTurn);
        sentence("e EDGE: if AT is farther from S than LIMIT; S.", TermsTests::edge);
        sentence("o OVER under EDGE: as an EDGE; PAST beyond S against the DRIFT", TermsTests::over);
        sentence("of this MINUTE (S less PAST, if that is above 0; S and PAST, if below; S else).", TermsTests::overOfThisMinute);
        sentence("k CLOCK under EDGE: if LIMIT divides MINUTE; S.", TermsTests::clock);
        sentence("b BETWEEN under EDGE: as an EDGE; the middle of both STATIONS (their sum by 2, cut toward 0).", TermsTests::between);
        sentence("l LAZY under OVER: if AT is farther from S than twice LIMIT; as OVER.", TermsTests::lazy);
        sentence("Who gets up turns by steps of his HAND: to the nearest such place from AT on to what it should be", TermsTests::byHand);
        sentence("(of two the nearer to AT);", TermsTests::ofTwoTheNearer);
        sentence("his PRICE is paid;", TermsTests::pricePaid);
        sentence("TURN is the next one's (round by numbers).", TermsTests::nextOnesTurn);
        sentence("A MINUTE: it DRIFTS; then,", TermsTests::aMinute);
        sentence("if PEOPLE are there and the RULE tells so, one gets up; then all are BOTHERED;", TermsTests::ifPeopleAreThere);
        sentence("MINUTE is 1 more (the MINUTE of DRIFT and CLOCK is that ahead).", TermsTests::minuteAhead);
    }

    private static void bestOnes() {
        sentence("(In thought MINUTE may pass 9999.)", TermsTests::behind9999);
        sentence("(In thought MINUTE may pass 9999.)", TermsTests::allBehind9999);
        sentence("In mind, from now, n MINUTES (0 .. 240):", TermsTests::inMind);
        sentence("In mind, from now, n MINUTES (0 .. 240):", TermsTests::fromNow);
        sentence("In mind, from now, n MINUTES (0 .. 240):", TermsTests::nothingLingers);
        sentence("COST (0: BOTHERS and PRICES of all), UPS (1), PRICES (2),", TermsTests::costOfAll);
        sentence("farthest AT was from the place of STATION 0 behind a MINUTE (3), of STATION 1 (4).", TermsTests::farthest);
        sentence("AT then.", TermsTests::atThen);
        sentence("Of one: BOTHER (0), UPS (1), BOTHER and PRICES (2).", TermsTests::ofOne);
        sentence("BEST LIMIT (1 .. 20),", TermsTests::bestLimit);
        sentence("BEST PAST (0 .. 9),", TermsTests::bestPast);
        sentence("BEST RULE (0 .. 4): with the least COST, of several the least.", TermsTests::bestRule);
        sentence("FIRST: whose TURN it should be now, likewise.", TermsTests::first);
        sentence("FINER: were one's HAND 1: how much less COST (may be below 0).", TermsTests::finer);
        sentence("MARK: were all HANDS 1: how much less.", TermsTests::mark);
        sentence("MOST: who has the most BOTHER and PRICES, of several the least.", TermsTests::most);
        sentence("BETWEEN: the place (-20 .. 20) for STATION 0 with the least COST, of several the least.", TermsTests::placeBetween);
        sentence("LEAVE: if nobody gets up: how much more COST (may be below 0).", TermsTests::leave);
    }

    private static void timesAndRows() {
        sentence("HOLDS: were AT now a place: the first MINUTE from now (0 ..) behind which, if nobody gets up, AT is farther than LIMIT"
            + " from the place of a STATION; -9 in 240.", TermsTests::holdsFromAPlace);
        sentence("SET AT: the place (-20 .. 20) from which that lasts longest (never longest of all), of several the least.", TermsTests::setAt);
        sentence("STEADY FROM: the first MINUTE from now (0 .. 240) from which on it DRIFTS 0 for 10 MINUTES; -9.", TermsTests::steadyFrom);
        sentence("WHO LAST: who gets up last in n MINUTES; -9.", TermsTests::whoLast);
        sentence("WHEN the i-th one gets up: in which MINUTE from now; -9 not in 240.", TermsTests::when);
        sentence("A ROW of numbers (0 .. 99; 12 at most):", TermsTests::rowOfNumbers);
        sentence("behind 1, 2, .. MINUTES: the first that is not so; -9.", TermsTests::judged);
        sentence("AT and 50 (0 .. 99 held)", TermsTests::judgedHeld);
        sentence("RULES (bits) with LIMIT as it is by which the ROW is so;", TermsTests::keptRules);
        sentence("LIMITS (how many of 1 .. 20) with the RULE as it is.", TermsTests::keptLimits);
        sentence("A DRAW below m: z becomes z times 1664525 and 1013904223 (an int); (z without its sign's bit by 256, cut) modulo m.", TermsTests::lots);
        sentence("LOTS with a seed z: n evenings (1 .. 20) of 60 MINUTES, AT a DRAW below 41 less 20 at first: all COST.", TermsTests::eveningsFromNow);
        sentence("ON from it all is as then.", TermsTests::asAtTheImage);
        sentence("ON from it all is as then.", TermsTests::asNothingHadBeen);
        sentence("ON from it all is as then.", TermsTests::otherPeopleThen);
        sentence("ON from it all is as then.", TermsTests::nobodyThen);
        sentence("THE IMAGE: all that there is, but it, the ROW, letters, REFUSALS;", TermsTests::allButThese);
        sentence("-1 NOBODY: no such one, STATION. -2 OTHER: what, KIND. -3 STATE: it is not as it must be. -4 BELOW: a number below the least."
            + " -6 ROOM: a number above the greatest, no room.", TermsTests::refusalsCounted);
        sentence("Of place(), at(), drifts(), finer(), mark(), leave(), set() REFUSALS are 1000000000 less them (-1 is told as 1000000001).", TermsTests::refusalsTold);
        sentence("nothing changes but how many there were", TermsTests::nothingElseChanges);
        sentence("the first that fits in the order in which it tells them;", TermsTests::firstThatFits);
    }
}
