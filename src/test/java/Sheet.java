import java.util.Arrays;
import java.util.function.Supplier;
import java.util.function.ToIntFunction;

/** What the tests of single sentences share: the sentence, the calls that it is about, the answers due. */
abstract class Sheet {
    static final int TOLD = 1000000000;
    static final int LOW = Integer.MIN_VALUE;
    static final int HIGH = Integer.MAX_VALUE;
    private static String sentence = "";
    private static int sentences = 0;
    private static int answers = 0;
    private static int wrong = 0;

    /** A test that asks nothing, or in which the machine throws, is a wrong one too. */
    static void sentence(String words, Runnable test) {
        sentence = words;
        sentences++;
        int before = answers;
        try {
            test.run();
        } catch (RuntimeException | StackOverflowError thrown) {
            tellWrong("threw " + thrown);
        }
        if (answers == before) {
            tellWrong("is asked nothing");
        }
    }

    /** What the second call answers, behind the first. */
    static int then(int first, int second) {
        return second;
    }

    static void due(String call, int got, int want) {
        answers++;
        if (got != want) {
            tellWrong(call + " answered " + got + ", due is " + want);
        }
    }

    static void same(String what, String got, String want) {
        answers++;
        if (!got.equals(want)) {
            tellWrong(what + " is " + got + ", due is " + want);
        }
    }

    private static void tellWrong(String what) {
        wrong++;
        System.out.println("\"" + sentence + "\": " + what);
    }

    static int close() {
        System.out.println(wrong == 0 ? answers + " answers on " + sentences + " sentences are as due" : wrong + " are not as due");
        return wrong == 0 ? 0 : 1;
    }

    static int tell(AHairToTheLeft x, String letters) {
        for (char c : letters.toCharArray()) {
            x.letter(c);
        }
        return x.parlour();
    }

    static AHairToTheLeft told(String letters) {
        AHairToTheLeft x = new AHairToTheLeft();
        if (!letters.isEmpty() && tell(x, letters) < 0) {
            tellWrong("could not set out with " + letters);
        }
        return x;
    }

    /** What stands in the letters is told behind the minutes. */
    static AHairToTheLeft toldAt(int minute, String letters) {
        AHairToTheLeft x = new AHairToTheLeft();
        for (int left = minute; left > 0; left -= 60) {
            x.go(Math.min(60, left));
        }
        if (tell(x, letters) < 0) {
            tellWrong("could not set out with " + letters);
        }
        return x;
    }

    /** The fault of a text, and that nothing of it has come. */
    static void fault(String letters, int want) {
        AHairToTheLeft x = new AHairToTheLeft();
        String before = all(x);
        due("parlour() of " + letters, tell(x, letters), want);
        same("all behind " + letters, all(x), before);
        due("letters behind " + letters, x.count(9), 0);
    }

    /** All that can be asked without a refusal, but the refusals. */
    static String all(AHairToTheLeft x) {
        StringBuilder s = new StringBuilder();
        for (int what = 0; what < 10; what++) {
            s.append(x.count(what)).append(' ');
        }
        for (int what = 0; what < 3; what++) {
            s.append(x.place(what)).append(' ');
        }
        s.append(x.drifts(0)).append(' ').append(x.drifts(11)).append(';');
        for (int person = 0; person < x.count(0); person++) {
            for (int what = 0; what < 6; what++) {
                s.append(' ').append(x.person(person, what));
            }
        }
        return s.toString();
    }

    static int[] refusals(AHairToTheLeft x) {
        int[] many = new int[6];
        for (int i = 0; i < 6; i++) {
            many[i] = x.count(11 + i);
        }
        return many;
    }

    /** A refusal answers its number, is counted once under it, and changes nothing else. */
    static void refused(Supplier<AHairToTheLeft> made, String call, ToIntFunction<AHairToTheLeft> asked, int want) {
        AHairToTheLeft x = made.get();
        String before = all(x);
        int[] many = refusals(x);
        due(call, asked.applyAsInt(x), want);
        many[(want > 0 ? want - TOLD : -want) - 1]++;
        same("all behind the refused " + call, all(x), before);
        same("the refusals behind " + call, Arrays.toString(refusals(x)), Arrays.toString(many));
    }

    static void refused(String letters, String call, ToIntFunction<AHairToTheLeft> asked, int want) {
        refused(() -> told(letters), call, asked, want);
    }

    /** An answer that is due and no refusal. */
    static void taken(String letters, String call, ToIntFunction<AHairToTheLeft> asked, int want) {
        AHairToTheLeft x = told(letters);
        int[] many = refusals(x);
        due(call + " behind " + letters, asked.applyAsInt(x), want);
        same("the refusals behind " + call, Arrays.toString(refusals(x)), Arrays.toString(many));
    }
}
