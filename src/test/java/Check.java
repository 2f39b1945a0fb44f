import java.util.NoSuchElementException;

/** Counts and prints answers that are not as due. */
final class Check {
    interface Call {
        long answer();
    }

    static final long NO_SUCH = Long.MIN_VALUE;
    static final long ILLEGAL = Long.MIN_VALUE + 1;

    private static int asked;
    private static int wrong;

    private Check() {
    }

    static void due(String call, long want, long got) {
        asked++;
        if (got != want) {
            wrong++;
            System.out.println(call + " answered " + show(got) + ", due is " + show(want));
        }
    }

    static void due(String call, boolean want, boolean got) {
        due(call, want ? 1 : 0, got ? 1 : 0);
    }

    static void noSuch(String call, Call c) {
        due(call, NO_SUCH, answerOf(c));
    }

    static void illegal(String call, Call c) {
        due(call, ILLEGAL, answerOf(c));
    }

    /** What a call answers, or which of the document's exceptions it throws: any other one ends the test. */
    static long answerOf(Call c) {
        try {
            return c.answer();
        } catch (NoSuchElementException e) {
            return NO_SUCH;
        } catch (IllegalArgumentException e) {
            return ILLEGAL;
        }
    }

    static String show(long answer) {
        if (answer == NO_SUCH) {
            return "throws.NoSuchElementException";
        }
        return answer == ILLEGAL ? "throws.IllegalArgumentException" : Long.toString(answer);
    }

    /** Puts a text on the tape, which must be empty. */
    static void feed(OnceVolume x, String text) {
        for (int from = 0; from < text.length(); from += 20) {
            int[] numbers = new int[5];
            for (int i = 0; i < 20; i++) {
                int sign = from + i < text.length() ? text.charAt(from + i) & 255 : 0;
                numbers[i / 4] = numbers[i / 4] << 8 | sign;
            }
            x.feed(numbers[0], numbers[1], numbers[2], numbers[3], numbers[4]);
        }
    }

    static OnceVolume told(String text) {
        OnceVolume x = new OnceVolume();
        feed(x, text);
        due("disc of " + text, 0, x.disc(text.length()));
        return x;
    }

    /** Ends the test's program: exit code 1 if an answer was not as due. */
    static void end() {
        System.out.println(asked + " answers asked, " + wrong + " not as due");
        if (wrong != 0 || asked == 0) {
            System.exit(1);
        }
    }
}
