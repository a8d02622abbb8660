/** What the tests of the project share: it prints each answer that is not the one that is due. */
final class Due {
    private static int wrong = 0;
    private static int looked = 0;

    private Due() {
    }

    static void is(String what, long got, long want) {
        looked++;
        if (got != want) {
            wrong++;
            System.out.println(what + " answered " + got + ", due is " + want);
        }
    }

    /** The letters of a WORD as line() takes them. */
    static long word(String letters) {
        long word = 0;
        for (char letter : letters.toCharArray()) {
            word = word << 8 | letter;
        }
        return word;
    }

    /** Adds a LINE that must find room. */
    static void line(LedgerTests x, int test, String word, int... numbers) {
        int[] abc = java.util.Arrays.copyOf(numbers, 3);
        int had = x.count(4 + test);
        is("line " + word, x.line(test, word(word), abc[0], abc[1], abc[2]), had + 1);
    }

    /** Adds STEPS, each as kind, a, b. */
    static void steps(LedgerTests x, int contract, int member, int... numbers) {
        for (int i = 0; i + 2 < numbers.length; i += 3) {
            int answer = x.step(contract, member, numbers[i], numbers[i + 1], numbers[i + 2]);
            is("step " + i / 3, answer > 0 ? 1 : answer, 1);
        }
    }

    static void end() {
        System.out.println(looked + " answers, " + wrong + " not as due");
        if (wrong != 0) {
            System.exit(1);
        }
    }
}
