/** What the tests of the project share: it prints each answer that is not the one that is due. */
final class Due {
    private static int wrong = 0;
    private static int looked = 0;

    private Due() {
    }

    static void is(String what, long got, long want) {
        looked++;
        if (got != want) {
            wrong++;
            System.out.println(what + " answered " + got + ", due is " + want);
        }
    }

    /** The letters of a WORD as line() takes them. */
    static long word(String letters) {
        long word = 0;
        for (char letter : letters.toCharArray()) {
            word = word << 8 | letter;
        }
        return word;
    }

    /** Adds a LINE that must find room. */
    static void line(LedgerTests x, int test, String word, int... numbers) {
        int[] abc = java.util.Arrays.copyOf(numbers, 3);
        int had = x.count(4 + test);
        is("line " + word, x.line(test, word(word), abc[0], abc[1], abc[2]), had + 1);
    }

    /** Adds LINES, each as its WORD and numbers with blanks between them. */
    static void lines(LedgerTests x, int test, String... lines) {
        for (String told : lines) {
            String[] parts = told.split(" ");
            int[] numbers = new int[parts.length - 1];
            for (int i = 0; i < numbers.length; i++) {
                numbers[i] = Integer.parseInt(parts[i + 1]);
            }
            line(x, test, parts[0], numbers);
        }
    }

    /** Puts the LINES into TEST 5 and looks at what run() answers. */
    static void runs(String what, LedgerTests x, int want, String... lines) {
        x.clear(5);
        lines(x, 5, lines);
        is(what, x.run(5), want);
    }

    /** Adds STEPS, each as kind, a, b. */
    static void steps(LedgerTests x, int contract, int member, int... numbers) {
        for (int i = 0; i + 2 < numbers.length; i += 3) {
            int answer = x.step(contract, member, numbers[i], numbers[i + 1], numbers[i + 2]);
            is("step " + i / 3, answer > 0 ? 1 : answer, 1);
        }
    }

    /** MEMBER 0 of CONTRACT 0, called by ACCOUNT 0 without coins, answers this. */
    static void answers(String what, LedgerTests x, int argument, int want) {
        is(what, x.call(0, 0, 0, argument, 0), 1);
        is(what + ", told(0)", x.told(0), want);
        is(what + ", told(1)", x.told(1), 0);
        is(what + ", told(2)", x.told(2), 0);
    }

    /** MEMBER 0 of CONTRACT 0, called by ACCOUNT 0 without coins, THROWS this. */
    static void fails(String what, LedgerTests x, int argument, int number, int cause) {
        is(what, x.call(0, 0, 0, argument, 0), -10 - number);
        is(what + ", told(0)", x.told(0), 0);
        is(what + ", told(1)", x.told(1), number);
        is(what + ", told(2)", x.told(2), cause);
    }

    static void end() {
        System.out.println(looked + " answers, " + wrong + " not as due");
        if (wrong != 0) {
            System.exit(1);
        }
    }
}
