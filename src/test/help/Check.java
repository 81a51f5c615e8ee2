/** What the tests by hand share: how a due answer is looked at, how lands are told, how a run ends. */
abstract class Check {
    private static int wrong;
    private static int looks;
    private static String promise = "";

    /** What is looked at from now on, to be told with each answer that is not as due. */
    static void promise(String number) {
        promise = number;
    }

    static void due(String call, long got, long want) {
        looks++;
        if (got != want) {
            fail(call + " answered " + got + ", due is " + want);
        }
    }

    static void dueText(String what, String got, String want) {
        looks++;
        if (!got.equals(want)) {
            fail(what + " is " + got + ", due is " + want);
        }
    }

    private static void fail(String text) {
        wrong++;
        System.out.println("promise " + promise + ": " + text);
    }

    static void end() {
        if (wrong > 0) {
            System.out.println(wrong + " answers are not as due");
            System.exit(1);
        }
        System.out.println("all " + looks + " answers are as due");
    }

    static void tellLetters(GoInland x, String text) {
        for (int i = 0; i < text.length(); i++) {
            x.feed(text.charAt(i));
        }
    }

    static int tell(GoInland x, String text) {
        tellLetters(x, text);
        return x.land();
    }

    /** A new object on which lands were told that have no fault. */
    static GoInland told(String... texts) {
        GoInland x = new GoInland();
        for (String text : texts) {
            int answer = tell(x, text);
            if (answer <= 0) {
                due("the land " + text, answer, 1);
            }
        }
        return x;
    }

    static String lineOf(GoInland x, int head) {
        StringBuilder line = new StringBuilder();
        int letter = x.line(head, 0);
        for (int i = 1; i < 20 && letter >= 0; i++) {
            line.append((char) letter);
            letter = x.line(head, i);
        }
        return line.toString();
    }

    static void dueLine(GoInland x, int head, String want) {
        dueText("line of " + head, lineOf(x, head), want);
    }

    /** A land told, with FAULT or without: its letters are no more then. */
    static void dueLand(GoInland x, String text, int want) {
        due("the land \"" + text + "\"", tell(x, text), want);
        due("letters behind \"" + text + "\"", x.count(7), 0);
    }

    /** RAIN, above and below the line. */
    static void dueRain(GoInland x, int head, int field, int n, int t, long above, long below) {
        String call = "rain(" + head + ", " + field + ", " + n + ", " + t + ")";
        due(call + " above", x.rain(head, field, n, t, 0), above);
        due(call + " below", x.rain(head, field, n, t, 1), below);
    }

    /** What a call that answers a long answers if it is refused. */
    static long refused(int refusal) {
        return 4000000000000000000L - refusal;
    }

    /** NIGHT 960 by sixteen calls; the same heads go by then, if there are any. */
    static void passTo960(GoInland x) {
        for (int i = 0; i < 16; i++) {
            x.nights(60);
        }
    }
}
