/** Counts the answers that are not as due, and puts texts on tapes. */
final class Checks {
    /** What the next answers are about; told ahead of an answer that is not as due. */
    String about = "";
    private int right = 0;
    private int wrong = 0;

    void due(String call, long got, long want) {
        if (got == want) {
            right++;
        } else {
            wrong++;
            if (wrong <= 40) {
                System.out.println(about + call + " answered " + got + ", due is " + want);
            }
        }
    }

    void due(String call, boolean got, boolean want) {
        due(call, got ? 1 : 0, want ? 1 : 0);
    }

    /** A call that was refused, and the number that trouble() tells then. */
    void refused(WellVoice x, String call, long got, long want, int trouble) {
        due(call, got, want);
        due("trouble() behind " + call, x.trouble(), trouble);
    }

    void refused(WellVoice x, String call, boolean got, int trouble) {
        refused(x, call, got ? 1 : 0, 0, trouble);
    }

    /** A call that was not refused, behind which there is no trouble. */
    void allowed(WellVoice x, String call, long got, long want) {
        due(call, got, want);
        due("trouble() behind " + call, x.trouble(), 0);
    }

    void allowed(WellVoice x, String call, boolean got) {
        allowed(x, call, got ? 1 : 0, 1);
    }

    int made() {
        return right + wrong;
    }

    void finish(String name) {
        System.out.println(name + ": " + right + " answers as due, " + wrong + " not");
        if (wrong != 0 || right == 0) {
            System.exit(1);
        }
    }

    static void feed(WellVoice x, String text) {
        StringBuilder padded = new StringBuilder(text);
        while (padded.length() % 20 != 0) {
            padded.append(' ');
        }
        for (int i = 0; i < padded.length(); i += 20) {
            x.feed(four(padded, i), four(padded, i + 4), four(padded, i + 8), four(padded, i + 12),
                four(padded, i + 16));
        }
    }

    private static int four(CharSequence text, int at) {
        return text.charAt(at) << 24 | text.charAt(at + 1) << 16 | text.charAt(at + 2) << 8 | text.charAt(at + 3);
    }

    static int tell(WellVoice x, String text) {
        feed(x, text);
        return x.well(text.length());
    }

    static WellVoice of(String text) {
        WellVoice x = new WellVoice();
        if (tell(x, text) < 1) {
            throw new IllegalArgumentException("fault " + x.fault() + " at " + x.where() + " of: " + text);
        }
        return x;
    }

    /** Ways of one length, dry, between caves of one letter each: "ab bc" joins a to b and b to c. */
    static String ways(int length, String ends) {
        StringBuilder text = new StringBuilder();
        for (String pair : ends.split(" ")) {
            text.append(";way ").append(pair.charAt(0)).append(' ').append(pair.charAt(1)).append(" long ")
                .append(length).append(" dry");
        }
        return text.toString();
    }

    /** Whether led(i) throws what is due. */
    static boolean ledThrows(WellVoice x, int i) {
        try {
            x.led(i);
            return false;
        } catch (java.util.NoSuchElementException e) {
            return true;
        }
    }
}
