/** Compares answers with those that are due, and ends a test with exit code 1 if one was not. */
final class Check {
    private int wrong = 0;
    private int asked = 0;

    void due(String call, long got, long want) {
        asked++;
        if (got != want) {
            wrong++;
            System.out.println(call + " answered " + got + ", due is " + want);
        }
    }

    void hold(String what, boolean holds) {
        asked++;
        if (!holds) {
            wrong++;
            System.out.println("does not hold: " + what);
        }
    }

    /** Writes a text in pieces of eight bytes, as a caller would; answers the last answer. */
    static int write(TwoTongues x, int tongue, String text) {
        int answer = 0;
        for (int at = 0; at < text.length(); at += 8) {
            int n = Math.min(8, text.length() - at);
            answer = x.write(tongue, n, packed(text.substring(at, at + n)));
        }
        return answer;
    }

    static long packed(String piece) {
        long v = 0;
        for (char c : piece.toCharArray()) {
            v = v << 8 | c & 255;
        }
        return v;
    }

    /** Wipes, writes and brings into force. */
    static int enact(TwoTongues x, int tongue, String text) {
        x.wipe(tongue);
        write(x, tongue, text);
        return x.force(tongue);
    }

    void end() {
        System.out.println(wrong == 0 ? asked + " answers are as due" : wrong + " of " + asked + " answers are not as due");
        if (wrong != 0) {
            System.exit(1);
        }
    }
}
