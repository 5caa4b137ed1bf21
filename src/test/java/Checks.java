import java.nio.charset.StandardCharsets;

/** What the tests share: counting wrong answers, and feeding a text as bytes. */
final class Checks {
    private static int wrong = 0;

    private Checks() { }

    static void due(String call, long got, long want) {
        if (got != want) {
            wrong++;
            System.out.println(call + " answered " + got + ", due is " + want);
        }
    }

    static void due(String call, boolean got, boolean want) {
        due(call, got ? 1L : 0L, want ? 1L : 0L);
    }

    static void finish() {
        System.out.println(wrong == 0 ? "all answers are as due" : wrong + " answers are not as due");
        if (wrong != 0) {
            System.exit(1);
        }
    }

    /** The five numbers of each feed that the text takes, the last filled up by blanks. */
    static int[][] feeds(String text) {
        byte[] bytes = text.getBytes(StandardCharsets.ISO_8859_1);
        int[][] feeds = new int[(bytes.length + 19) / 20][5];
        for (int n = 0; n < feeds.length * 20; n++) {
            int b = n < bytes.length ? bytes[n] & 255 : 32;
            feeds[n / 20][n % 20 / 4] |= b << (24 - 8 * (n % 4));
        }
        return feeds;
    }

    static void feed(GlassValley x, String text) {
        x.end(0);
        for (int[] feed : feeds(text)) {
            x.feed(feed[0], feed[1], feed[2], feed[3], feed[4]);
        }
        x.end(text.length());
    }

    static int custom(GlassValley x, String text) {
        feed(x, text);
        return x.custom();
    }
}
