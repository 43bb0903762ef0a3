/** Puts texts on the TAPE: what the tests share. */
final class Texts {
    private Texts() {
    }

    /** Feeds a text, twenty bytes at a time, and ends the TAPE behind it. */
    static void feed(BathWater x, String text) {
        for (int from = 0; from < text.length(); from += 20) {
            x.feed(four(text, from), four(text, from + 4), four(text, from + 8), four(text, from + 12), four(text, from + 16));
        }
        x.end(text.length());
    }

    static BathWater bath(String text) {
        BathWater x = new BathWater();
        feed(x, text);
        x.bath();
        return x;
    }

    private static int four(String text, int from) {
        int number = 0;
        for (int i = from; i < from + 4; i++) {
            number = number << 8 | (i < text.length() ? text.charAt(i) & 255 : 32);
        }
        return number;
    }
}
