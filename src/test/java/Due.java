import java.nio.charset.StandardCharsets;

/** Counts answers that are not due, and puts texts on the tape of an object. */
final class Due {
    private final String name;
    private int wrong = 0;
    private int asked = 0;

    Due(String name) {
        this.name = name;
    }

    void is(String call, long got, long want) {
        asked++;
        if (got != want) {
            wrong++;
            if (wrong <= 40) {
                System.out.println(name + ": " + call + " answered " + got + ", due is " + want);
            }
        }
    }

    void end() {
        System.out.println(name + ": " + asked + " answers, " + wrong + " wrong");
        if (wrong != 0 || asked == 0) {
            System.exit(1);
        }
    }

    /** Puts the text behind what is on the tape. */
    static void put(BellHeirs x, String text) {
        put(x, text.getBytes(StandardCharsets.ISO_8859_1));
    }

    static void put(BellHeirs x, byte[] bytes) {
        int before = x.count(6);
        for (int from = 0; from < bytes.length; from += 20) {
            int[] v = new int[5];
            for (int i = 0; i < 20; i++) {
                int b = from + i < bytes.length ? bytes[from + i] & 255 : 32;
                v[i / 4] = v[i / 4] << 8 | b;
            }
            x.feed(v[0], v[1], v[2], v[3], v[4]);
        }
        x.end(before + bytes.length);
    }

    static int law(BellHeirs x, String text) {
        put(x, text);
        return x.law();
    }

    static int orders(BellHeirs x, String text) {
        put(x, text);
        return x.orders();
    }
}
