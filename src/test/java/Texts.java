/** Writes texts to the tape of a LoadSpans. */
final class Texts {
    private Texts() {
    }

    static void tell(LoadSpans x, String text) {
        x.end(0);
        int[] five = new int[5];
        for (int at = 0; at < text.length(); at += 20) {
            five(text, at, five);
            x.feed(five[0], five[1], five[2], five[3], five[4]);
        }
        x.end(text.length());
    }

    static void five(String text, int at, int[] into) {
        for (int i = 0; i < 5; i++) {
            into[i] = 0;
            for (int j = 0; j < 4; j++) {
                int place = at + 4 * i + j;
                into[i] = (into[i] << 8) | (place < text.length() ? text.charAt(place) & 255 : 0);
            }
        }
    }

    static int plane(LoadSpans x, String text) {
        tell(x, text);
        return x.plane();
    }

    static int cargo(LoadSpans x, String text) {
        tell(x, text);
        return x.cargo();
    }

    static int named(LoadSpans x, String text) {
        tell(x, text);
        return x.named();
    }

    static LoadSpans loader(String plane, String cargo) {
        LoadSpans x = new LoadSpans();
        if (plane(x, plane) < 0 || cargo(x, cargo) < 0) {
            throw new IllegalStateException("a text of a test has a FAULT: " + plane + cargo);
        }
        return x;
    }
}
