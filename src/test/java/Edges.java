import java.io.IOException;
import java.nio.file.Files;
import java.nio.file.Path;
import java.util.function.IntBinaryOperator;
import java.util.function.IntUnaryOperator;

/** The answers that are due at the edges, each under the sentence of the document that asks for it. */
final class Edges {
    private static final int[] FAR = {Integer.MIN_VALUE, Integer.MIN_VALUE + 1, -65536, -256, -32, -2, -1, 31, 32, 33, 64,
        255, 256, 65536, 1 << 30, Integer.MAX_VALUE - 1, Integer.MAX_VALUE};

    private final Due due;
    private final String document;
    private String sentence = "";
    private int askedHere = 1;

    Edges(String test) {
        due = new Due(test);
        document = readDocument();
    }

    private static String readDocument() {
        try {
            return Files.readString(Path.of("../shared/DOC.md")).replaceAll("\\s+", " ");
        } catch (IOException e) {
            return "";
        }
    }

    /** What is asked from here on is what this sentence asks for: it must stand in the document just so. */
    void sentence(String words) {
        closeSentence();
        sentence = words;
        due.is("the document says [" + words + "]", document.contains(words), true);
    }

    private void closeSentence() {
        due.is("something is asked under [" + sentence + "]", askedHere > 0, true);
        askedHere = 0;
    }

    void is(String what, long got, long want) {
        askedHere++;
        due.is("[" + sentence + "]: " + what, got, want);
    }

    void is(String what, boolean got, boolean want) {
        is(what, got ? 1 : 0, want ? 1 : 0);
    }

    /** A PLANE without a FAULT, which has so many SPOTS. */
    LoadSpans plane(String text, int spots) {
        LoadSpans x = new LoadSpans();
        is("plane() of " + text, Texts.plane(x, text), spots);
        is("fault() of " + text, x.fault(), 0);
        return x;
    }

    void planeFault(String text, int kind, int place) {
        LoadSpans x = new LoadSpans();
        is("plane() of " + text, Texts.plane(x, text), -1000 - place);
        is("fault() of " + text, x.fault(), kind);
    }

    /** A CARGO without a FAULT, which has so many PALLETS. */
    LoadSpans cargo(String text, int pallets) {
        LoadSpans x = new LoadSpans();
        is("cargo() of " + text, Texts.cargo(x, text), pallets);
        is("fault() of " + text, x.fault(), 0);
        return x;
    }

    void cargoFault(String text, int kind, int place) {
        LoadSpans x = new LoadSpans();
        is("cargo() of " + text, Texts.cargo(x, text), -1000 - place);
        is("fault() of " + text, x.fault(), kind);
    }

    /** A number that stands behind these bytes of a PLANE: the least and the most are taken, one beyond is not. */
    void planeNumber(String before, int least, int most, String behind) {
        is("no FAULT with the least: " + before + least, planeIsGood(before + least + behind), true);
        is("no FAULT with the most: " + before + most, planeIsGood(before + most + behind), true);
        // 1000 is no number at all
        planeFault(before + (most + 1) + behind, most == 999 ? 1 : 2, before.length());
        if (least > 0) {
            planeFault(before + (least - 1) + behind, 2, before.length());
        }
    }

    private static boolean planeIsGood(String text) {
        LoadSpans x = new LoadSpans();
        return Texts.plane(x, text) >= 0 && x.fault() == 0;
    }

    void cargoNumber(String before, int least, int most, String behind) {
        is("no FAULT with the least: " + before + least, cargoIsGood(before + least + behind), true);
        is("no FAULT with the most: " + before + most, cargoIsGood(before + most + behind), true);
        cargoFault(before + (most + 1) + behind, 2, before.length());
        if (least > 0) {
            cargoFault(before + (least - 1) + behind, 2, before.length());
        }
    }

    private static boolean cargoIsGood(String text) {
        LoadSpans x = new LoadSpans();
        return Texts.cargo(x, text) >= 0 && x.fault() == 0;
    }

    /** Where the first argument is not below firsts, or the second not below seconds, there are no such ones. */
    void noSuchOnes(String call, IntBinaryOperator answer, int firsts, int seconds, int none) {
        for (int first : around(firsts)) {
            for (int second : around(seconds)) {
                if (isIn(first, firsts) && isIn(second, seconds)) {
                    continue;
                }
                is(call + "(" + first + ", " + second + ")", answer.applyAsInt(first, second), none);
            }
        }
    }

    void noSuchOne(String call, IntUnaryOperator answer, int many, int none) {
        for (int one : around(many)) {
            if (!isIn(one, many)) {
                is(call + "(" + one + ")", answer.applyAsInt(one), none);
            }
        }
    }

    private static boolean isIn(int one, int many) {
        return one >= 0 && one < many;
    }

    static int[] around(int many) {
        int[] all = java.util.Arrays.copyOf(FAR, FAR.length + 5);
        all[FAR.length] = 0;
        for (int i = 1; i < 5; i++) {
            all[FAR.length + i] = many - 2 + i;
        }
        return all;
    }

    void close() {
        closeSentence();
        due.close();
    }
}
