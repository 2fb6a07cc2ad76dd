import java.util.Random;

/** The texts of PLANE and CARGO: each FAULT by hand, then spoilt texts against SlowLoader. */
public final class FaultTest {
    private static final Due DUE = new Due("FaultTest");
    private static final String HOLD = "hold h 9 front;";
    private static final String SPOTS_6 = HOLD + "spot 1 1;".repeat(6);

    public static void main(String[] args) {
        goodPlanes();
        oddTokens();
        wrongNumbers();
        wrongWords();
        oneTooMany();
        noFloor();
        cargoes();
        lengths();
        spoilt();
        DUE.close();
    }

    /** kind 0: there is no FAULT and answer is what plane() answers, else the place. */
    private static void plane(String text, int kind, int answer) {
        LoadSpans x = new LoadSpans();
        DUE.is("plane() of " + text, Texts.plane(x, text), kind == 0 ? answer : -1000 - answer);
        DUE.is("fault() of " + text, x.fault(), kind);
        DUE.is("the tape behind " + text, x.count(10), 0);
    }

    private static void cargo(String text, int kind, int answer) {
        LoadSpans x = new LoadSpans();
        DUE.is("cargo() of " + text, Texts.cargo(x, text), kind == 0 ? answer : -1000 - answer);
        DUE.is("fault() of " + text, x.fault(), kind);
        DUE.is("the tape behind " + text, x.count(10), 0);
    }

    private static void goodPlanes() {
        plane("", 0, 0);
        plane("    ", 0, 0);
        plane("empty 1 0;", 0, 0);
        plane("empty 999 99;", 0, 0);
        plane("span 0 99;", 0, 0);
        plane("span 98 99;", 0, 0);
        plane("  empty  001  007 ;  stop;stop ; ", 0, 0);
        plane("hold abcdefgh 999 back;spot 0 1;spot 99 99;joint 999;", 0, 2);
        plane(SPOTS_6, 0, 6);
        plane(HOLD + "spot 1 1;spot 2 2;joint 1;spot 3 3;joint 2;", 0, 3);
        plane("tank t 0 9;burn t 4;burn t 5;", 0, 0);
        plane("bin 0 1;bin 99 99;", 0, 0);
        plane("hold a 1 front;hold b 1 back;hold c 1 front;", 0, 0);
    }

    private static void oddTokens() {
        plane("empty", 1, 5);
        plane("empty  ", 1, 7);
        plane("stop", 1, 4);
        plane(";", 1, 0);
        plane("stop;;", 1, 5);
        plane("front;", 1, 0);
        plane("pallet a 1 1;", 1, 0);
        plane("wing 5;", 1, 0);
        plane("5 stop;", 1, 0);
        plane("stop5;", 1, 0);
        plane("Stop;", 1, 0);
        plane("stop!", 1, 4);
        plane("stop\n;", 1, 4);
        plane("stop\u00e9;", 1, 4);
        plane("empty 1000 5;", 1, 6);
        plane("empty 0005 5;", 1, 6);
        plane("empty 5a 5;", 1, 6);
        plane("empty a 5;", 1, 6);
        plane("empty ; 5;", 1, 6);
        plane("empty 5 5 5;", 1, 10);
        plane("empty 5 5 stop;", 1, 10);
        plane("hold abcdefghi 5 front;", 1, 5);
        plane("hold a1 5 front;", 1, 5);
        plane("hold 5 5 front;", 1, 5);
        for (String word : SlowLoader.QUOTED) {
            plane("hold " + word + " 5 front;", 1, 5);
            plane("tank " + word + " 5 5;", 1, 5);
            plane("tank a 5 5;burn " + word + " 5;", 1, 16);
            cargo("pallet " + word + " 5 5;", 1, 7);
        }
        plane("hold a 5 left;", 1, 9);
        plane("hold a 5 stop;", 1, 9);
        plane("hold a 5 5;", 1, 9);
        plane("hold a 5;", 1, 8);
        plane("hold a 5 front", 1, 14);
    }

    private static void wrongNumbers() {
        plane("empty 0 5;", 2, 6);
        plane("empty 000 5;", 2, 6);
        plane("empty 9 100;", 2, 8);
        plane("span 100 5;", 2, 5);
        plane("span 5 5;", 2, 7);
        plane("span 6 5;", 2, 7);
        plane("span 5 100;", 2, 7);
        plane("span 99 99;", 2, 8);
        plane("hold a 0 front;", 2, 7);
        plane(HOLD + "spot 100 1;", 2, 20);
        plane(HOLD + "spot 1 0;", 2, 22);
        plane(HOLD + "spot 1 100;", 2, 22);
        plane(HOLD + "spot 1 1;spot 1 1;joint 0;", 2, 39);
        plane("bin 100 1;", 2, 4);
        plane("bin 1 0;", 2, 6);
        plane("bin 1 100;", 2, 6);
        plane("tank a 100 1;", 2, 7);
        plane("tank a 5 0;", 2, 9);
        plane("tank a 5 100;", 2, 9);
        plane("tank a 5 9;burn a 0;", 2, 18);
        plane("tank a 5 9;burn a 10;", 2, 18);
        plane("tank a 5 9;burn a 5;burn a 5;", 2, 27);
        plane("tank a 5 9;burn a 9;burn a 1;", 2, 27);
        plane("empty 0 0", 2, 6);
    }

    private static void wrongWords() {
        plane("empty 9 9;empty 9 9;", 3, 10);
        plane("empty 9 9;empty", 3, 10);
        plane("span 5 6;span 5 6;", 3, 9);
        plane("hold a 5 front;hold a 5 back;", 3, 20);
        plane("hold a 5 front;tank a 5 5;", 3, 20);
        plane("tank a 5 5;hold a 5 front;", 3, 16);
        plane("tank a 5 5;tank a 0 0;", 3, 16);
        plane("burn a 5;", 3, 5);
        plane("hold a 5 front;burn a 5;", 3, 20);
        plane("burn a 5;tank a 5 5;", 3, 5);
    }

    private static void oneTooMany() {
        plane("hold a 1 front;hold b 1 back;hold c 1 front;hold a 1 back;", 4, 44);
        plane(SPOTS_6 + "spot 1 1;", 4, SPOTS_6.length());
        plane(SPOTS_6 + "hold g 9 back;spot 1 1;", 4, SPOTS_6.length() + 14);
        plane("bin 1 1;bin 2 2;bin 3 3;", 4, 16);
        plane("tank a 1 1;tank b 1 1;tank c 1 1;tank hold", 4, 33);
        plane("stop;stop;stop;stop;stop;", 4, 20);
        plane("tank a 1 99;" + "burn a 1;".repeat(12) + "burn ", 4, 12 + 108);
        plane("tank a 1 99;" + "burn a 1;".repeat(12) + "stop;", 4, 12 + 108);
        plane("tank a 1 99;" + "burn a 1;".repeat(8) + "stop;stop;stop;stop;", 0, 0);
        plane("tank a 1 99;" + "burn a 1;".repeat(8) + "stop;stop;stop;stop;burn a 1;", 4, 12 + 72 + 20);
    }

    private static void noFloor() {
        plane("spot 1 1;", 5, 0);
        plane("spot", 5, 0);
        plane("joint 5;", 5, 0);
        plane(HOLD + "joint 5;", 5, 15);
        plane(HOLD + "spot 1 1;joint 5;", 5, 24);
        plane(HOLD + "spot 1 1;spot 1 1;hold g 9 back;joint 5;", 5, 47);
        plane(HOLD + "spot 1 1;spot 1 1;hold g 9 back;spot 1 1;joint 5;", 5, 56);
        plane(HOLD + "spot 1 1;spot 1 1;hold g 9 back;spot 1 1;spot 1 1;joint 5;", 0, 4);
        plane(HOLD + "spot 1 1;spot 2 1;joint 5;joint 6;", 5, 41);
        plane(HOLD + "spot 1 1;spot 2 1;joint 5;hold g 9 back;spot 1 1;spot 2 1;joint 6;", 0, 4);
    }

    private static void cargoes() {
        cargo("", 0, 0);
        cargo("bulk 0;", 0, 0);
        cargo("bulk 198;", 0, 0);
        cargo("pallet a 1 1;pallet b 99 9;bulk 5;", 0, 2);
        cargo("bulk 199;", 2, 5);
        cargo("bulk 1;bulk 1;", 3, 7);
        cargo("pallet a 0 1;", 2, 9);
        cargo("pallet a 100 1;", 2, 9);
        cargo("pallet a 1 0;", 2, 11);
        cargo("pallet a 1 10;", 2, 11);
        cargo("pallet a 1 1;pallet a 1 1;", 3, 20);
        cargo("pallet a 1;", 1, 10);
        cargo("pallet a 1 1", 1, 12);
        cargo("hold a 5 front;", 1, 0);
        cargo("stop;", 1, 0);
        String five = "pallet a 1 1;pallet b 1 1;pallet c 1 1;pallet d 1 1;pallet e 1 1;";
        cargo(five, 0, 5);
        cargo(five + "pallet a 1 1;", 4, five.length());
        cargo(five + "bulk 7;pallet", 4, five.length() + 7);
    }

    private static void lengths() {
        plane("stop;" + " ".repeat(495), 0, 0);
        plane("stop;" + " ".repeat(496), 1, 500);
        plane("!".repeat(540), 1, 500);
        cargo("bulk 5;" + " ".repeat(293), 0, 0);
        cargo("bulk 5;" + " ".repeat(294), 1, 300);
        cargo("!".repeat(540), 1, 300);
    }

    private static void spoilt() {
        for (int i = 0; i < 40000 && !DUE.anyWrong(); i++) {
            Random chance = new Random(i);
            RandomTexts texts = new RandomTexts(chance);
            boolean plane = chance.nextBoolean();
            String text = chance.nextBoolean() ? texts.heap(plane) : texts.spoilt(plane ? texts.plane() : texts.cargo());
            LoadSpans x = new LoadSpans();
            SlowLoader y = new SlowLoader();
            y.tape = text;
            if (plane) {
                DUE.is("plane() of " + text, Texts.plane(x, text), y.plane());
            } else {
                DUE.is("cargo() of " + text, Texts.cargo(x, text), y.cargo());
            }
            DUE.is("fault() of " + text, x.fault(), y.fault);
            for (int what = 0; what < 11; what++) {
                DUE.is("count(" + what + ") behind " + text, x.count(what), y.count(what));
            }
        }
    }
}
