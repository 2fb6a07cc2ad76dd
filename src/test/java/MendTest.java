import java.util.ArrayList;
import java.util.Collections;
import java.util.List;
import java.util.Random;

/**
 * mend(), move(), mended() against the search of SlowLoader, where the limits of SPOTS leave few LOADINGS GOOD, so
 * that PALLETS wait for one another in rings, also with one SPOT or none empty.
 */
public final class MendTest {
    private static final int RUNS = 4000;

    public static void main(String[] args) {
        Due due = new Due("MendTest");
        int[] seen = new int[9];
        for (int i = 0; i < RUNS && !due.anyWrong(); i++) {
            int moves = run(due, new Random(i), "run " + i + ":");
            seen[moves + 1]++;
        }
        for (int moves = -1; moves <= 6; moves++) {
            due.is("mends of " + moves + " moves are tried", seen[moves + 1] > 0, true);
        }
        twoRings(due);
        due.close();
    }

    /** The longest of all: a ring of two and one of three. */
    private static void twoRings(Due due) {
        LoadSpans x = Texts.loader("empty 999 50;span 5 95;hold a 999 front;spot 50 10;spot 50 20;spot 50 30;spot 50 40;"
            + "spot 50 50;spot 50 1;", "pallet a 10 1;pallet b 20 1;pallet c 30 1;pallet d 40 1;pallet e 50 1;");
        int[] spots = {1, 0, 3, 4, 2};
        for (int k = 0; k < 5; k++) {
            x.put(k, spots[k]);
        }
        int[] moves = {5, 11, 0, 25, 33, 44, 22};
        due.is("two rings: mend()", x.mend(), 7);
        for (int i = 0; i < 7; i++) {
            due.is("two rings: move(" + i + ")", x.move(i), moves[i]);
        }
        due.is("two rings: move(7)", x.move(7), -1);
        due.is("two rings: mended()", x.mended(), 7);
        due.is("two rings: why()", x.why(), 0);
    }

    private static int run(Due due, Random chance, String run) {
        int pallets = chance.nextInt(10) == 0 ? 2 : 3 + chance.nextInt(3);
        int spots = Math.min(6, pallets + chance.nextInt(3));
        List<Integer> limits = new ArrayList<>();
        for (int s = 0; s < spots; s++) {
            limits.add(s < pallets || chance.nextInt(3) > 0 ? 10 * (s % pallets + 1) : 1);
        }
        Collections.shuffle(limits, chance);
        StringBuilder plane = new StringBuilder("empty 999 50;span 5 95;");
        int cut = chance.nextInt(spots);
        for (int s = 0; s < spots; s++) {
            if (s == 0 || s == cut) {
                plane.append(s == 0 ? "hold a 999 " : "hold b 999 ").append(chance.nextBoolean() ? "front;" : "back;");
            }
            plane.append("spot 50 ").append(limits.get(s)).append(';');
        }
        StringBuilder cargo = new StringBuilder();
        for (int k = 0; k < pallets; k++) {
            cargo.append("pallet ").append((char) ('a' + k)).append(' ').append(weight(chance, k)).append(' ')
                .append(chance.nextInt(4) == 0 ? 2 : 1).append(';');
        }
        LoadSpans x = new LoadSpans();
        SlowLoader y = new SlowLoader();
        Texts.plane(x, plane.toString());
        Texts.cargo(x, cargo.toString());
        y.tape = plane.toString();
        y.plane();
        y.tape = cargo.toString();
        y.cargo();
        lie(chance, x, y, pallets, spots);
        int moves = y.mend();
        due.is(run + " mend()", x.mend(), moves);
        for (int i = 0; i < 8; i++) {
            due.is(run + " move(" + i + ") of " + y, x.move(i), y.move(i));
        }
        due.is(run + " mended()", x.mended(), y.mended());
        for (int k = 0; k < pallets; k++) {
            due.is(run + " pallet(" + k + ", 2)", x.pallet(k, 2), y.pallet(k, 2));
        }
        return moves;
    }

    private static int weight(Random chance, int k) {
        return chance.nextInt(3) == 0 ? 10 : 10 * (k + 1);
    }

    private static void lie(Random chance, LoadSpans x, SlowLoader y, int pallets, int spots) {
        List<Integer> places = new ArrayList<>();
        for (int s = 0; s < spots; s++) {
            places.add(s);
        }
        Collections.shuffle(places, chance);
        for (int k = 0; k < pallets; k++) {
            if (chance.nextInt(5) > 0) {
                x.put(k, places.get(k));
                y.put(k, places.get(k));
            }
        }
    }
}
