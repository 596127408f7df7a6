import java.util.ArrayList;
import java.util.Arrays;
import java.util.List;

/** Spaces of which it is known what they are, as rows of p, f, q, g, map; and all that one piece makes. */
final class Spaces {
    /** What map tells "each corner to the one of its own number", for side f to side f. */
    static final int[] SAME = {57, 56, 52, 36};

    static final int[] BALL = {};
    static final int[] SPHERE = {0, 0, 0, 1, 56, 0, 2, 0, 3, 36};
    static final int[] LENS_4_1 = {0, 3, 0, 2, 13, 0, 0, 0, 1, 35};
    static final int[] LENS_5_2 = {0, 3, 0, 0, 30, 0, 1, 0, 2, 13};
    static final int[] GIESEKING = {0, 0, 0, 1, 11, 0, 2, 0, 3, 6};
    static final int[] BENT = {0, 0, 0, 1, 44, 0, 2, 0, 3, 9};
    /** Bent, but with a sphere around each corner. */
    static final int[] BENT_ROUND = {0, 1, 0, 3, 18, 0, 2, 0, 0, 30};
    static final int[] TWIN = {0, 0, 1, 0, 57, 0, 1, 1, 1, 56, 0, 2, 1, 2, 52, 0, 3, 1, 3, 36};
    static final int[] SPHERE_BY_CIRCLE = {0, 1, 0, 0, 39, 1, 2, 0, 3, 6, 1, 1, 1, 3, 33, 1, 0, 0, 2, 13};
    static final int[] TWISTED_SPHERE_BY_CIRCLE = {1, 2, 0, 2, 19, 1, 0, 0, 0, 54, 0, 1, 1, 1, 35, 1, 3, 0, 3, 24};
    static final int[] QUATERNIONS = {0, 1, 1, 0, 57, 1, 1, 0, 2, 19, 0, 0, 1, 3, 18, 0, 3, 1, 2, 52};
    static final int[] PROJECTIVE = {0, 0, 1, 1, 56, 1, 0, 0, 3, 18, 1, 2, 0, 2, 49, 1, 3, 0, 1, 11};
    static final int[] PLANE_BY_CIRCLE = {
        1, 3, 2, 2, 19, 1, 0, 2, 0, 30, 0, 1, 2, 1, 44, 1, 1, 0, 2, 13, 1, 2, 0, 3, 9, 2, 3, 0, 0, 27};
    /** One of its least sheets has a number 7, the greatest that there is in any space. */
    static final int[] SEVEN = {0, 2, 1, 2, 52, 0, 3, 2, 3, 36, 1, 0, 1, 1, 11, 1, 3, 2, 0, 57, 2, 1, 2, 2, 28};
    /** No space has more least sheets. */
    static final int[] MOST_LEAST = {0, 3, 1, 3, 36, 1, 0, 1, 1, 14, 1, 2, 2, 2, 52};
    /** The greatest common hole numbers: 5 and 20. */
    static final int[] FIVE_AND_TWENTY = {
        2, 0, 2, 2, 7, 0, 2, 0, 0, 27, 1, 2, 1, 3, 18, 0, 3, 0, 1, 50, 1, 0, 1, 1, 14, 2, 1, 2, 3, 6};

    /** All 18 edges are one class: no way around an edge is longer. */
    static final int[] ONE_EDGE = {
        0, 1, 1, 0, 57, 1, 2, 2, 2, 52, 0, 0, 2, 3, 9, 1, 1, 1, 3, 6, 2, 0, 2, 1, 11, 0, 2, 0, 3, 18};
    /** Least sheets here are found by sums whose numbers all are even; in the second the first number too. */
    static final int[] HALVED = {0, 0, 0, 2, 7, 0, 3, 1, 2, 7, 1, 0, 1, 3, 36};
    static final int[] HALVED_FIRST = {0, 1, 0, 3, 6, 0, 2, 1, 3, 9, 1, 0, 1, 2, 7};

    private Spaces() {
    }

    /** The same gluings for pieces that are numbered higher. */
    static int[] moved(int by, int... glued) {
        int[] made = glued.clone();
        for (int i = 0; i < made.length; i += 5) {
            made[i] += by;
            made[i + 2] += by;
        }
        return made;
    }

    static int[] joined(int[]... spaces) {
        int[] made = {};
        for (int[] glued : spaces) {
            int from = made.length;
            made = Arrays.copyOf(made, from + glued.length);
            System.arraycopy(glued, 0, made, from, glued.length);
        }
        return made;
    }

    /** The six maps onto side g, each as the corners to which those of the other side go, rising. */
    static int[][] onto(int g) {
        int[] c = {g == 0 ? 1 : 0, g <= 1 ? 2 : 1, g <= 2 ? 3 : 2};
        return new int[][] {{c[0], c[1], c[2]}, {c[0], c[2], c[1]}, {c[1], c[0], c[2]},
            {c[1], c[2], c[0]}, {c[2], c[0], c[1]}, {c[2], c[1], c[0]}};
    }

    static int map(int[] corners) {
        return corners[0] + 4 * corners[1] + 16 * corners[2];
    }

    /** Where each corner 0 .. 3 goes, f to g among them. */
    static int[] whole(int f, int g, int[] corners) {
        int[] to = new int[4];
        to[f] = g;
        int next = 0;
        for (int c = 0; c < 4; c++) if (c != f) to[c] = corners[next++];
        return to;
    }

    /** All 145 ways to glue the sides of one piece. */
    static List<int[]> ofOnePiece() {
        List<int[]> all = new ArrayList<>();
        all.add(BALL);
        for (int f = 0; f < 4; f++)
            for (int g = f + 1; g < 4; g++)
                for (int[] corners : onto(g)) {
                    int[] one = {0, f, 0, g, map(corners)};
                    all.add(one);
                    if (f == 0) addSecondPairs(all, one, g);
                }
        return all;
    }

    private static void addSecondPairs(List<int[]> all, int[] one, int g) {
        int f = g == 1 ? 2 : 1;
        int h = 6 - g - f;
        for (int[] corners : onto(h)) all.add(joined(one, new int[] {0, f, 0, h, map(corners)}));
    }
}
