import java.util.Random;

/** Graphs made by a fixed seed are written and read back, whole and with their rows spoilt. */
public final class GraphCourierGraphs {
    private static int wrong = 0;
    private static int faults = 0;
    private static int spoiltButRead = 0;
    private static int written = 0;
    // Both rows are asked for byte by byte, and an object is promised 512 calls.
    private static final int LONGEST_ASKED_FOR = 150;

    private static void due(String what, boolean holds) {
        if (!holds) {
            wrong++;
            System.out.println(what);
        }
    }

    private static long someText(Random dice) {
        long text = 0;
        for (int n = dice.nextInt(3); n > 0; n--) {
            text = text << 8 | 'a' + dice.nextInt(3);
        }
        return text;
    }

    private static long someValue(Random dice, GraphCourier x, int wides) {
        switch (dice.nextInt(8)) {
            case 0:
                return dice.nextInt(4);
            case 1:
                return 16L * (dice.nextInt(1 << 29) - (1 << 28) >> dice.nextInt(29)) + 4;
            case 2:
                return wides > 0 ? 16L * dice.nextInt(wides) + 5 : 1;
            case 3:
                return 16L * someText(dice) + 6;
            default:
                return x.things() > 0 ? 16L * dice.nextInt(x.things()) + 7 : 0;
        }
    }

    private static void makeThings(Random dice, GraphCourier x, int n) {
        for (int i = 0; i < n; i++) {
            switch (dice.nextInt(6)) {
                case 0:
                    x.date(dice.nextLong());
                    break;
                case 1:
                    x.bytes(dice.nextLong(), dice.nextInt(9));
                    break;
                case 2:
                case 3:
                    x.array();
                    break;
                default:
                    long a = 'a' + dice.nextInt(2);
                    long b = dice.nextBoolean() ? 'd' : 0;
                    x.object(x.traits(dice.nextBoolean() ? 0 : 'p', dice.nextBoolean(), a, b, 0));
            }
        }
    }

    private static void tieThings(Random dice, GraphCourier x, int wides, int ties) {
        for (int i = 0; i < ties; i++) {
            int thing = dice.nextInt(x.things());
            long value = someValue(dice, x, wides);
            try {
                switch (dice.nextInt(3)) {
                    case 0:
                        x.append(thing, value);
                        break;
                    case 1:
                        x.set(thing, dice.nextInt(3), value);
                        break;
                    default:
                        x.put(thing, someText(dice), value);
                }
            } catch (IllegalArgumentException | IllegalStateException e) {
                // the thing is of another kind, or full: this tie is not made
            }
        }
    }

    private static void makeGraph(Random dice, GraphCourier x) {
        int wides = dice.nextInt(4);
        for (int k = 0; k < wides; k++) {
            x.wide(dice.nextInt(2));
        }
        x.allow('p');
        makeThings(dice, x, 1 + dice.nextInt(14));
        tieThings(dice, x, wides, 30);
    }

    private static int[] firstBytesOf(GraphCourier x) {
        int[] row = new int[Math.min(x.size(), LONGEST_ASKED_FOR)];
        for (int i = 0; i < row.length; i++) {
            row[i] = x.byteAt(i);
        }
        return row;
    }

    private static void goesRound(Random dice, GraphCourier x, int run) {
        long value = someValue(dice, x, 0);
        int size;
        try {
            size = x.encode(value);
        } catch (IllegalStateException e) {
            return;
        }
        written++;
        int[] row = firstBytesOf(x);
        due("run " + run + ": the answer of encode is the size", size == x.size());
        long back = x.decode();
        due("run " + run + ": read back it is the same", x.same(value, back) && x.same(back, value));
        due("run " + run + ": no fault", x.fault() == -1);
        due("run " + run + ": written again it is as long", x.encode(back) == size);
        due("run " + run + ": the same bytes", java.util.Arrays.equals(row, firstBytesOf(x)));
    }

    private static void isSpoilt(Random dice, GraphCourier x, int run) {
        if (x.size() == 0) {
            return;
        }
        for (int n = 1 + dice.nextInt(2); n > 0; n--) {
            int b = dice.nextBoolean() ? dice.nextInt(256) : dice.nextInt(20);
            x.alter(dice.nextInt(x.size()), b);
        }
        int things = x.things();
        try {
            long value = x.decode();
            spoiltButRead++;
            due("run " + run + ": what is read is a value", x.same(value, value));
            due("run " + run + ": no fault of what is read", x.fault() == -1);
        } catch (IllegalArgumentException e) {
            faults++;
            due("run " + run + ": a place of the row", x.fault() >= 0 && x.fault() <= x.size());
            due("run " + run + ": nothing made", x.things() == things);
        }
    }

    private static void anyBytes(Random dice, int run) {
        GraphCourier x = new GraphCourier();
        int[] likely = {1, 3, 5, 8, 9, 10, 12, 0, 2, 4, 6, 11, 19, 35};
        for (int i = 0; i < 300; i++) {
            x.alter(i, dice.nextInt(10) == 0 ? dice.nextInt(256) : likely[dice.nextInt(likely.length)]);
        }
        isSpoilt(dice, x, run);
    }

    public static void main(String[] args) {
        for (int run = 0; run < 20000; run++) {
            Random dice = new Random(run);
            GraphCourier x = new GraphCourier();
            makeGraph(dice, x);
            goesRound(dice, x, run);
            isSpoilt(dice, x, run);
            anyBytes(dice, run);
        }
        due("graphs were written: " + written, written > 5000);
        due("spoilt rows had faults: " + faults, faults > 5000);
        due("spoilt rows were read: " + spoiltButRead, spoiltButRead > 500);
        System.out.println(wrong == 0 ? "all graphs came through" : wrong + " answers are not as due");
        if (wrong != 0) {
            System.exit(1);
        }
    }
}
