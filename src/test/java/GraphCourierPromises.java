/** For each promise of the document: ordinary calls, the edges that it names, and wrong calls. */
public final class GraphCourierPromises {
    private static final long UNDEFINED = 0, NULL = 1, FALSE = 2, TRUE = 3;
    private static int wrong = 0;

    private interface Call {
        void make();
    }

    private static void due(String what, long got, long want) {
        if (got != want) {
            wrong++;
            System.out.println(what + ": answered " + got + ", due is " + want);
        }
    }

    private static void due(String what, boolean got, boolean want) {
        due(what, got ? 1 : 0, want ? 1 : 0);
    }

    private static void refused(String what, Class<?> want, Call call) {
        Class<?> got = null;
        try {
            call.make();
        } catch (RuntimeException e) {
            got = e.getClass();
        }
        if (got != want) {
            wrong++;
            System.out.println(what + ": threw " + got + ", due is " + want);
        }
    }

    private static void badArgument(String what, Call call) {
        refused(what, IllegalArgumentException.class, call);
    }

    private static void badState(String what, Call call) {
        refused(what, IllegalStateException.class, call);
    }

    private static long text(String letters) {
        long t = 0;
        for (int i = letters.length() - 1; i >= 0; i--) {
            t = t << 8 | letters.charAt(i);
        }
        return t;
    }

    private static long textValue(String letters) {
        return 16 * text(letters) + 6;
    }

    private static long integer(long n) {
        return 16 * n + 4;
    }

    private static long wideValue(long k) {
        return 16 * k + 5;
    }

    private static long thing(long i) {
        return 16 * i + 7;
    }

    private static void tell(GraphCourier x, int... row) {
        x.cut(0);
        for (int i = 0; i < row.length; i++) {
            due("alter(" + i + ")", x.alter(i, row[i]), true);
        }
    }

    private static int[] join(int[] a, int... b) {
        int[] all = java.util.Arrays.copyOf(a, a.length + b.length);
        System.arraycopy(b, 0, all, a.length, b.length);
        return all;
    }

    private static void rowIs(String what, GraphCourier x, int... row) {
        due(what + ", size", x.size(), row.length);
        for (int i = 0; i < row.length; i++) {
            due(what + ", byte " + i, x.byteAt(i), row[i]);
        }
    }

    private static void faultAt(String what, GraphCourier x, int place, int... row) {
        tell(x, row);
        int things = x.things();
        badArgument(what, x::decode);
        due(what + ", place", x.fault(), place);
        due(what + ", nothing made", x.things(), things);
    }

    private static void reads(String what, GraphCourier x, long value, int... row) {
        tell(x, row);
        try {
            due(what, x.decode(), value);
        } catch (IllegalArgumentException e) {
            wrong++;
            System.out.println(what + ": fault at " + x.fault());
        }
        due(what + ", no fault", x.fault(), -1);
    }

    private static GraphCourier withThings(int n) {
        GraphCourier x = new GraphCourier();
        for (int i = 0; i < n; i++) {
            x.date(i);
        }
        return x;
    }

    /** Arrays 0 .. n - 1, each the only item of the one before it. */
    private static GraphCourier withNest(int n) {
        GraphCourier x = new GraphCourier();
        for (int i = 0; i < n; i++) {
            x.array();
            if (i > 0) {
                x.append(i - 1, thing(i));
            }
        }
        return x;
    }

    /** The row of arrays, each the only item of the one before it, up to where the last one's items stand. */
    private static int[] nestRow(int n) {
        int[] row = new int[0];
        for (int i = 0; i < n; i++) {
            row = join(row, 9, 3, 1);
        }
        return row;
    }

    private static void newObject() {
        GraphCourier x = new GraphCourier();
        due("new: things", x.things(), 0);
        due("new: size", x.size(), 0);
        due("new: fault", x.fault(), -1);
        due("new: bits", x.bits(0), 0);
        due("new: kind", x.kind(0), -1);
        due("new: byteAt", x.byteAt(0), -1);
        badArgument("new: object", () -> x.object(0));
        badArgument("new: encode of a wide", () -> x.encode(wideValue(0)));
        badArgument("new: encode of a thing", () -> x.encode(thing(0)));
        due("new: the empty text is allowed", x.allow(0), false);
        faultAt("new: no other name is", x, 2, 10, 3, 3, 'a');
        reads("new: the empty name", x, thing(0), 10, 3, 1);
    }

    private static void wide() {
        GraphCourier x = new GraphCourier();
        for (int k = 0; k < 40; k++) {
            due("wide " + k, x.wide(Long.MIN_VALUE + k), wideValue(k));
        }
        badState("wide 40", () -> x.wide(0));
        due("bits(39)", x.bits(39), Long.MIN_VALUE + 39);
        due("bits(40)", x.bits(40), 0);
        due("wides are no things", x.things(), 0);
    }

    private static void date() {
        GraphCourier x = new GraphCourier();
        for (int i = 0; i < 40; i++) {
            due("date " + i, x.date(-i), thing(i));
        }
        badState("date 40", () -> x.date(0));
        due("things after 40 dates", x.things(), 40);
        due("bits of date 39", x.item(39, 0), -39);
    }

    private static void bytes() {
        GraphCourier x = new GraphCourier();
        due("bytes", x.bytes(0x88_77_66_55_44_33_22_FFL, 8), thing(0));
        due("count of 8", x.count(0), 8);
        due("first byte", x.item(0, 0), integer(255));
        due("last byte", x.item(0, 7), integer(0x88));
        due("no bytes", x.bytes(-1, 0), thing(1));
        due("count of none", x.count(1), 0);
        due("the lowest alone", x.bytes(-1, 1), thing(2));
        due("same as its lowest", x.same(thing(2), x.bytes(255, 1)), true);
        badArgument("bytes 9", () -> x.bytes(0, 9));
        badArgument("bytes -1", () -> x.bytes(0, -1));
        GraphCourier full = withThings(40);
        badState("bytes when full", () -> full.bytes(0, 1));
        badArgument("bytes 9 when full", () -> full.bytes(0, 9));
    }

    private static void array() {
        GraphCourier x = withThings(39);
        due("array", x.array(), thing(39));
        due("its kind", x.kind(39), GraphCourier.ARRAY);
        due("its items", x.count(39), 0);
        due("its pairs", x.pairs(39), 0);
        badState("array when full", x::array);
    }

    private static void traits() {
        GraphCourier x = new GraphCourier();
        long a = text("a"), b = text("b"), c = text("c");
        due("first", x.traits(a, true, a, b, c), 0);
        due("other order", x.traits(a, true, a, c, b), 1);
        due("not dynamic", x.traits(a, false, a, b, c), 2);
        due("other name", x.traits(0, true, a, b, c), 3);
        due("fewer members", x.traits(a, true, a, b, 0), 4);
        due("no members", x.traits(a, true, 0, 0, 0), 5);
        due("first again", x.traits(a, true, a, b, c), 0);
        due("fifth again", x.traits(a, true, a, b, 0), 4);
        due("seven letters", x.traits(text("abcdefg"), true, text("~~~~~~~"), 1, 126), 6);
        badArgument("behind an empty one, b", () -> x.traits(a, true, 0, b, 0));
        badArgument("behind an empty one, c", () -> x.traits(a, true, a, 0, c));
        badArgument("behind two empty ones", () -> x.traits(a, true, 0, 0, c));
        badArgument("a = b", () -> x.traits(a, true, a, a, 0));
        badArgument("a = c", () -> x.traits(a, true, a, b, a));
        badArgument("b = c", () -> x.traits(a, true, a, b, b));
        badArgument("no text: letter 127", () -> x.traits(127, true, 0, 0, 0));
        badArgument("no text: a gap", () -> x.traits(a, true, 0x6100, 0, 0));
        badArgument("no text: inner gap", () -> x.traits(a, true, 0x610061, 0, 0));
        badArgument("no text: eight letters", () -> x.traits(a, true, a, 0x6161616161616161L, 0));
        badArgument("no text: below 0", () -> x.traits(a, true, a, b, -1));
        for (int i = 7; i < 12; i++) {
            due("traits " + i, x.traits(a, false, 100 + i, 0, 0), i);
        }
        badState("a thirteenth", () -> x.traits(b, true, 0, 0, 0));
        badArgument("a thirteenth with a fault", () -> x.traits(b, true, 0, a, 0));
        due("one of the twelve", x.traits(a, true, a, c, b), 1);
        due("the last of the twelve", x.traits(a, false, 111, 0, 0), 11);
    }

    private static void object() {
        GraphCourier x = withThings(39);
        x.traits(0, false, text("a"), text("b"), 0);
        badArgument("traits 1", () -> x.object(1));
        badArgument("traits -1", () -> x.object(-1));
        due("object", x.object(0), thing(39));
        due("its kind", x.kind(39), GraphCourier.OBJECT);
        due("its items", x.count(39), 2);
        due("item 0", x.item(39, 0), UNDEFINED);
        due("item 1", x.item(39, 1), UNDEFINED);
        due("no item 2", x.item(39, 2), -1);
        badState("object when full", () -> x.object(0));
        badArgument("no traits when full", () -> x.object(1));
        x.set(39, 0, TRUE);
        x.clear();
        x.traits(0, false, text("a"), 0, 0);
        x.object(0);
        due("a new object is new after clear", x.item(0, 0), UNDEFINED);
    }

    private static void append() {
        GraphCourier x = new GraphCourier();
        x.array();
        x.date(0);
        x.bytes(0, 2);
        x.traits(0, true, 0, 0, 0);
        x.object(0);
        for (int i = 0; i < 8; i++) {
            due("append " + i, x.append(0, integer(i)), i + 1);
        }
        badState("append 8", () -> x.append(0, NULL));
        badArgument("no value when full", () -> x.append(0, 8));
        due("its last", x.item(0, 7), integer(7));
        for (int i = -1; i <= 4; i++) {
            int other = i;
            if (i != 0) {
                badArgument("append to " + i, () -> x.append(other, NULL));
            }
        }
    }

    /** What is a value, at every call that takes one. */
    private static void values() {
        GraphCourier x = new GraphCourier();
        x.wide(0);
        x.array();
        long[] good = {0, 1, 2, 3, integer(0), integer(268435455), integer(-268435456), wideValue(0),
            textValue(""), textValue("abcdefg"), textValue("~"), thing(0)};
        for (long value : good) {
            x.clear();
            x.wide(0);
            x.array();
            due("append " + value, x.append(0, value), 1);
            due("put " + value, x.put(0, text("k"), value), 1);
            x.set(0, 0, value);
            due("item " + value, x.item(0, 0), value);
            due("same " + value, x.same(value, value), true);
        }
        long[] bad = {16, 17, 18, 19, -16, -15, integer(268435456), integer(-268435457), wideValue(1),
            wideValue(-1), 16L * 127 + 6, 16L * 0x6100 + 6, 16L * 0x61616161616161L * 256 + 6, -10,
            16 * (text("abcdefg") | 1L << 56) + 6, thing(1), thing(-1), thing(1L << 32), wideValue(1L << 32),
            8, 9, 10, 11, 12, 13, 14, 15, -1};
        for (long value : bad) {
            badArgument("append " + value, () -> x.append(0, value));
            badArgument("set " + value, () -> x.set(0, 0, value));
            badArgument("put " + value, () -> x.put(0, text("k"), value));
            badArgument("encode " + value, () -> x.encode(value));
            due("same " + value, x.same(value, value), false);
        }
    }

    private static void set() {
        GraphCourier x = new GraphCourier();
        x.traits(0, false, text("a"), 0, 0);
        x.array();
        x.object(0);
        x.bytes(7, 1);
        x.date(0);
        x.append(0, NULL);
        x.set(0, 0, thing(0));
        due("set in an array", x.item(0, 0), thing(0));
        x.set(1, 0, TRUE);
        due("set in an object", x.item(1, 0), TRUE);
        badArgument("array item 1", () -> x.set(0, 1, NULL));
        badArgument("array item -1", () -> x.set(0, -1, NULL));
        badArgument("object item 1", () -> x.set(1, 1, NULL));
        badArgument("bytes", () -> x.set(2, 0, integer(1)));
        badArgument("date", () -> x.set(3, 0, integer(1)));
        badArgument("no thing 4", () -> x.set(4, 0, NULL));
        badArgument("no thing -1", () -> x.set(-1, 0, NULL));
        due("bytes stay", x.item(2, 0), integer(7));
    }

    private static void put() {
        GraphCourier x = new GraphCourier();
        x.traits(0, true, text("m"), 0, 0);
        x.traits(0, false, text("m"), 0, 0);
        x.array();
        x.object(0);
        x.object(1);
        x.date(0);
        x.bytes(0, 0);
        for (int holder = 0; holder < 2; holder++) {
            int h = holder;
            for (int i = 0; i < 6; i++) {
                due("put " + i, x.put(h, 'a' + i, integer(i)), i + 1);
            }
            due("put again", x.put(h, 'c', thing(0)), 6);
            due("in its place", x.pair(h, 2, false), thing(0));
            due("others stay", x.pair(h, 5, false), integer(5));
            badState("a seventh", () -> x.put(h, 'z', NULL));
            badArgument("a seventh that is no value", () -> x.put(h, 'z', 8));
            badArgument("a seventh that is empty", () -> x.put(h, 0, NULL));
            badArgument("no text", () -> x.put(h, 127, NULL));
            due("six stay", x.pairs(h), 6);
        }
        badArgument("a member", () -> x.put(1, 'm', NULL));
        badArgument("not dynamic", () -> x.put(2, 'a', NULL));
        badArgument("a date", () -> x.put(3, 'a', NULL));
        badArgument("bytes", () -> x.put(4, 'a', NULL));
        badArgument("no thing 5", () -> x.put(5, 'a', NULL));
        badArgument("no thing -1", () -> x.put(-1, 'a', NULL));
        GraphCourier y = new GraphCourier();
        y.array();
        due("an array has no members", y.put(0, 'm', NULL), 1);
    }

    private static void allow() {
        GraphCourier x = new GraphCourier();
        due("no text", x.allow(127), false);
        due("no text: below 0", x.allow(-1), false);
        due("empty", x.allow(0), false);
        for (int i = 0; i < 6; i++) {
            due("name " + i, x.allow('a' + i), true);
            due("name " + i + " again", x.allow('a' + i), false);
        }
        due("a seventh", x.allow('z'), false);
        faultAt("a seventh is not read", x, 2, 10, 3, 3, 'z');
        reads("a sixth is", x, thing(0), 10, 3, 3, 'f');
    }

    private static void encodeNumbers() {
        GraphCourier x = new GraphCourier();
        int[][] rows = {{0, 4, 0}, {127, 4, 127}, {128, 4, 129, 0}, {16383, 4, 255, 127},
            {16384, 4, 129, 128, 0}, {2097151, 4, 255, 255, 127}, {2097152, 4, 128, 192, 128, 0},
            {19088743, 4, 132, 198, 197, 103}, {268435455, 4, 191, 255, 255, 255}, {-1, 4, 255, 255, 255, 255},
            {-268435456, 4, 192, 128, 128, 0}};
        for (int[] row : rows) {
            int[] written = java.util.Arrays.copyOfRange(row, 1, row.length);
            due("encode " + row[0], x.encode(integer(row[0])), written.length);
            rowIs("encode " + row[0], x, written);
            due("decode " + row[0], x.decode(), integer(row[0]));
        }
    }

    private static void encodeEach() {
        GraphCourier x = new GraphCourier();
        for (int i = 0; i < 4; i++) {
            due("encode " + i, x.encode(i), 1);
            rowIs("encode " + i, x, i);
        }
        x.wide(0x0102030405060780L);
        x.encode(wideValue(0));
        rowIs("wide", x, 5, 1, 2, 3, 4, 5, 6, 7, 128);
        x.date(-2);
        x.encode(thing(0));
        rowIs("date", x, 8, 1, 255, 255, 255, 255, 255, 255, 255, 254);
        x.bytes(0xFE02, 2);
        x.encode(thing(1));
        rowIs("bytes", x, 12, 5, 2, 254);
        x.encode(textValue("ab"));
        rowIs("text", x, 6, 5, 'a', 'b');
        x.encode(textValue(""));
        rowIs("empty text", x, 6, 1);
        x.encode(textValue("\1\1\1\1\1\1\1"));
        rowIs("lowest letters", x, 6, 15, 1, 1, 1, 1, 1, 1, 1);
        x.array();
        x.append(2, textValue("ab"));
        x.append(2, thing(0));
        x.append(2, thing(1));
        x.append(2, thing(0));
        x.append(2, thing(1));
        x.append(2, textValue(""));
        x.append(2, textValue("ab"));
        x.put(2, text("ab"), thing(2));
        x.encode(thing(2));
        rowIs("array", x, 9, 15, 5, 'a', 'b', 9, 0, 1, 6, 0, 8, 1, 255, 255, 255, 255, 255, 255, 255, 254,
            12, 5, 2, 254, 8, 2, 12, 4, 6, 1, 6, 0);
    }

    private static void encodeObjects() {
        GraphCourier x = new GraphCourier();
        x.traits(text("n"), true, text("a"), text("n"), 0);
        x.traits(0, false, text("a"), 0, 0);
        for (int i = 0; i < 4; i++) {
            x.object(i % 2);
        }
        x.put(0, text("b"), thing(1));
        x.put(0, text("c"), thing(2));
        x.put(0, text("d"), thing(3));
        x.set(0, 1, thing(0));
        x.encode(thing(0));
        rowIs("object", x, 10, 43, 3, 'n', 3, 'a', 0, 0, 10, 0,
            3, 'b', 10, 19, 1, 2, 0, 3, 'c', 10, 1, 0, 0, 1, 3, 'd', 10, 5, 0, 1);
    }

    private static void encodeLimits() {
        GraphCourier x = withNest(12);
        due("twelve arrays", x.encode(thing(0)), 36);
        x.append(11, thing(0));
        due("a ring of twelve", x.encode(thing(0)), 38);
        x.set(11, 0, textValue("a"));
        due("a text inside of twelve", x.encode(thing(0)), 39);
        x.date(0);
        x.set(11, 0, thing(12));
        badState("a date inside of twelve", () -> x.encode(thing(0)));
        due("the row stays", x.size(), 39);
        due("the row's bytes stay", x.byteAt(38), 'a');
        due("from the second on it can be written", x.encode(thing(1)), 43);
        x.put(0, text("k"), thing(12));
        due("inside of twelve, but told before", x.encode(thing(0)), 50);
        GraphCourier y = withNest(13);
        badState("thirteen arrays", () -> y.encode(thing(0)));
        due("nothing written", y.size(), 0);
    }

    private static void encodeLimitsOfPairs() {
        GraphCourier x = new GraphCourier();
        x.traits(0, true, text("m"), 0, 0);
        for (int i = 0; i < 13; i++) {
            x.array();
            if (i > 0) {
                x.put(i - 1, text("k"), thing(i));
            }
        }
        due("twelve by pairs", x.encode(thing(1)), 48);
        badState("thirteen by pairs", () -> x.encode(thing(0)));
        x.clear();
        x.traits(0, true, text("m"), 0, 0);
        for (int i = 0; i < 13; i++) {
            x.object(0);
            if (i > 6) {
                x.put(i - 1, text("k"), thing(i));
            } else if (i > 0) {
                x.set(i - 1, 0, thing(i));
            }
        }
        due("twelve objects", x.encode(thing(1)), 53);
        badState("thirteen objects", () -> x.encode(thing(0)));
    }

    private static void encodeLongest() {
        GraphCourier x = new GraphCourier();
        x.wide(0);
        x.array();
        for (int i = 1; i <= 8; i++) {
            x.array();
            x.append(0, thing(i));
            for (int k = 0; k < 8; k++) {
                x.append(i, i <= 5 ? wideValue(0) : integer(-1));
            }
        }
        // 3 bytes for each array, 9 for each wide number, 5 for each integer
        due("27 + 40 * 9 + 24 * 5", x.encode(thing(0)), 507);
        for (int i = 0; i < 6; i++) {
            x.put(0, text("longke" + (char) ('a' + i)), integer(-1));
        }
        x.put(1, text("longkea"), integer(-1));
        x.put(2, text("longkea"), integer(-1));
        due("and 6 * 13 + 2 * 6", x.encode(thing(0)), 597);
        x.put(3, text("longkea"), integer(127));
        due("and 3", x.encode(thing(0)), 600);
        due("it is full", x.alter(600, 1), false);
        x.clear();
        due("decode of 600", x.decode(), thing(0));
        due("encode of that", x.encode(thing(0)), 600);
        x.put(3, text("longkea"), integer(128));
        badState("601", () -> x.encode(thing(0)));
        due("the row of 600 stays", x.size(), 600);
        due("and its last byte", x.byteAt(599), 255);
        x.put(3, text("longkea"), integer(126));
        due("600 again", x.encode(thing(0)), 600);
    }

    private static void decodeValues() {
        GraphCourier x = new GraphCourier();
        for (int i = 0; i < 4; i++) {
            reads("byte " + i, x, i, i, 77);
        }
        reads("more bytes than it needs, 2", x, integer(5), 4, 128, 5);
        reads("more bytes than it needs, 4", x, integer(5), 4, 128, 128, 128, 5);
        reads("a text with such a number", x, textValue("a"), 6, 128, 128, 3, 'a');
        reads("wide", x, wideValue(0), 5, 255, 0, 0, 0, 0, 0, 0, 1);
        due("its bits", x.bits(0), 0xFF00000000000001L);
        reads("date", x, thing(0), 8, 1, 128, 0, 0, 0, 0, 0, 0, 2);
        due("its bits", x.item(0, 0), 0x8000000000000002L);
        reads("bytes", x, thing(1), 12, 5, 255, 0);
        due("byte 0", x.item(1, 0), integer(255));
        due("byte 1", x.item(1, 1), integer(0));
        reads("array", x, thing(2), 9, 5, 3, 'a', 3, 3, 'b', 9, 0, 1, 6, 2, 9, 1, 1);
        due("pairs", x.pairs(2), 2);
        due("key 0", x.pair(2, 0, true), 'a');
        due("value 0", x.pair(2, 0, false), TRUE);
        due("value 1", x.pair(2, 1, false), thing(2));
        due("item 0", x.item(2, 0), textValue("b"));
        due("item 1", x.item(2, 1), thing(3));
        reads("a text told twice comes twice", x, thing(4), 9, 9, 1, 6, 3, 'a', 6, 3, 'a', 6, 3, 'b', 6, 4);
        due("place 2 is the third", x.item(4, 3), textValue("b"));
        reads("each wide is new", x, thing(5), 9, 5, 1, 5, 0, 0, 0, 0, 0, 0, 0, 9, 5, 0, 0, 0, 0, 0, 0, 0, 9);
        due("first", x.item(5, 0), wideValue(1));
        due("second", x.item(5, 1), wideValue(2));
    }

    private static void decodeTraits() {
        GraphCourier x = new GraphCourier();
        x.allow('n');
        x.traits('n', true, 'b', 'a', 0);
        reads("new traits", x, thing(0), 10, 43, 3, 'n', 3, 'a', 3, 'b', 2, 3, 3, 'c', 1, 1);
        due("they are 1", x.traitsOf(0), 1);
        due("their order", x.traits('n', true, 'a', 'b', 0), 1);
        due("item 0", x.item(0, 0), FALSE);
        due("item 1", x.item(0, 1), TRUE);
        due("pair", x.pair(0, 0, true), 'c');
        reads("traits that are there", x, thing(1), 10, 43, 3, 'n', 3, 'b', 3, 'a', 2, 3, 1);
        due("they are 0", x.traitsOf(1), 0);
        reads("told twice they come twice", x, thing(2),
            9, 9, 1, 10, 3, 1, 10, 3, 1, 10, 11, 1, 1, 10, 9, 1);
        due("first", x.traitsOf(3), 2);
        due("second", x.traitsOf(4), 2);
        due("third", x.traitsOf(5), 3);
        due("place 2 is the third", x.traitsOf(6), 3);
    }

    private static void decodeManyTexts() {
        GraphCourier x = new GraphCourier();
        int[] row = new int[0];
        for (int i = 0; i < 17; i++) {
            // array 0 has two items: arrays 1 .. 8, each inside of the one before, and 9 .. 16 likewise
            row = join(row, 9, i == 0 ? 5 : i == 8 ? 1 : 3);
            for (int k = 0; k < 6; k++) {
                row = join(row, 3, 'a' + k, 6, 3, 'g' + k);
            }
            row = join(row, 1);
        }
        // 17 arrays with 12 texts each, all told in full: the last one stands at place 203
        row = join(row, 6, 128 + 406 / 128, 406 % 128);
        reads("place 203", x, thing(0), row);
        due("it is the last text", x.item(16, 0), textValue("l"));
    }

    private static void decodeUndone() {
        GraphCourier x = new GraphCourier();
        int[] row = {9, 9, 3, 'k', 5, 1, 1, 1, 1, 1, 1, 1, 1, 1, 10, 19, 1, 3, 'a', 0, 12, 3, 7, 8, 1, 0, 0, 0, 0,
            0, 0, 0, 9};
        faultAt("all but the last", x, row.length, row);
        due("no wide", x.bits(0), 0);
        due("first wide", x.wide(3), wideValue(0));
        due("first traits", x.traits('z', true, 0, 0, 0), 0);
        due("first thing", x.array(), thing(0));
        due("no items", x.count(0), 0);
        due("no pairs", x.pairs(0), 0);
        reads("whole", x, thing(1), join(row, 0));
        due("traits then", x.traitsOf(2), 1);
        due("wide then", x.pair(1, 0, false), wideValue(1));
        due("date then", x.item(4, 0), 9);
        due("bytes then", x.item(3, 0), integer(7));
    }

    private static void faultEnds() {
        GraphCourier x = new GraphCourier();
        x.allow('n');
        int[] row = {9, 11, 3, 'k', 5, 1, 1, 1, 1, 1, 1, 1, 1, 1, 10, 27, 3, 'n', 3, 'a', 0, 3, 'b', 1, 1,
            12, 5, 7, 7, 8, 1, 0, 0, 0, 0, 0, 0, 0, 9, 6, 128, 128, 4, 4, 255, 255, 255, 255};
        faultAt("empty row", x, 0);
        for (int n = 0; n < row.length; n++) {
            faultAt("cut at " + n, x, n, java.util.Arrays.copyOf(row, n));
        }
        tell(x, row);
        due("the whole row", x.decode(), thing(0));
        due("a text by its place", x.item(0, 3), textValue("a"));
        due("fault() is -1 again", x.fault(), -1);
        faultAt("once more", x, 1, 9);
        x.encode(0);
        x.clear();
        due("it is the latest decode's", x.fault(), 1);
    }

    private static void faultKinds() {
        GraphCourier x = new GraphCourier();
        for (int kind : new int[] {7, 11, 13, 14, 15, 16, 128, 255}) {
            faultAt("kind " + kind, x, 0, kind, 1, 1);
            faultAt("inner kind " + kind, x, 3, 9, 3, 1, kind, 1);
        }
        for (int k = 0; k < 39; k++) {
            x.wide(0);
        }
        int[] wide = {5, 0, 0, 0, 0, 0, 0, 0, 0};
        faultAt("a wide too many", x, 12, join(join(new int[] {9, 5, 1}, wide), wide));
        faultAt("a wide too many, cut short", x, 12, join(join(new int[] {9, 5, 1}, wide), 5));
        reads("the fortieth", x, wideValue(39), wide);
        faultAt("the next", x, 0, wide);
        GraphCourier full = withThings(40);
        for (int kind : new int[] {8, 9, 10, 12}) {
            faultAt("full, " + kind, full, 0, kind, 1, 1, 1);
            faultAt("full, before the number is looked at", full, 0, kind, 255, 255, 255, 255);
            faultAt("full, number cut short", full, 2, kind, 255);
            faultAt("full, a place", full, 1, kind, 0);
        }
        GraphCourier near = withThings(38);
        faultAt("a thing too many", near, 6, 9, 5, 1, 9, 1, 1, 9, 1, 1);
        reads("forty", near, thing(38), 9, 5, 1, 9, 1, 1, 9, 2);
    }

    private static void faultDepth() {
        GraphCourier x = new GraphCourier();
        int[] twelve = nestRow(12);
        for (int kind : new int[] {8, 9, 10, 12}) {
            faultAt("inside of twelve, " + kind, x, 36, join(twelve, kind, 1, 1, 1));
            faultAt("before the number is looked at", x, 36, join(twelve, kind, 255, 255, 255, 255));
            faultAt("number cut short", x, 38, join(twelve, kind, 255));
        }
        faultAt("a wrong place inside of twelve", x, 37, join(twelve, 9, 24));
        reads("a place inside of twelve", x, thing(0), join(twelve, 9, 22));
        due("the twelfth holds itself", x.item(11, 0), thing(11));
        x.clear();
        reads("things that are complete do not count", x, thing(0),
            join(join(new int[] {9, 5, 1, 9, 1, 1}, nestRow(10)), 9, 1, 1));
        x.clear();
        faultAt("inside by a pair", x, 37, join(join(new int[] {9, 1, 3, 'k'}, nestRow(11)), 9, 1, 1));
        faultAt("inside of an object", x, 38, join(join(new int[] {10, 19, 1, 3, 'k'}, nestRow(11)), 9, 1, 1));
    }

    private static void faultNumbers() {
        GraphCourier x = new GraphCourier();
        for (int kind : new int[] {8, 9, 10, 12}) {
            faultAt("no such place, " + kind, x, 1, kind, 0);
            faultAt("no such place, long number, " + kind, x, 4, 9, 3, 1, kind, 128, 128, 2);
            if (kind != 9) {
                faultAt("another kind, " + kind, x, 4, 9, 3, 1, kind, 0);
            }
        }
        faultAt("date 3", x, 1, 8, 3, 0, 0, 0, 0, 0, 0, 0, 0);
        faultAt("bytes 9", x, 1, 12, 19, 0, 0, 0, 0, 0, 0, 0, 0, 0);
        faultAt("bytes 9, cut short", x, 1, 12, 19);
        faultAt("array 9", x, 1, 9, 19);
        faultAt("array, many", x, 1, 9, 255, 255, 255, 255);
        reads("bytes 8", x, thing(0), 12, 17, 0, 0, 0, 0, 0, 0, 0, 0);
        reads("array 8", x, thing(1), 9, 17, 1, 0, 0, 0, 0, 0, 0, 0, 0);
        faultAt("object 7", x, 1, 10, 7, 1);
        faultAt("object 15", x, 1, 10, 15, 1);
        faultAt("object 67: four members", x, 1, 10, 67, 1);
        faultAt("object 75: four members", x, 1, 10, 75, 1);
        faultAt("object 5: no traits at place 1", x, 7, 9, 5, 1, 10, 3, 1, 10, 5);
        reads("object 51: three members", x, thing(2), 10, 51, 1, 3, 'a', 3, 'b', 3, 'c', 1, 2, 3);
        due("its items", x.item(2, 2), TRUE);
    }

    private static void faultFullTraits() {
        GraphCourier x = new GraphCourier();
        for (int i = 0; i < 11; i++) {
            x.traits(0, false, 'a' + i, 0, 0);
        }
        faultAt("the thirteenth traits", x, 8, 9, 5, 1, 10, 11, 1, 1, 10, 3, 1);
        reads("twelve", x, thing(0), 10, 11, 1, 1);
        due("these are 11", x.traitsOf(0), 11);
        faultAt("new ones", x, 1, 10, 3, 1);
        faultAt("a fault in them comes first", x, 3, 10, 19, 1, 1);
        faultAt("cut short comes first", x, 3, 10, 19, 1);
        reads("alike ones", x, thing(1), 10, 19, 1, 3, 'k', 0);
        due("these are 10", x.traitsOf(1), 10);
    }

    private static void faultStrings() {
        GraphCourier x = new GraphCourier();
        faultAt("eight letters", x, 1, 6, 17);
        faultAt("letter 0", x, 1, 6, 3, 0);
        faultAt("letter 127", x, 1, 6, 5, 'a', 127);
        faultAt("letter 255", x, 1, 6, 5, 255, 'a');
        faultAt("letter 0, cut short", x, 3, 6, 5, 0);
        faultAt("a place", x, 1, 6, 0);
        faultAt("a place behind the list", x, 7, 9, 5, 1, 6, 3, 'a', 6, 2);
        faultAt("the empty text is in no list", x, 6, 9, 5, 1, 6, 1, 6, 0);
        reads("seven letters", x, textValue("abcde~\1"), 6, 15, 'a', 'b', 'c', 'd', 'e', 126, 1);
        faultAt("a name", x, 2, 10, 19, 3, 'n', 1);
        faultAt("an empty member", x, 3, 10, 19, 1, 1);
        faultAt("a member twice", x, 5, 10, 35, 1, 3, 'a', 0);
        faultAt("a member twice, told in full", x, 5, 10, 35, 1, 3, 'a', 3, 'a');
        faultAt("a key twice", x, 5, 9, 1, 3, 'a', 0, 0, 0, 1);
        faultAt("a key that is a member", x, 6, 10, 27, 1, 3, 'a', 0, 0, 0, 1);
        int[] six = {9, 1, 3, 'a', 0, 3, 'b', 0, 3, 'c', 0, 3, 'd', 0, 3, 'e', 0, 3, 'f', 0};
        faultAt("a seventh key", x, 20, join(six, 3, 'g', 0, 1));
        reads("six keys", x, thing(0), join(six, 1));
        due("pairs", x.pairs(0), 6);
        reads("a key may be a name", x, thing(1), 10, 11, 1, 3, 'a', 0, 1);
    }

    private static void row() {
        GraphCourier x = new GraphCourier();
        due("alter(1) of an empty row", x.alter(1, 0), false);
        due("alter(-1)", x.alter(-1, 0), false);
        due("alter to 256", x.alter(0, 256), false);
        due("alter to -1", x.alter(0, -1), false);
        due("size stays", x.size(), 0);
        for (int i = 0; i < 600; i++) {
            due("alter " + i, x.alter(i, i % 256), true);
        }
        due("alter 600", x.alter(600, 0), false);
        due("size", x.size(), 600);
        due("byteAt(255)", x.byteAt(255), 255);
        due("byteAt(599)", x.byteAt(599), 599 % 256);
        due("byteAt(600)", x.byteAt(600), -1);
        due("byteAt(-1)", x.byteAt(-1), -1);
        due("alter inside", x.alter(3, 200), true);
        due("size then", x.size(), 600);
        due("byteAt(3)", x.byteAt(3), 200);
        due("cut(601)", x.cut(601), false);
        due("cut(-1)", x.cut(-1), false);
        due("cut(600)", x.cut(600), true);
        due("size after cut(600)", x.size(), 600);
        due("cut(4)", x.cut(4), true);
        due("size after cut(4)", x.size(), 4);
        due("byteAt(4) is cut", x.byteAt(4), -1);
        due("byteAt(3) is not", x.byteAt(3), 200);
        due("cut(5)", x.cut(5), false);
        due("cut(0)", x.cut(0), true);
        due("size after cut(0)", x.size(), 0);
    }

    private static void looks() {
        GraphCourier x = new GraphCourier();
        x.traits(0, true, 'm', 'n', 0);
        x.date(-1);
        x.bytes(0x0102, 2);
        x.array();
        x.object(0);
        x.append(2, TRUE);
        x.put(2, 'k', FALSE);
        x.put(3, 'k', NULL);
        int[] kinds = {GraphCourier.DATE, GraphCourier.BYTES, GraphCourier.ARRAY, GraphCourier.OBJECT, -1};
        int[] counts = {0, 2, 1, 2, -1};
        int[] pairs = {0, 0, 1, 1, 0};
        int[] traits = {-1, -1, -1, 0, -1};
        long[] items = {-1, integer(2), TRUE, UNDEFINED, -1};
        for (int i = 0; i <= 4; i++) {
            due("kind " + i, x.kind(i), kinds[i]);
            due("count " + i, x.count(i), counts[i]);
            due("pairs " + i, x.pairs(i), pairs[i]);
            due("traitsOf " + i, x.traitsOf(i), traits[i]);
            due("item " + i, x.item(i, 0), items[i]);
            due("item behind " + i, x.item(i, 2), -1);
            due("item before " + i, x.item(i, -1), -1);
            due("no key behind " + i, x.pair(i, pairs[i], true), -1);
            due("no value behind " + i, x.pair(i, pairs[i], false), -1);
            due("no pair before " + i, x.pair(i, -1, true), -1);
        }
        x.set(3, 0, x.date(5));
        due("bits of a date", x.item(4, 0), 5);
        due("no item 1 of a date", x.item(4, 1), -1);
        due("things", x.things(), 5);
        due("key", x.pair(2, 0, true), 'k');
        due("value", x.pair(2, 0, false), FALSE);
        for (int none : new int[] {-1, 5, Integer.MAX_VALUE, Integer.MIN_VALUE}) {
            due("kind " + none, x.kind(none), -1);
            due("count " + none, x.count(none), -1);
            due("item " + none, x.item(none, 0), -1);
            due("pairs " + none, x.pairs(none), 0);
            due("pair " + none, x.pair(none, 0, true), -1);
            due("traitsOf " + none, x.traitsOf(none), -1);
            due("bits " + none, x.bits(none), 0);
        }
        x.wide(-7);
        due("bits(0)", x.bits(0), -7);
        due("bits(1)", x.bits(1), 0);
    }

    private static void sameValues() {
        GraphCourier x = new GraphCourier();
        due("kinds 0 and 1", x.same(UNDEFINED, NULL), false);
        due("integers", x.same(integer(-3), integer(-3)), true);
        due("other integers", x.same(integer(-3), integer(3)), false);
        due("texts", x.same(textValue("ab"), textValue("ab")), true);
        due("other texts", x.same(textValue("ab"), textValue("a")), false);
        due("wides that are not there", x.same(wideValue(0), wideValue(0)), false);
        x.wide(1);
        x.wide(1);
        x.wide(2);
        due("wides", x.same(wideValue(0), wideValue(1)), true);
        due("other wides", x.same(wideValue(0), wideValue(2)), false);
        due("a value and none", x.same(NULL, 17), false);
        due("none and a value", x.same(17, NULL), false);
        x.date(1);
        x.date(1);
        x.date(2);
        x.bytes(1, 1);
        x.bytes(1, 2);
        x.bytes(0xFF01, 1);
        x.array();
        due("dates", x.same(thing(0), thing(1)), true);
        due("other dates", x.same(thing(0), thing(2)), false);
        due("a date and bytes", x.same(thing(0), thing(3)), false);
        due("another count of bytes", x.same(thing(3), thing(4)), false);
        due("bytes", x.same(thing(3), thing(5)), true);
        due("array and date", x.same(thing(6), thing(0)), false);
        due("empty array and no bytes", x.same(thing(6), x.bytes(0, 0)), false);
        due("no thing", x.same(thing(6), thing(8)), false);
    }

    private static void sameGraphs() {
        GraphCourier x = new GraphCourier();
        for (int i = 0; i < 8; i++) {
            x.array();
        }
        x.append(0, thing(1));
        x.append(0, thing(2));
        x.append(3, thing(4));
        x.append(3, thing(4));
        due("two left, one right", x.same(thing(0), thing(3)), false);
        due("one left, two right", x.same(thing(3), thing(0)), false);
        due("with itself", x.same(thing(0), thing(0)), true);
        x.append(5, thing(2));
        x.append(5, thing(1));
        due("crossed", x.same(thing(0), thing(5)), true);
        x.append(6, thing(6));
        x.append(7, thing(6));
        due("a ring of one, and one that leads to it", x.same(thing(6), thing(7)), false);
        x.set(7, 0, thing(7));
        due("two rings of one", x.same(thing(6), thing(7)), true);
        x.set(6, 0, thing(7));
        x.set(7, 0, thing(6));
        due("a ring of two, from both ends", x.same(thing(6), thing(7)), true);
        x.append(6, NULL);
        due("one more item", x.same(thing(6), thing(7)), false);
        x.append(7, UNDEFINED);
        due("another item", x.same(thing(6), thing(7)), false);
        x.set(7, 1, NULL);
        due("the same item", x.same(thing(6), thing(7)), true);
    }

    private static void samePairs() {
        GraphCourier x = new GraphCourier();
        x.traits(0, true, 'm', 0, 0);
        x.traits(0, true, 'n', 0, 0);
        x.object(0);
        x.object(0);
        x.object(1);
        due("objects", x.same(thing(0), thing(1)), true);
        due("other traits", x.same(thing(0), thing(2)), false);
        x.put(0, 'a', NULL);
        due("more pairs", x.same(thing(0), thing(1)), false);
        due("fewer pairs", x.same(thing(1), thing(0)), false);
        x.put(0, 'b', NULL);
        x.put(1, 'b', NULL);
        x.put(1, 'a', NULL);
        due("another order of keys", x.same(thing(0), thing(1)), false);
        GraphCourier y = new GraphCourier();
        y.array();
        y.array();
        y.put(0, 'a', thing(1));
        y.put(1, 'a', thing(0));
        due("rings by pairs", y.same(thing(0), thing(1)), true);
        y.put(1, 'a', thing(1));
        due("no ring by pairs", y.same(thing(0), thing(1)), false);
        y.put(1, 'a', NULL);
        due("another value", y.same(thing(0), thing(1)), false);
        GraphCourier z = withNest(40);
        due("forty deep", z.same(thing(0), thing(0)), true);
        due("thirty-nine deep", z.same(thing(0), thing(1)), false);
    }

    private static void clear() {
        GraphCourier x = new GraphCourier();
        x.allow('n');
        x.wide(5);
        x.traits('n', false, 0, 0, 0);
        x.object(0);
        x.encode(thing(0));
        faultAt("a fault before", x, 1, 9);
        x.encode(thing(0));
        x.clear();
        due("things", x.things(), 0);
        due("kind", x.kind(0), -1);
        due("bits", x.bits(0), 0);
        badArgument("object", () -> x.object(0));
        rowIs("the row stays", x, 10, 3, 3, 'n');
        due("allowed stays", x.allow('n'), false);
        due("read again", x.decode(), thing(0));
        due("traits from 0", x.traitsOf(0), 0);
        x.clear();
        due("wide from 0", x.wide(1), wideValue(0));
        x.clear();
        for (int i = 0; i < 40; i++) {
            x.array();
            due("empty array " + i, x.count(i) + x.pairs(i), 0);
        }
        leavesNoTrace();
    }

    private static void leavesNoTrace() {
        GraphCourier x = new GraphCourier();
        x.wide(1);
        x.wide(1);
        x.date(5);
        x.array();
        x.put(1, 'k', NULL);
        x.clear();
        x.wide(1);
        x.array();
        x.array();
        due("what was a date is an array as any", x.same(thing(0), thing(1)), true);
        x.put(1, 'k', TRUE);
        due("a new value", x.pair(1, 0, false), TRUE);
        x.clear();
        x.array();
        x.wide(1);
        due("a thing that was there", x.same(thing(0), thing(1)), false);
        due("the other way round", x.same(thing(1), thing(0)), false);
        due("a wide that was there", x.same(wideValue(0), wideValue(1)), false);
        due("the other way round", x.same(wideValue(1), wideValue(0)), false);
    }

    public static void main(String[] args) {
        newObject();
        wide();
        date();
        bytes();
        array();
        traits();
        object();
        append();
        values();
        set();
        put();
        allow();
        encodeNumbers();
        encodeEach();
        encodeObjects();
        encodeLimits();
        encodeLimitsOfPairs();
        encodeLongest();
        decodeValues();
        decodeTraits();
        decodeManyTexts();
        decodeUndone();
        faultEnds();
        faultKinds();
        faultDepth();
        faultNumbers();
        faultFullTraits();
        faultStrings();
        row();
        looks();
        sameValues();
        sameGraphs();
        samePairs();
        clear();
        System.out.println(wrong == 0 ? "all promises hold" : wrong + " answers are not as due");
        if (wrong != 0) {
            System.exit(1);
        }
    }
}
