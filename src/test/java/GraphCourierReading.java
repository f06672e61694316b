import java.util.Arrays;

/** The reading of a row, which may be anything: what it makes, and the places of a fault. */
public final class GraphCourierReading extends Check {
    private static final int[] THING_KINDS = {8, 9, 10, 12};
    private static final int[] WIDE_ROW = {5, 0, 0, 0, 0, 0, 0, 0, 1};

    // What reading makes

    @Says("things that are not told by a place in the list are new ones")
    private static void thingsAreNew() {
        GraphCourier x = new GraphCourier();
        x.bytes(7, 1);
        reads("two alike, and the second by its place", x, thing(1), 9, 7, 1, 12, 3, 7, 12, 3, 7, 12, 4);
        due("first", x.item(1, 0), thing(2));
        due("second", x.item(1, 1), thing(3));
        due("by its place", x.item(1, 2), thing(3));
        due("things", x.things(), 4);
        due("once more", x.decode(), thing(4));
        due("things then", x.things(), 7);
    }

    @Says("places in the list are counted from this row's things alone")
    private static void placesAreThisRows() {
        GraphCourier x = withNest(3);
        reads("place 0", x, thing(3), 9, 3, 1, 9, 0);
        due("it holds itself", x.item(3, 0), thing(3));
        faultAt("place 1", x, 4, 9, 3, 1, 9, 2);
    }

    @Says("READING has lists of its own, which are empty at first")
    private static void listsAreEmptyAtFirst() {
        GraphCourier x = new GraphCourier();
        reads("a text, traits and things", x, thing(0), 9, 5, 1, 6, 3, 'a', 10, 3, 1);
        faultAt("no text of the row before", x, 1, 6, 0);
        faultAt("no thing of the row before", x, 1, 9, 0);
        faultAt("no traits of the row before", x, 1, 10, 1);
        x.encode(thing(0));
        x.alter(0, 6);
        x.alter(1, 0);
        badArgument("no text of what was written", x::decode);
        due("place", x.fault(), 1);
    }

    @Says("READING makes what the row tells: pairs, items, texts and things by their places")
    private static void arrayOfManyThings() {
        GraphCourier x = new GraphCourier();
        reads("array", x, thing(0), 9, 5, 3, 'a', 3, 3, 'b', 9, 0, 1, 6, 2, 9, 1, 1);
        due("pairs", x.pairs(0), 2);
        due("key 0", x.pair(0, 0, true), 'a');
        due("value 0", x.pair(0, 0, false), TRUE);
        due("key 1", x.pair(0, 1, true), 'b');
        due("value 1", x.pair(0, 1, false), thing(0));
        due("items", x.count(0), 2);
        due("item 0", x.item(0, 0), textValue("b"));
        due("item 1", x.item(0, 1), thing(1));
    }

    /** An array up to its items, with six pairs: the keys a .. f in full, the texts g .. l in full. */
    private static int[] rowOfSixPairs(int items) {
        int[] row = {9, 2 * items + 1};
        for (int i = 0; i < 6; i++) {
            row = join(row, 3, 'a' + i, 6, 3, 'g' + i);
        }
        return join(row, 1);
    }

    @Says("the list of texts holds all that a row of 600 can tell")
    private static void moreThanTwoHundredTexts() {
        GraphCourier x = withNest(10);
        for (int i = 0; i < 10; i++) {
            for (int k = 0; k < 6; k++) {
                x.put(i, 1 + 12 * i + k, 16 * (7 + 12 * i + k) + 6);
            }
        }
        due("the first 120 are written", x.encode(thing(0)), 10 * 33);
        due("array 0 shall have two items", x.alter(1, 5), true);
        int[] rest = new int[0];
        for (int i = 0; i < 7; i++) {
            rest = join(rest, rowOfSixPairs(i < 6 ? 1 : 2));
        }
        // place 120 is the first of these, 203 the last one
        rest = join(rest, 6, 128 + 240 / 128, 240 % 128, 6, 128 + 406 / 128, 406 % 128);
        for (int i = 0; i < rest.length; i++) {
            x.alter(330 + i, rest[i]);
        }
        due("size", x.size(), 567);
        x.clear();
        due("read", x.decode(), thing(0));
        due("place 120", x.item(16, 0), textValue("a"));
        due("place 203", x.item(16, 1), textValue("l"));
    }

    @Says("as are all wide numbers")
    private static void widesAreNew() {
        GraphCourier x = new GraphCourier();
        x.wide(1);
        reads("two alike", x, thing(0), join(join(new int[] {9, 5, 1}, WIDE_ROW), WIDE_ROW));
        due("first", x.item(0, 0), wideValue(1));
        due("second", x.item(0, 1), wideValue(2));
        due("bits", x.bits(2), 1);
    }

    @Says("traits are those that are alike")
    private static void traitsAlike() {
        GraphCourier x = new GraphCourier();
        x.allow('n');
        x.traits('n', true, 'a', 0, 0);
        x.traits('n', false, 'a', 0, 0);
        reads("alike the second", x, thing(0), 10, 19, 3, 'n', 3, 'a', 0);
        due("these are 1", x.traitsOf(0), 1);
        reads("alike the first", x, thing(1), 10, 27, 3, 'n', 3, 'a', 0, 1);
        due("these are 0", x.traitsOf(1), 0);
        due("the next ones are 2", x.traits(0, false, 0, 0, 0), 2);
    }

    @Says("traits are those that are alike, or new ones")
    private static void traitsNew() {
        GraphCourier x = new GraphCourier();
        x.allow('n');
        x.traits('n', true, 'a', 'b', 0);
        reads("another order", x, thing(0), 10, 43, 3, 'n', 3, 'b', 3, 'a', 2, 3, 1);
        due("they are 1", x.traitsOf(0), 1);
        due("alike these", x.traits('n', true, 'b', 'a', 0), 1);
        due("item 0", x.item(0, 0), FALSE);
        due("item 1", x.item(0, 1), TRUE);
        reads("not dynamic", x, thing(1), 10, 35, 3, 'n', 3, 'a', 3, 'b', 2, 3);
        due("they are 2", x.traitsOf(1), 2);
        reads("no name", x, thing(2), 10, 43, 1, 3, 'a', 3, 'b', 2, 3, 1);
        due("they are 3", x.traitsOf(2), 3);
    }

    @Says("a string told in full comes to the end of the list, though it is there already")
    private static void textsToldTwice() {
        GraphCourier x = new GraphCourier();
        reads("a, a, b, place 2", x, thing(0), 9, 9, 1, 6, 3, 'a', 6, 3, 'a', 6, 3, 'b', 6, 4);
        due("place 2 is the third", x.item(0, 3), textValue("b"));
    }

    @Says("traits told in full come to the end of the list, though they are there already")
    private static void traitsToldTwice() {
        GraphCourier x = new GraphCourier();
        reads("place 2", x, thing(0), 9, 9, 1, 10, 3, 1, 10, 3, 1, 10, 11, 1, 1, 10, 9, 1);
        due("first", x.traitsOf(1), 0);
        due("second", x.traitsOf(2), 0);
        due("third", x.traitsOf(3), 1);
        due("place 2 is the third", x.traitsOf(4), 1);
    }

    @Says("What is behind the value is not looked at")
    private static void whatIsBehind() {
        reads("a wrong kind", new GraphCourier(), NULL, 1, 255, 255);
        GraphCourier x = new GraphCourier();
        reads("another thing", x, thing(0), 9, 1, 1, 9, 1, 1);
        due("one thing", x.things(), 1);
        due("the row stays", x.size(), 6);
    }

    @Says("A number may also be told with more bytes than it needs: an INTEGER's")
    private static void longIntegers() {
        reads("two for 0", new GraphCourier(), integer(0), 4, 128, 0);
        reads("three for 5", new GraphCourier(), integer(5), 4, 128, 128, 5);
        reads("four for 5", new GraphCourier(), integer(5), 4, 128, 128, 128, 5);
        reads("four for 128", new GraphCourier(), integer(128), 4, 128, 128, 128, 128);
        reads("three for 2^14 - 1", new GraphCourier(), integer(16383), 4, 128, 255, 127);
        reads("four for 2^21 - 1", new GraphCourier(), integer(2097151), 4, 128, 191, 255, 255);
    }

    @Says("A number may also be told with more bytes than it needs: a thing's, a string's, a place's")
    private static void longNumbersOfThings() {
        GraphCourier x = new GraphCourier();
        reads("text", x, textValue("a"), 6, 128, 3, 'a');
        reads("empty text", x, textValue(""), 6, 128, 128, 128, 1);
        reads("bytes", x, thing(0), 12, 128, 128, 3, 9);
        reads("date", x, thing(1), 8, 128, 128, 128, 1, 0, 0, 0, 0, 0, 0, 0, 6);
        due("its bits", x.item(1, 0), 6);
        reads("array, pairs' end, its own place", x, thing(2), 9, 128, 3, 128, 1, 9, 128, 128, 0);
        due("it holds itself", x.item(2, 0), thing(2));
        reads("object, its name, a member", x, thing(3), 10, 128, 19, 128, 1, 128, 3, 'a', 3);
        due("its item", x.item(3, 0), TRUE);
        reads("traits by place, text by place", x, thing(4),
            9, 7, 1, 10, 3, 1, 10, 128, 128, 1, 9, 5, 1, 6, 3, 'a', 6, 128, 0);
        due("traits", x.traitsOf(6), x.traitsOf(5));
        due("text", x.item(7, 1), textValue("a"));
    }

    @Says("A NUMBER n from 0 to 2^29 - 1: the bounds, as INTEGERs")
    private static void numbersAtTheBounds() {
        int[][] rows = {{0, 4, 0}, {127, 4, 127}, {128, 4, 129, 0}, {16383, 4, 255, 127}, {16384, 4, 129, 128, 0},
            {2097151, 4, 255, 255, 127}, {2097152, 4, 128, 192, 128, 0}, {268435455, 4, 191, 255, 255, 255},
            {-268435456, 4, 192, 128, 128, 0}, {-1, 4, 255, 255, 255, 255}};
        for (int[] row : rows) {
            reads("n = " + row[0], new GraphCourier(), integer(row[0]), Arrays.copyOfRange(row, 1, row.length));
        }
    }

    @Says("BYTES have 0 .. 8 bytes, an ARRAY 0 .. 8 items: none and eight are read")
    private static void noneAndEight() {
        GraphCourier x = new GraphCourier();
        reads("no bytes", x, thing(0), 12, 1);
        due("none", x.count(0), 0);
        reads("eight bytes", x, thing(1), 12, 17, 255, 0, 127, 128, 4, 5, 6, 7);
        due("eight", x.count(1), 8);
        due("byte 0", x.item(1, 0), integer(255));
        due("byte 3", x.item(1, 3), integer(128));
        due("byte 7", x.item(1, 7), integer(7));
        reads("no items", x, thing(2), 9, 1, 1);
        due("none", x.count(2), 0);
        reads("eight items", x, thing(3), 9, 17, 1, 0, 1, 2, 3, 0, 1, 2, 3);
        due("eight", x.count(3), 8);
        due("item 7", x.item(3, 7), TRUE);
    }

    @Says("Pairs are 0 .. 6: six are read, and the empty string behind them")
    private static void sixPairs() {
        int[] six = {3, 'a', 0, 3, 'b', 1, 3, 'c', 2, 3, 'd', 3, 3, 'e', 0, 3, 'f', 1, 1};
        GraphCourier x = new GraphCourier();
        reads("an array's", x, thing(0), join(new int[] {9, 1}, six));
        reads("an object's", x, thing(1), join(new int[] {10, 11, 1}, six));
        for (int i = 0; i < 2; i++) {
            due("pairs", x.pairs(i), 6);
            due("first key", x.pair(i, 0, true), 'a');
            due("last key", x.pair(i, 5, true), 'f');
            due("last value", x.pair(i, 5, false), NULL);
        }
    }

    // Fault: the row's end

    @Says("one behind the row's last byte, if the row ends before something is complete: the empty row")
    private static void emptyRow() {
        faultAt("empty", 0);
    }

    @Says("one behind the row's last byte: inside of a number")
    private static void endsInANumber() {
        for (int kind : new int[] {4, 6, 8, 9, 10, 12}) {
            faultAt("before it, kind " + kind, 1, kind);
            faultAt("after one byte, kind " + kind, 2, kind, 255);
            faultAt("after two, kind " + kind, 3, kind, 255, 255);
            faultAt("after three, kind " + kind, 4, kind, 255, 255, 255);
        }
    }

    @Says("one behind the row's last byte: inside of the eight of a WIDE or a DATE, of BYTES, of characters")
    private static void endsInBytes() {
        for (int n = 0; n < 8; n++) {
            faultAt("wide, " + n, 1 + n, join(new int[] {5}, new int[n]));
            faultAt("date, " + n, 2 + n, join(new int[] {8, 1}, new int[n]));
            faultAt("bytes, " + n, 2 + n, join(new int[] {12, 17}, new int[n]));
        }
        faultAt("no character", 2, 6, 15);
        faultAt("six of seven", 8, 6, 15, 'a', 'b', 'c', 'd', 'e', 'f');
    }

    @Says("one behind the row's last byte: a row that is cut at any place")
    private static void cutAnywhere() {
        int[] row = {9, 11, 3, 'k', 5, 1, 1, 1, 1, 1, 1, 1, 1, 1, 10, 27, 3, 'n', 3, 'a', 0, 3, 'b', 1, 1,
            12, 5, 7, 7, 8, 1, 0, 0, 0, 0, 0, 0, 0, 9, 6, 128, 128, 4, 4, 255, 255, 255, 255};
        for (int n = 0; n < row.length; n++) {
            GraphCourier x = new GraphCourier();
            x.allow('n');
            faultAt("cut at " + n, x, n, Arrays.copyOf(row, n));
        }
        GraphCourier whole = new GraphCourier();
        whole.allow('n');
        reads("whole", whole, thing(0), row);
        due("a text by its place", whole.item(0, 3), textValue("a"));
    }

    @Says("one behind the row's last byte: what was cut off is not read")
    private static void cutOffIsNotRead() {
        GraphCourier x = new GraphCourier();
        tell(x, 6, 3, 'a');
        x.cut(2);
        badArgument("decode", x::decode);
        due("place", x.fault(), 2);
    }

    @Says("one behind the row's last byte: of a row of 600")
    private static void longestRowEnds() {
        GraphCourier x = withLongest();
        due("size", x.encode(thing(0)), 600);
        due("items of array 0 before", x.byteAt(1), 15);
        x.alter(1, 17);
        x.clear();
        badArgument("one item more than the row has", x::decode);
        due("place", x.fault(), 600);
    }

    // Fault: the byte of a kind

    @Says("of the byte that tells a kind, if it is none of those named above")
    private static void noSuchKind() {
        for (int kind = 0; kind < 256; kind++) {
            if (kind == 7 || kind == 11 || kind > 12) {
                faultAt("kind " + kind, 0, kind, 1, 1, 1);
                faultAt("kind " + kind + " of an item", 4, 9, 5, 1, 0, kind, 1, 1);
                faultAt("kind " + kind + " of a value", 4, 9, 1, 3, 'k', kind, 1, 1);
            }
        }
    }

    @Says("if it tells a WIDE and 40 are there")
    private static void fortyFirstWide() {
        GraphCourier x = withWides(40);
        faultAt("at once", x, 0, WIDE_ROW);
        faultAt("before its eight are read", x, 0, 5);
        faultAt("inside of an array", x, 4, join(new int[] {9, 5, 1, 0}, WIDE_ROW));
    }

    @Says("if it tells a WIDE and 40 are there: those that this row told count")
    private static void fortyFirstWideOfThisRow() {
        GraphCourier x = withWides(39);
        faultAt("the second one", x, 12, join(join(new int[] {9, 5, 1}, WIDE_ROW), WIDE_ROW));
        due("the first is not there either", x.same(wideValue(39), wideValue(39)), false);
        reads("the fortieth alone", x, wideValue(39), WIDE_ROW);
        due("its bits", x.bits(39), 1);
        faultAt("one more", x, 0, WIDE_ROW);
    }

    @Says("if it tells a thing that is not one of the list, and 40 are there")
    private static void fortyFirstThing() {
        for (int kind : THING_KINDS) {
            faultAt("kind " + kind, withThings(40), 0, kind, 1, 1, 1, 1, 1, 1, 1, 1, 1);
        }
    }

    @Says("and 40 are there: those that this row told count, complete or not")
    private static void fortyFirstThingOfThisRow() {
        faultAt("complete ones", withThings(38), 6, 9, 5, 1, 9, 1, 1, 9, 1, 1);
        faultAt("incomplete ones", withThings(38), 6, 9, 3, 1, 9, 3, 1, 9, 1, 1);
        GraphCourier x = withThings(38);
        reads("forty", x, thing(38), 9, 3, 1, 9, 1, 1);
        due("things", x.things(), 40);
    }

    @Says("a thing that is one of the list may be told when 40 are there")
    private static void placeWhenFortyAreThere() {
        GraphCourier x = withThings(38);
        reads("two by their places", x, thing(38), 9, 7, 1, 12, 1, 9, 0, 12, 2);
        due("things", x.things(), 40);
        due("the array", x.item(38, 1), thing(38));
        due("the bytes", x.item(38, 2), thing(39));
    }

    @Says("or it would be inside of twelve others (things that are not complete yet)")
    private static void insideOfTwelve() {
        for (int kind : THING_KINDS) {
            faultAt("kind " + kind, 36, join(nestRow(12), kind, 1, 1, 1, 1, 1, 1, 1, 1, 1));
        }
    }

    @Says("inside of twelve others: by pairs, and in objects")
    private static void insideOfTwelveByOtherWays() {
        int[] pairs = {9, 1, 3, 'k'};
        int[] objects = {10, 19, 1, 3, 'm'};
        for (int i = 1; i < 12; i++) {
            pairs = join(pairs, 9, 1, 0);
            objects = join(objects, 10, 1);
        }
        faultAt("pairs", pairs.length, join(pairs, 9, 1, 1));
        faultAt("objects' items", objects.length, join(objects, 10, 1, 0));
        int[] dynamic = {10, 11, 1, 3, 'k'};
        for (int i = 1; i < 12; i++) {
            dynamic = join(dynamic, 10, 1, 0);
        }
        faultAt("objects' pairs", dynamic.length, join(dynamic, 12, 1));
    }

    @Says("inside of eleven others it may be")
    private static void insideOfEleven() {
        int[][] ends = {{8, 1, 0, 0, 0, 0, 0, 0, 0, 0}, {9, 1, 1}, {10, 3, 1}, {12, 1}};
        for (int[] end : ends) {
            GraphCourier x = new GraphCourier();
            reads("kind " + end[0], x, thing(0), join(nestRow(11), end));
            due("things", x.things(), 12);
        }
    }

    @Says("inside of twelve others: only things count, and a value that is none may be there")
    private static void otherValuesInsideOfTwelve() {
        reads("a wide", new GraphCourier(), thing(0), join(nestRow(12), WIDE_ROW));
        reads("a text", new GraphCourier(), thing(0), join(nestRow(12), 6, 3, 'a'));
        reads("an integer", new GraphCourier(), thing(0), join(nestRow(12), 4, 7));
    }

    @Says("inside of twelve others: a thing that is one of the list may be told there")
    private static void placeInsideOfTwelve() {
        GraphCourier x = new GraphCourier();
        reads("the twelfth in itself", x, thing(0), join(nestRow(12), 9, 22));
        due("it holds itself", x.item(11, 0), thing(11));
        GraphCourier y = new GraphCourier();
        reads("one that is complete", y, thing(0), join(join(new int[] {9, 5, 1, 12, 1}, nestRow(11)), 12, 2));
        due("it is there", y.item(12, 0), thing(1));
    }

    @Says("things that are not complete yet: those that are complete do not count")
    private static void completeThingsDoNotCount() {
        GraphCourier x = new GraphCourier();
        int[] eight = {9, 17, 1, 9, 3, 1, 9, 1, 1, 9, 3, 1, 9, 1, 1, 9, 3, 1, 9, 1, 1, 9, 3, 1, 9, 1, 1, 9, 3, 1, 9, 1, 1,
            9, 3, 1, 9, 1, 1, 9, 3, 1, 9, 1, 1};
        reads("seventeen things before twelve", x, thing(0), join(join(eight, nestRow(10)), 9, 1, 1));
        due("things", x.things(), 26);
    }

    @Says("these two only when the number behind it has been read")
    private static void numberIsReadFirst() {
        for (int kind : THING_KINDS) {
            for (int n = 0; n < 4; n++) {
                int[] cut = Arrays.copyOf(new int[] {kind, 255, 255, 255}, 1 + n);
                faultAt("40 are there, " + kind + ", " + n, withThings(40), 1 + n, cut);
                faultAt("inside of twelve, " + kind + ", " + n, 37 + n, join(nestRow(12), cut));
            }
        }
    }

    @Says("and before it is looked at further")
    private static void numberIsLookedAtLater() {
        int[][] wrongs = {{8, 3}, {9, 19}, {12, 19}, {10, 7}, {10, 67}, {10, 5}, {12, 255, 255, 255, 255}};
        for (int[] told : wrongs) {
            faultAt("40 are there, " + Arrays.toString(told), withThings(40), 0, told);
            faultAt("inside of twelve, " + Arrays.toString(told), 36, join(nestRow(12), told));
        }
    }

    @Says("a place where nothing is has its own fault when 40 are there, and inside of twelve")
    private static void wrongPlaceWhenFull() {
        for (int kind : THING_KINDS) {
            faultAt("40 are there, " + kind, withThings(40), 1, kind, 0);
            faultAt("inside of twelve, " + kind, 37, join(nestRow(12), kind, 24));
        }
    }

    // Fault: the first byte of a number

    @Says("of the first byte of a number: of a place in a list where nothing is: of things")
    private static void noThingAtThatPlace() {
        for (int kind : THING_KINDS) {
            faultAt("none yet, " + kind, 1, kind, 0);
            faultAt("one behind, " + kind, 4, 9, 3, 1, kind, 2);
            faultAt("a long number, " + kind, 4, 9, 3, 1, kind, 128, 128, 2);
            faultAt("the largest place, " + kind, 4, 9, 3, 1, kind, 255, 255, 255, 254);
        }
    }

    @Says("of a place in a list where nothing is: of texts")
    private static void noTextAtThatPlace() {
        faultAt("none yet", 1, 6, 0);
        faultAt("one behind", 7, 9, 5, 1, 6, 3, 'a', 6, 2);
        faultAt("a long number", 7, 9, 5, 1, 6, 3, 'a', 6, 128, 128, 2);
        faultAt("the largest place", 1, 6, 255, 255, 255, 254);
        faultAt("the empty text has no place", 6, 9, 5, 1, 6, 1, 6, 0);
        faultAt("as a key", 2, 9, 1, 0, 0);
        faultAt("as a name", 2, 10, 3, 0);
        faultAt("as a member", 3, 10, 19, 1, 0);
    }

    @Says("of a place in a list where nothing is: of traits")
    private static void noTraitsAtThatPlace() {
        faultAt("none yet", 1, 10, 1);
        faultAt("one behind", 7, 9, 5, 1, 10, 3, 1, 10, 5);
        faultAt("a long number", 7, 9, 5, 1, 10, 3, 1, 10, 128, 5);
        faultAt("the largest place", 1, 10, 255, 255, 255, 253);
        faultAt("traits that are there, but not of this row", withTraits(1), 1, 10, 1, 0);
    }

    @Says("or a thing of another kind than the byte before it told")
    private static void thingOfAnotherKind() {
        int[][] things = {{8, 1, 0, 0, 0, 0, 0, 0, 0, 0}, {9, 1, 1}, {10, 3, 1}, {12, 1}};
        for (int[] told : things) {
            for (int kind : THING_KINDS) {
                int[] row = join(join(new int[] {9, 5, 1}, told), kind, 2);
                if (kind == told[0]) {
                    reads("kind " + kind, new GraphCourier(), thing(0), row);
                } else {
                    faultAt("kind " + kind + " for " + told[0], row.length - 1, row);
                }
            }
        }
        faultAt("an array that is not complete yet", 4, 9, 3, 1, 10, 0);
    }

    @Says("of a DATE that is odd and not 1")
    private static void dateNotOne() {
        faultAt("3", 1, 8, 3, 0, 0, 0, 0, 0, 0, 0, 0);
        faultAt("before its eight are read", 1, 8, 3);
        faultAt("129", 1, 8, 129, 1, 0, 0, 0, 0, 0, 0, 0, 0);
        faultAt("the largest", 1, 8, 255, 255, 255, 255);
    }

    @Says("of BYTES with more than 8")
    private static void bytesMoreThanEight() {
        faultAt("9", 1, 12, 19, 0, 0, 0, 0, 0, 0, 0, 0, 0);
        faultAt("before they are read", 1, 12, 19);
        faultAt("the largest", 1, 12, 255, 255, 255, 255);
    }

    @Says("of an ARRAY with more than 8")
    private static void arrayMoreThanEight() {
        faultAt("9", 1, 9, 19, 1, 0, 0, 0, 0, 0, 0, 0, 0, 0);
        faultAt("before its pairs are read", 1, 9, 19);
        faultAt("the largest", 1, 9, 255, 255, 255, 255);
    }

    @Says("of an OBJECT, if the number modulo 8 is 7")
    private static void objectSeven() {
        faultAt("7", 1, 10, 7, 1, 1);
        faultAt("15", 1, 10, 15, 1, 1);
        faultAt("23", 1, 10, 23, 1, 3, 'a', 0);
        faultAt("at once", 1, 10, 7);
        faultAt("the largest", 1, 10, 255, 255, 255, 255);
    }

    @Says("of an OBJECT, if it is modulo 4 3 and it has more than 3 members (before these are read)")
    private static void objectFourMembers() {
        faultAt("four", 1, 10, 67, 1, 3, 'a', 3, 'b', 3, 'c', 3, 'd', 0, 0, 0, 0);
        faultAt("four, dynamic", 1, 10, 75, 1);
        faultAt("before they are read", 1, 10, 67);
        faultAt("the largest", 1, 10, 255, 255, 255, 251);
        reads("three", new GraphCourier(), thing(0), 10, 51, 1, 3, 'a', 3, 'b', 3, 'c', 1, 2, 3);
        reads("three, dynamic", new GraphCourier(), thing(0), 10, 59, 1, 3, 'a', 3, 'b', 3, 'c', 1, 2, 3, 1);
    }

    @Says("of an OBJECT, if its traits are new ones and 12 are there")
    private static void thirteenthTraits() {
        faultAt("not dynamic", withTraits(12), 1, 10, 3, 1);
        faultAt("with a member more", withTraits(12), 1, 10, 35, 1, 3, 'a', 3, 'z', 0, 0);
        faultAt("dynamic", withTraits(12), 1, 10, 27, 1, 3, 'a', 0, 1);
        faultAt("a long number", withTraits(12), 4, 9, 3, 1, 10, 128, 128, 3, 1);
        GraphCourier x = withTraits(11);
        reads("the twelfth", x, thing(0), 10, 3, 1);
        due("these are 11", x.traitsOf(0), 11);
    }

    @Says("new ones and 12 are there: those that this row told count")
    private static void thirteenthTraitsOfThisRow() {
        GraphCourier x = withTraits(11);
        faultAt("the second ones", x, 8, 9, 5, 1, 10, 11, 1, 1, 10, 3, 1);
        due("the first are not there either", x.traits(0, false, 0, 0, 0), 11);
    }

    @Says("its traits (when they have been read): what is wrong in them comes first")
    private static void traitsAreReadFirst() {
        faultAt("a name", withTraits(12), 2, 10, 3, 3, 'n');
        faultAt("a member", withTraits(12), 3, 10, 19, 1, 1);
        faultAt("the row's end", withTraits(12), 4, 10, 19, 1, 3);
    }

    @Says("traits that are there may be read when 12 are there")
    private static void traitsAlikeWhenFull() {
        GraphCourier x = withTraits(12);
        reads("the first", x, thing(0), 10, 19, 1, 3, 'a', 1);
        due("these are 0", x.traitsOf(0), 0);
        reads("the last", x, thing(1), 10, 19, 1, 3, 'l', 1);
        due("these are 11", x.traitsOf(1), 11);
        due("its item", x.item(1, 0), NULL);
    }

    // Fault: the first byte of a string

    @Says("of the first byte of a string: with more than 7 characters (before these are read)")
    private static void eightCharacters() {
        faultAt("a text", 1, 6, 17, 'a', 'b', 'c', 'd', 'e', 'f', 'g', 'h');
        faultAt("before they are read", 1, 6, 17);
        faultAt("the largest", 1, 6, 255, 255, 255, 255);
        faultAt("a key", 2, 9, 1, 17);
        faultAt("a name", 2, 10, 3, 17);
        faultAt("a member", 3, 10, 19, 1, 17);
        reads("seven", new GraphCourier(), textValue("abcdefg"), 6, 15, 'a', 'b', 'c', 'd', 'e', 'f', 'g');
    }

    @Says("or with one that is not 1 .. 126")
    private static void wrongCharacters() {
        for (int letter : new int[] {0, 127, 128, 255}) {
            faultAt("alone, " + letter, 1, 6, 3, letter);
            faultAt("first, " + letter, 1, 6, 5, letter, 'a');
            faultAt("last of seven, " + letter, 1, 6, 15, 'a', 'b', 'c', 'd', 'e', 'f', letter);
            faultAt("a key, " + letter, 2, 9, 1, 3, letter, 0, 1);
            faultAt("a name, " + letter, 2, 10, 3, 3, letter);
            faultAt("a member, " + letter, 3, 10, 19, 1, 3, letter, 0);
        }
        reads("1 and 126", new GraphCourier(), textValue("\1~"), 6, 5, 1, 126);
    }

    @Says("with one that is not 1 .. 126 (when all are there)")
    private static void wrongCharacterInAShortRow() {
        faultAt("the first of two", 3, 6, 5, 0);
        faultAt("the sixth of seven", 8, 6, 15, 'a', 'b', 'c', 'd', 'e', 127);
    }

    @Says("a name that is not allowed")
    private static void nameNotAllowed() {
        GraphCourier x = new GraphCourier();
        x.allow('m');
        x.traits('n', false, 0, 0, 0);
        faultAt("in full", x, 2, 10, 3, 3, 'n');
        faultAt("before the members are read", x, 2, 10, 51, 3, 'n');
        faultAt("by its place", x, 8, 9, 5, 1, 6, 3, 'n', 10, 3, 0);
        reads("one that is", x, thing(0), 10, 3, 3, 'm');
    }

    @Says("a member that is empty where it can't be")
    private static void emptyMember() {
        faultAt("the first", 3, 10, 19, 1, 1, 0);
        faultAt("the second", 5, 10, 35, 1, 3, 'a', 1, 0, 0);
        faultAt("the third", 7, 10, 51, 1, 3, 'a', 3, 'b', 1, 0, 0, 0);
        faultAt("with a long number", 3, 10, 19, 1, 128, 1, 0);
    }

    @Says("a member that is there already")
    private static void memberTwice() {
        faultAt("in full", 5, 10, 35, 1, 3, 'a', 3, 'a', 0, 0);
        faultAt("by its place", 5, 10, 35, 1, 3, 'a', 0, 0, 0);
        faultAt("the third as the first", 7, 10, 51, 1, 3, 'a', 3, 'b', 0, 0, 0, 0);
        faultAt("the third as the second", 7, 10, 51, 1, 3, 'a', 3, 'b', 2, 0, 0, 0);
    }

    @Says("a member may be the name")
    private static void memberAsTheName() {
        GraphCourier x = new GraphCourier();
        x.allow('n');
        reads("by its place", x, thing(0), 10, 19, 3, 'n', 0, 3);
        due("item", x.item(0, 0), TRUE);
    }

    @Says("a key that is there already")
    private static void keyTwice() {
        faultAt("in full", 5, 9, 1, 3, 'a', 0, 3, 'a', 0, 1);
        faultAt("by its place", 5, 9, 1, 3, 'a', 0, 0, 0, 1);
        faultAt("before its value is read", 5, 9, 1, 3, 'a', 0, 0);
        faultAt("an object's", 6, 10, 11, 1, 3, 'a', 0, 0, 0, 1);
        reads("of another thing", new GraphCourier(), thing(0), 9, 3, 3, 'a', 0, 1, 9, 1, 0, 0, 1);
    }

    @Says("a key that is a member")
    private static void keyThatIsAMember() {
        faultAt("by its place", 6, 10, 27, 1, 3, 'a', 0, 0, 0, 1);
        faultAt("in full", 6, 10, 27, 1, 3, 'a', 0, 3, 'a', 0, 1);
        faultAt("the third member", 12, 10, 59, 1, 3, 'a', 3, 'b', 3, 'c', 0, 0, 0, 4, 0, 1);
        GraphCourier x = new GraphCourier();
        x.allow('n');
        reads("the name may be a key", x, thing(0), 10, 11, 3, 'n', 0, 3, 1);
        due("its value", x.pair(0, 0, false), TRUE);
    }

    @Says("a seventh key")
    private static void seventhKey() {
        int[] six = {3, 'a', 0, 3, 'b', 1, 3, 'c', 2, 3, 'd', 3, 3, 'e', 0, 3, 'f', 1};
        faultAt("an array's", 20, join(join(new int[] {9, 1}, six), 3, 'g', 0, 1));
        faultAt("an object's", 21, join(join(new int[] {10, 11, 1}, six), 3, 'g', 0, 1));
        faultAt("before its value is read", 20, join(join(new int[] {9, 1}, six), 3, 'g'));
        faultAt("one of the six", 20, join(join(new int[] {9, 1}, six), 0, 0, 1));
        faultAt("the row's end before it", 20, join(new int[] {9, 1}, six));
        faultAt("the row's end inside of it", 22, join(join(new int[] {9, 1}, six), 5, 'g'));
    }

    // Which fault, and what is left

    @Says("There is a FAULT at the first place where it cannot go on")
    private static void theFirstOfTwoFaults() {
        faultAt("a wrong kind before a wrong place", 3, 9, 5, 1, 7, 9, 8);
        faultAt("a wrong place before a wrong kind", 4, 9, 5, 1, 9, 8, 7);
        faultAt("a wrong key before a wrong item", 2, 9, 3, 17, 7);
        faultAt("a wrong item before a wrong key", 5, 10, 27, 1, 3, 'a', 7, 17);
    }

    @Says("when it has a fault; then nothing has been made: wide numbers, traits, things")
    private static void nothingIsMade() {
        GraphCourier x = new GraphCourier();
        x.array();
        int[] row = {9, 9, 3, 'k', 5, 1, 1, 1, 1, 1, 1, 1, 1, 1, 10, 19, 1, 3, 'a', 0, 12, 3, 7, 8, 1, 0, 0, 0, 0,
            0, 0, 0, 9};
        tell(x, row);
        changesNothing("a row that ends early", x, () -> badArgument("decode", x::decode));
        due("first wide", x.wide(3), wideValue(0));
        due("first traits", x.traits('z', true, 0, 0, 0), 0);
        due("next thing", x.array(), thing(1));
        due("it has no items", x.count(1), 0);
        due("it has no pairs", x.pairs(1), 0);
        x.alter(row.length, 0);
        due("the whole row", x.decode(), thing(2));
        due("traits then", x.traitsOf(3), 1);
        due("wide then", x.pair(2, 0, false), wideValue(1));
    }

    @Says("when it has a fault; then nothing has been made: what was there stays as it is")
    private static void whatWasThereStays() {
        GraphCourier x = withWides(1);
        x.object(x.traits(0, true, 'm', 0, 0));
        x.set(0, 0, wideValue(0));
        x.put(0, 'k', thing(0));
        tell(x, 10, 27, 1, 3, 'm', 5, 9, 9, 9, 9, 9, 9, 9, 9, 3, 'k', 10, 0, 3, 'm');
        changesNothing("a key that is a member", x, () -> badArgument("decode", x::decode));
        due("place", x.fault(), 18);
    }

    public static void main(String[] args) {
        runAll(GraphCourierReading.class);
    }
}
