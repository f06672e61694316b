/** The bounds that stand under 'Terms' for texts, values, traits, things, pairs and the writing of a row. */
public final class GraphCourierTerms extends Check {
    private static void takesText(long text) {
        GraphCourier x = withNest(1);
        due("allow " + text, x.allow(text), true);
        due("name " + text, x.traits(text, false, 0, 0, 0), 0);
        due("first member " + text, x.traits(0, false, text, 0, 0), 1);
        due("second member " + text, x.traits(0, false, text("x"), text, 0), 2);
        due("third member " + text, x.traits(0, false, text("x"), text("y"), text), 3);
        due("key " + text, x.put(0, text, 16 * text + 6), 1);
        due("that key", x.pair(0, 0, true), text);
        due("that value", x.pair(0, 0, false), 16 * text + 6);
    }

    private static void refusesText(long text) {
        GraphCourier x = withNest(1);
        due("allow " + text, x.allow(text), false);
        badArgument("name " + text, () -> x.traits(text, false, 0, 0, 0));
        badArgument("first member " + text, () -> x.traits(0, false, text, 0, 0));
        badArgument("second member " + text, () -> x.traits(0, false, text("x"), text, 0));
        badArgument("third member " + text, () -> x.traits(0, false, text("x"), text("y"), text));
        badArgument("key " + text, () -> x.put(0, text, NULL));
        due("no pair came of it", x.pairs(0), 0);
        due("no traits came of it", x.traits(0, false, 0, 0, 0), 0);
        if (text << 4 >> 4 == text) {
            refusesValue(16 * text + 6);
        }
    }

    private static GraphCourier withOneOfEach() {
        GraphCourier x = withWides(1);
        x.array();
        x.append(0, TRUE);
        return x;
    }

    private static void takesValue(long value) {
        GraphCourier x = withOneOfEach();
        due("append " + value, x.append(0, value), 2);
        due("item " + value, x.item(0, 1), value);
        x.set(0, 0, value);
        due("set " + value, x.item(0, 0), value);
        due("put " + value, x.put(0, 'k', value), 1);
        due("value " + value, x.pair(0, 0, false), value);
        due("same " + value, x.same(value, value), true);
        due("encode " + value, x.encode(value) > 0, true);
    }

    private static void refusesValue(long value) {
        GraphCourier x = withOneOfEach();
        changesNothing("refused " + value, x, () -> {
            badArgument("append " + value, () -> x.append(0, value));
            badArgument("set " + value, () -> x.set(0, 0, value));
            badArgument("put " + value, () -> x.put(0, 'k', value));
            badArgument("encode " + value, () -> x.encode(value));
            due("same " + value, x.same(value, value), false);
        });
    }

    @Says("A TEXT has 0 .. 7 characters: none")
    private static void textOfNoCharacters() {
        takesValue(textValue(""));
        GraphCourier x = new GraphCourier();
        due("it can be a name", x.traits(0, false, 0, 0, 0), 0);
        writes("it can be written", x, textValue(""), 6, 1);
    }

    @Says("A TEXT has 0 .. 7 characters: one to seven")
    private static void textsOfOneToSevenCharacters() {
        for (int n = 1; n <= 7; n++) {
            takesText(text("abcdefg".substring(0, n)));
            takesValue(textValue("abcdefg".substring(0, n)));
        }
    }

    @Says("A TEXT has 0 .. 7 characters: not eight")
    private static void noTextOfEightCharacters() {
        refusesText(text("abcdefgh"));
        refusesText(text("\1\1\1\1\1\1\1\1"));
        refusesText(text("abcdefg\1"));
        refusesText(text("~~~~~~~~"));
    }

    @Says("characters 1 .. 126: the lowest and the highest")
    private static void lowestAndHighestCharacter() {
        takesText(1);
        takesText(126);
        takesText(text("\1\1\1\1\1\1\1"));
        takesText(text("~~~~~~~"));
    }

    @Says("characters 1 .. 126: not 0 before another one")
    private static void noCharacterZero() {
        refusesText(text("\0a"));
        refusesText(text("a\0a"));
        refusesText(text("\0\0\0\0\0\0a"));
        refusesText(text("abcde\0g"));
        refusesText(1L << 56);
    }

    @Says("characters 1 .. 126: not 127 or more, wherever it stands")
    private static void noCharacterAbove126() {
        for (long letter : new long[] {127, 128, 255}) {
            refusesText(letter);
            refusesText(letter << 8 | 'a');
            refusesText(letter << 48 | text("abcdef"));
            refusesText(letter << 24 | text("abc\0efg"));
        }
    }

    @Says("A TEXT is written as a long: none is below 0")
    private static void noTextBelowZero() {
        refusesText(-1);
        refusesText(Long.MIN_VALUE);
        refusesText(Long.MIN_VALUE | text("abcdefg"));
        refusesText(-text("a"));
        refusesText(Long.MAX_VALUE);
    }

    @Says("eight bits a character, the first one lowest")
    private static void firstCharacterIsLowest() {
        long abc = 97 + 256 * 98 + 256 * 256 * 99;
        writes("abc", new GraphCourier(), 16 * abc + 6, 6, 7, 'a', 'b', 'c');
        reads("abc", new GraphCourier(), 16 * abc + 6, 6, 7, 'a', 'b', 'c');
    }

    @Says("0 UNDEFINED, 1 NULL, 2 FALSE, 3 TRUE (nothing above these)")
    private static void nothingAboveTheSimpleKinds() {
        for (long kind = 0; kind < 4; kind++) {
            takesValue(kind);
            refusesValue(16 + kind);
            refusesValue(-16 + kind);
            refusesValue((1L << 32) + kind);
            refusesValue(Long.MIN_VALUE + kind);
        }
    }

    @Says("4 INTEGER (16 * n + 4, n from -268435456 to 268435455): the bounds")
    private static void integersAtTheBounds() {
        for (long n : new long[] {-268435456, -268435455, -1, 0, 1, 268435454, 268435455}) {
            takesValue(integer(n));
        }
    }

    @Says("4 INTEGER: too small")
    private static void integersTooSmall() {
        refusesValue(integer(-268435457));
        refusesValue(integer(-536870912));
        refusesValue(integer(-(1L << 32)));
        refusesValue(integer(-(1L << 59)));
    }

    @Says("4 INTEGER: too large")
    private static void integersTooLarge() {
        refusesValue(integer(268435456));
        refusesValue(integer(536870911));
        refusesValue(integer(1L << 32));
        refusesValue(integer((1L << 59) - 1));
    }

    @Says("5 WIDE (16 * k + 5 for the wide number k that is there)")
    private static void widesThatAreThere() {
        takesValue(wideValue(0));
        for (long k : new long[] {1, 40, -1, 1L << 28, 1L << 32, (1L << 59) - 1, -(1L << 32)}) {
            refusesValue(wideValue(k));
        }
    }

    @Says("5 WIDE: the fortieth one, and not one behind it")
    private static void theLastWide() {
        GraphCourier x = withWides(40);
        writes("wide 39", x, wideValue(39), 5, 0, 0, 0, 0, 0, 0, 0, 39);
        badArgument("wide 40", () -> x.encode(wideValue(40)));
        due("same", x.same(wideValue(40), wideValue(40)), false);
    }

    @Says("7 THING (16 * i + 7 for the thing i that is there)")
    private static void thingsThatAreThere() {
        takesValue(thing(0));
        for (long i : new long[] {1, 40, -1, 1L << 28, 1L << 32, (1L << 59) - 1, -(1L << 32)}) {
            refusesValue(thing(i));
        }
    }

    @Says("7 THING: the fortieth one, and not one behind it")
    private static void theLastThing() {
        GraphCourier x = withThings(40);
        writes("thing 39", x, thing(39), 8, 1, 0, 0, 0, 0, 0, 0, 0, 39);
        badArgument("thing 40", () -> x.encode(thing(40)));
        due("same", x.same(thing(40), thing(40)), false);
    }

    @Says("A VALUE is a long: its KIND in the low four bits: none from 8 on")
    private static void noValueOfAnotherKind() {
        for (long kind = 8; kind < 16; kind++) {
            refusesValue(kind);
            refusesValue(kind - 16);
            refusesValue(kind + 16);
        }
    }

    @Says("TRAITS have 0 .. 3 MEMBERS")
    private static void noneToThreeMembers() {
        GraphCourier x = new GraphCourier();
        x.object(x.traits(0, false, 0, 0, 0));
        x.object(x.traits(0, false, 'a', 0, 0));
        x.object(x.traits(0, false, 'a', 'b', 0));
        x.object(x.traits(0, false, 'a', 'b', 'c'));
        for (int n = 0; n <= 3; n++) {
            due("items for " + n + " members", x.count(n), n);
        }
    }

    @Says("TRAITS: no two are alike in all this")
    private static void noTraitsAlike() {
        GraphCourier x = new GraphCourier();
        due("first ones", x.traits('n', true, 'a', 'b', 'c'), 0);
        due("another name", x.traits('m', true, 'a', 'b', 'c'), 1);
        due("not dynamic", x.traits('n', false, 'a', 'b', 'c'), 2);
        due("another order", x.traits('n', true, 'b', 'a', 'c'), 3);
        due("another last member", x.traits('n', true, 'a', 'b', 'd'), 4);
        due("a member fewer", x.traits('n', true, 'a', 'b', 0), 5);
        due("no members", x.traits('n', true, 0, 0, 0), 6);
        due("no name", x.traits(0, true, 'a', 'b', 'c'), 7);
        due("alike the first", x.traits('n', true, 'a', 'b', 'c'), 0);
        due("alike the third", x.traits('n', false, 'a', 'b', 'c'), 2);
        due("alike the last", x.traits(0, true, 'a', 'b', 'c'), 7);
    }

    @Says("THINGS are counted 0, 1, .. as they come; there are at most 40, of all kinds together")
    private static void fortyThingsOfAllKinds() {
        GraphCourier x = withTraits(1);
        for (int i = 0; i < 40; i += 4) {
            due("date", x.date(0), thing(i));
            due("bytes", x.bytes(0, 0), thing(i + 1));
            due("array", x.array(), thing(i + 2));
            due("object", x.object(0), thing(i + 3));
        }
        badState("one more date", () -> x.date(0));
        badState("one more bytes", () -> x.bytes(0, 0));
        badState("one more array", x::array);
        badState("one more object", () -> x.object(0));
        due("things", x.things(), 40);
        due("the last one stays", x.kind(39), GraphCourier.OBJECT);
    }

    @Says("a DATE has 64 bits")
    private static void allBitsOfADate() {
        for (long bits : new long[] {0, -1, 1, Long.MIN_VALUE, Long.MAX_VALUE, 0x0123456789ABCDEFL}) {
            GraphCourier x = new GraphCourier();
            x.date(bits);
            due("bits", x.item(0, 0), bits);
            x.encode(thing(0));
            due("read back", x.decode(), thing(1));
            due("bits read back", x.item(1, 0), bits);
        }
    }

    @Says("WIDE NUMBERS have 64 bits each; EIGHT bytes are 64 bits, the highest first")
    private static void allBitsOfAWide() {
        for (long bits : new long[] {0, -1, 1, Long.MIN_VALUE, Long.MAX_VALUE, 0x0123456789ABCDEFL}) {
            GraphCourier x = new GraphCourier();
            x.wide(bits);
            due("bits", x.bits(0), bits);
            due("size", x.encode(wideValue(0)), 9);
            for (int i = 0; i < 8; i++) {
                due("byte " + i + " of " + bits, x.byteAt(1 + i), bits >>> 56 - 8 * i & 255);
            }
            due("read back", x.decode(), wideValue(1));
            due("bits read back", x.bits(1), bits);
        }
    }

    @Says("EIGHT bytes are 64 bits, the highest first: of a DATE")
    private static void eightOfADate() {
        GraphCourier x = new GraphCourier();
        writes("date", x, x.date(0x80_02_03_04_05_06_07_FFL), 8, 1, 128, 2, 3, 4, 5, 6, 7, 255);
    }

    @Says("A NUMBER below 2^7, one byte n")
    private static void numbersOfOneByte() {
        writes("0", new GraphCourier(), integer(0), 4, 0);
        writes("1", new GraphCourier(), integer(1), 4, 1);
        writes("2^7 - 1", new GraphCourier(), integer(127), 4, 127);
    }

    @Says("below 2^14, 128 + n / 2^7 and n modulo 2^7")
    private static void numbersOfTwoBytes() {
        writes("2^7", new GraphCourier(), integer(128), 4, 129, 0);
        writes("2^8 - 1", new GraphCourier(), integer(255), 4, 129, 127);
        writes("2^14 - 1", new GraphCourier(), integer(16383), 4, 255, 127);
    }

    @Says("below 2^21, 128 + n / 2^14, 128 + n / 2^7 modulo 2^7, n modulo 2^7")
    private static void numbersOfThreeBytes() {
        writes("2^14", new GraphCourier(), integer(16384), 4, 129, 128, 0);
        writes("2^14 + 2^7 + 1", new GraphCourier(), integer(16513), 4, 129, 129, 1);
        writes("2^21 - 1", new GraphCourier(), integer(2097151), 4, 255, 255, 127);
    }

    @Says("else 128 + n / 2^22, 128 + n / 2^15 modulo 2^7, 128 + n / 2^8 modulo 2^7, n modulo 2^8")
    private static void numbersOfFourBytes() {
        writes("2^21", new GraphCourier(), integer(2097152), 4, 128, 192, 128, 0);
        writes("2^22 + 2^15 + 2^8 + 255", new GraphCourier(), integer(4227583), 4, 129, 129, 129, 255);
        writes("2^28 - 1", new GraphCourier(), integer(268435455), 4, 191, 255, 255, 255);
    }

    @Says("INTEGER: the byte 4, and the number n, or n + 2^29 if n is less than 0")
    private static void integersBelowZero() {
        writes("-1 is 2^29 - 1", new GraphCourier(), integer(-1), 4, 255, 255, 255, 255);
        writes("-2^28 is 2^28", new GraphCourier(), integer(-268435456), 4, 192, 128, 128, 0);
        writes("-256", new GraphCourier(), integer(-256), 4, 255, 255, 255, 0);
    }

    @Says("UNDEFINED to TRUE: the byte 0 to 3")
    private static void simpleKindsAreAByte() {
        for (int kind = 0; kind < 4; kind++) {
            writes("kind " + kind, new GraphCourier(), kind, kind);
        }
    }

    @Says("A STRING: if empty, the number 1, and it never comes to the list")
    private static void emptyStringsAreNotInTheList() {
        GraphCourier x = withNest(1);
        x.append(0, textValue(""));
        x.append(0, textValue("a"));
        x.append(0, textValue(""));
        x.append(0, textValue("a"));
        writes("empty ones between others", x, thing(0), 9, 9, 1, 6, 1, 6, 3, 'a', 6, 1, 6, 0);
    }

    @Says("if it is in the list of texts at place i (from 0), the number 2 * i")
    private static void textsInTheListByTheirPlace() {
        GraphCourier x = withNest(1);
        for (String letters : new String[] {"a", "ab", "b", "b", "ab", "a"}) {
            x.append(0, textValue(letters));
        }
        writes("places 2, 1, 0", x, thing(0), 9, 13, 1, 6, 3, 'a', 6, 5, 'a', 'b', 6, 3, 'b', 6, 4, 6, 2, 6, 0);
    }

    @Says("the list of texts is one for values, keys, names and members")
    private static void oneListForAllStrings() {
        GraphCourier x = new GraphCourier();
        x.object(x.traits('n', true, 'm', 0, 0));
        x.set(0, 0, textValue("n"));
        x.put(0, 'k', textValue("m"));
        x.put(0, 'n', textValue("k"));
        writes("object", x, thing(0), 10, 27, 3, 'n', 3, 'm', 6, 0, 3, 'k', 6, 2, 0, 6, 4, 1);
    }

    /** The text at place i is "a" and character i + 1; 12 stand in array 0's pairs, 8 in each of arrays 1 .. 7. */
    private static GraphCourier withManyTexts() {
        GraphCourier x = new GraphCourier();
        for (int i = 0; i < 9; i++) {
            x.array();
        }
        int place = 0;
        for (int i = 0; i < 6; i++) {
            x.put(0, text("a" + (char) (1 + place)), textValue("a" + (char) (2 + place)));
            place += 2;
        }
        for (int i = 1; i <= 8; i++) {
            x.append(0, thing(i));
        }
        for (; place < 68; place++) {
            x.append(1 + (place - 12) / 8, textValue("a" + (char) (1 + place)));
        }
        x.append(8, textValue("a" + (char) 64));
        x.append(8, textValue("a" + (char) 65));
        x.append(8, textValue("a" + (char) 68));
        return x;
    }

    @Says("a place from 64 on is a number of two bytes")
    private static void placesOfTwoBytes() {
        GraphCourier x = withManyTexts();
        x.encode(thing(0));
        rowEndsWith("places 63, 64, 67", x, 9, 7, 1, 6, 126, 6, 129, 0, 6, 129, 6);
        x.clear();
        due("read back", x.decode(), thing(0));
        due("place 63", x.item(8, 0), textValue("a" + (char) 64));
        due("place 64", x.item(8, 1), textValue("a" + (char) 65));
        due("place 67", x.item(8, 2), textValue("a" + (char) 68));
    }

    @Says("else the number 2 * its size + 1 and its characters")
    private static void stringsInFull() {
        writes("one", new GraphCourier(), textValue("~"), 6, 3, 126);
        writes("the lowest", new GraphCourier(), textValue("\1\1\1\1\1\1\1"), 6, 15, 1, 1, 1, 1, 1, 1, 1);
        writes("seven", new GraphCourier(), textValue("abcdefg"), 6, 15, 'a', 'b', 'c', 'd', 'e', 'f', 'g');
    }

    @Says("A thing: if it is in the list of things at place i, the number 2 * i, behind its own kind's byte")
    private static void thingsInTheListByTheirPlace() {
        GraphCourier x = withNest(1);
        x.date(0);
        x.bytes(0, 0);
        x.object(x.traits(0, false, 0, 0, 0));
        for (int i = 1; i <= 3; i++) {
            x.append(0, thing(i));
        }
        for (int i = 3; i >= 0; i--) {
            x.append(0, thing(i));
        }
        writes("each kind again", x, thing(0), 9, 15, 1, 8, 1, 0, 0, 0, 0, 0, 0, 0, 0, 12, 1, 10, 3, 1,
            10, 6, 12, 4, 8, 2, 9, 0);
    }

    @Says("a thing comes to the list before what is in it: a ring of one")
    private static void ringsOfOne() {
        GraphCourier x = withNest(1);
        x.put(0, 'k', thing(0));
        x.append(0, thing(0));
        writes("array", x, thing(0), 9, 3, 3, 'k', 9, 0, 1, 9, 0);
        x.object(x.traits(0, true, 'm', 0, 0));
        x.set(1, 0, thing(1));
        x.put(1, 'k', thing(1));
        writes("object", x, thing(1), 10, 27, 1, 3, 'm', 10, 0, 3, 'k', 10, 0, 1);
    }

    @Says("things that are the same but two are each written in full")
    private static void twoThingsAlikeAreTwo() {
        GraphCourier x = withNest(1);
        x.append(0, x.bytes(7, 1));
        x.append(0, x.bytes(7, 1));
        writes("two", x, thing(0), 9, 5, 1, 12, 3, 7, 12, 3, 7);
    }

    @Says("the list of things holds all 40")
    private static void fortiethThingByItsPlace() {
        // array 0 holds arrays 1 .. 5, these hold 34 dates, the last one twice
        GraphCourier x = new GraphCourier();
        for (int i = 0; i < 6; i++) {
            x.array();
            if (i > 0) {
                x.append(0, thing(i));
            }
        }
        for (int i = 0; i < 34; i++) {
            x.append(1 + i / 8, x.date(i));
        }
        x.append(5, thing(39));
        due("size", x.encode(thing(0)), 6 * 3 + 34 * 10 + 2);
        rowEndsWith("place 39", x, 33, 8, 78);
        x.clear();
        due("read back", x.decode(), thing(0));
        due("things", x.things(), 40);
        due("place 39", x.item(37, 2), thing(39));
        due("its bits", x.item(39, 0), 33);
    }

    @Says("BYTES: the number 2 * their count + 1, and they: none and eight")
    private static void noBytesAndEight() {
        GraphCourier x = new GraphCourier();
        writes("none", x, x.bytes(-1, 0), 12, 1);
        writes("one", x, x.bytes(255, 1), 12, 3, 255);
        writes("eight", x, x.bytes(0x08_07_06_05_04_80_02_FFL, 8), 12, 17, 255, 2, 128, 4, 5, 6, 7, 8);
    }

    @Says("ARRAY: the number 2 * its items + 1, its pairs, its items: none and eight")
    private static void noItemsAndEight() {
        GraphCourier x = withNest(1);
        writes("none", x, thing(0), 9, 1, 1);
        for (int i = 0; i < 8; i++) {
            x.append(0, i % 4);
        }
        writes("eight", x, thing(0), 9, 17, 1, 0, 1, 2, 3, 0, 1, 2, 3);
    }

    @Says("OBJECT: the number 16 * their members + 8 (if dynamic, else 0) + 3, their name and members as strings")
    private static void traitsInFull() {
        GraphCourier x = new GraphCourier();
        writes("none", x, x.object(x.traits(0, false, 0, 0, 0)), 10, 3, 1);
        writes("none, dynamic", x, x.object(x.traits(0, true, 0, 0, 0)), 10, 11, 1, 1);
        writes("three", x, x.object(x.traits('n', false, 'c', 'b', 'a')),
            10, 51, 3, 'n', 3, 'c', 3, 'b', 3, 'a', 0, 0, 0);
        writes("three, dynamic", x, x.object(x.traits('n', true, 'c', 'b', 'n')),
            10, 59, 3, 'n', 3, 'c', 3, 'b', 0, 0, 0, 0, 1);
    }

    @Says("OBJECT: if its traits are in the list of traits at place j, the number 4 * j + 1: 0 to 11")
    private static void traitsByTheirPlace() {
        GraphCourier x = withTraits(12);
        x.array();
        x.array();
        for (int i = 0; i < 14; i++) {
            x.append(i < 7 ? 0 : 1, x.object(i < 12 ? i : i == 12 ? 11 : 0));
            if (i == 6) {
                x.append(0, thing(1));
            }
        }
        x.encode(thing(0));
        rowEndsWith("places 11 and 0", x, 10, 19, 1, 3, 'l', 0, 10, 45, 0, 10, 1, 0);
        x.clear();
        due("read back", x.decode(), thing(0));
        due("place 11", x.traitsOf(14), 11);
        due("place 0", x.traitsOf(15), 0);
    }

    @Says("OBJECT: in both cases then its items, and, if they are dynamic, its pairs")
    private static void itemsThenPairs() {
        GraphCourier x = new GraphCourier();
        x.traits(0, true, 'a', 'b', 0);
        x.object(0);
        x.object(0);
        x.set(0, 0, TRUE);
        x.set(0, 1, thing(1));
        x.set(1, 1, FALSE);
        x.put(0, 'c', NULL);
        x.put(1, 'd', TRUE);
        writes("both", x, thing(0), 10, 43, 1, 3, 'a', 3, 'b', 3, 10, 1, 0, 2, 3, 'd', 3, 1, 3, 'c', 1, 1);
    }

    @Says("ARRAY: its pairs, its items, with texts and things of all the three lists")
    private static void arrayOfManyThings() {
        GraphCourier x = withNest(1);
        x.date(-2);
        x.bytes(0xFE02, 2);
        long[] items = {textValue("ab"), thing(1), thing(2), thing(1), thing(2), textValue(""), textValue("ab")};
        for (long value : items) {
            x.append(0, value);
        }
        x.put(0, text("ab"), thing(0));
        writes("array", x, thing(0), 9, 15, 5, 'a', 'b', 9, 0, 1, 6, 0, 8, 1, 255, 255, 255, 255, 255, 255, 255, 254,
            12, 5, 2, 254, 8, 2, 12, 4, 6, 1, 6, 0);
    }

    @Says("OBJECT: traits in full and by their places, in turn")
    private static void objectsOfTwoTraits() {
        GraphCourier x = new GraphCourier();
        x.traits('n', true, 'a', 'n', 0);
        x.traits(0, false, 'a', 0, 0);
        for (int i = 0; i < 4; i++) {
            x.object(i % 2);
        }
        x.put(0, 'b', thing(1));
        x.put(0, 'c', thing(2));
        x.put(0, 'd', thing(3));
        x.set(0, 1, thing(0));
        writes("object", x, thing(0), 10, 43, 3, 'n', 3, 'a', 0, 0, 10, 0,
            3, 'b', 10, 19, 1, 2, 0, 3, 'c', 10, 1, 0, 0, 1, 3, 'd', 10, 5, 0, 1);
    }

    @Says("Pairs: of each the key as a string and the value; then an empty string: none and six")
    private static void noPairsAndSix() {
        GraphCourier x = withNest(1);
        x.object(x.traits(0, true, 0, 0, 0));
        writes("an array's none", x, thing(0), 9, 1, 1);
        writes("an object's none", x, thing(1), 10, 11, 1, 1);
        for (int i = 0; i < 6; i++) {
            x.put(0, 'a' + i, i % 4);
            x.put(1, 'a' + i, i % 4);
        }
        int[] six = {3, 'a', 0, 3, 'b', 1, 3, 'c', 2, 3, 'd', 3, 3, 'e', 0, 3, 'f', 1, 1};
        writes("an array's six", x, thing(0), join(new int[] {9, 1}, six));
        writes("an object's six", x, thing(1), join(new int[] {10, 11, 1}, six));
    }

    public static void main(String[] args) {
        runAll(GraphCourierTerms.class);
    }
}
