/** The bounds and the refused calls that promises 1 to 28 name, call by call. */
public final class GraphCourierCalls extends Check {
    private static final int[] NO_THINGS = {-1, 4, 39, 40, Integer.MIN_VALUE, Integer.MAX_VALUE};

    /** Thing 0 is a DATE, 1 are BYTES, 2 an ARRAY with one item, 3 a dynamic OBJECT with the member "m". */
    private static GraphCourier withEachKind() {
        GraphCourier x = new GraphCourier();
        x.date(-1);
        x.bytes(0x0201, 2);
        x.array();
        x.append(2, TRUE);
        x.object(x.traits(0, true, 'm', 0, 0));
        return x;
    }

    // Promise 1

    @Says("Promise 1: Nothing is there")
    private static void newNothingIsThere() {
        GraphCourier x = new GraphCourier();
        due("things", x.things(), 0);
        due("kind", x.kind(0), -1);
        due("bits", x.bits(0), 0);
        badArgument("no traits", () -> x.object(0));
        badArgument("no wide number", () -> x.encode(wideValue(0)));
        badArgument("no thing", () -> x.encode(thing(0)));
        due("no fault", x.fault(), -1);
        due("the first traits", x.traits(0, false, 0, 0, 0), 0);
        due("the first wide number", x.wide(0), wideValue(0));
        due("the first thing", x.array(), thing(0));
    }

    @Says("Promise 1: no name is allowed but the empty text")
    private static void newNamesAllowed() {
        GraphCourier x = new GraphCourier();
        faultAt("another name", x, 2, 10, 3, 3, 'a');
        reads("the empty one", x, thing(0), 10, 3, 1);
        due("it is allowed already", x.allow(0), false);
    }

    @Says("Promise 1: the row is empty")
    private static void newRowIsEmpty() {
        GraphCourier x = new GraphCourier();
        due("size", x.size(), 0);
        due("byteAt", x.byteAt(0), -1);
        due("cut(1)", x.cut(1), false);
        badArgument("decode", x::decode);
        due("fault", x.fault(), 0);
    }

    @Says("Promise 1: what one object holds is not in another one")
    private static void newObjectsAreApart() {
        GraphCourier x = withEachKind();
        x.allow('n');
        x.wide(1);
        x.encode(thing(2));
        GraphCourier y = new GraphCourier();
        due("things", y.things(), 0);
        due("size", y.size(), 0);
        due("bits", y.bits(0), 0);
        due("allow", y.allow('n'), true);
        due("array", y.array(), thing(0));
        due("the other stays", x.kind(0), GraphCourier.DATE);
    }

    // Promise 2

    @Says("Promise 2: A new wide number: the value")
    private static void wideAnswersItsValue() {
        GraphCourier x = new GraphCourier();
        due("first", x.wide(Long.MIN_VALUE), wideValue(0));
        due("second, with the same bits", x.wide(Long.MIN_VALUE), wideValue(1));
        due("third", x.wide(-1), wideValue(2));
        due("bits(1)", x.bits(1), Long.MIN_VALUE);
        due("bits(2)", x.bits(2), -1);
        due("no thing came", x.things(), 0);
    }

    @Says("Promise 2: IllegalStateException when 40 are there")
    private static void wideWhenFull() {
        GraphCourier x = withWides(39);
        due("the fortieth", x.wide(-5), wideValue(39));
        badState("one more", () -> x.wide(7));
        due("the fortieth stays", x.bits(39), -5);
        due("there is no other", x.bits(40), 0);
        x.clear();
        due("after clear", x.wide(7), wideValue(0));
    }

    @Says("Promise 2: IllegalStateException when 40 are there, those of a reading too")
    private static void wideWhenFullByReading() {
        GraphCourier x = withWides(39);
        x.encode(wideValue(0));
        x.decode();
        badState("one more", () -> x.wide(7));
    }

    // Promises 3 to 5

    @Says("Promise 3: A new DATE: the value")
    private static void dateAnswersItsValue() {
        GraphCourier x = new GraphCourier();
        due("first", x.date(Long.MIN_VALUE), thing(0));
        due("second, with the same bits", x.date(Long.MIN_VALUE), thing(1));
        due("kind", x.kind(1), GraphCourier.DATE);
        due("bits", x.item(1, 0), Long.MIN_VALUE);
        due("things", x.things(), 2);
    }

    @Says("Promise 3: IllegalStateException when 40 things are there")
    private static void dateWhenFull() {
        GraphCourier x = withThings(39);
        due("the fortieth", x.date(-5), thing(39));
        badState("one more", () -> x.date(7));
        due("things", x.things(), 40);
        due("the fortieth stays", x.item(39, 0), -5);
        due("the first stays", x.item(0, 0), 0);
    }

    @Says("Promise 3: IllegalStateException when 40 things are there, those of a reading too")
    private static void dateWhenFullByReading() {
        GraphCourier x = withThings(39);
        x.encode(thing(38));
        due("the fortieth", x.decode(), thing(39));
        badState("one more", () -> x.date(7));
        x.clear();
        due("after clear", x.date(7), thing(0));
    }

    @Says("Promise 4: the n lowest of a long, the first one lowest")
    private static void bytesFromALong() {
        GraphCourier x = new GraphCourier();
        for (int n = 0; n <= 8; n++) {
            due("value of " + n, x.bytes(0x89_7F_80_06_05_04_03_FFL, n), thing(n));
            due("count of " + n, x.count(n), n);
            due("no byte behind, " + n, x.item(n, n), -1);
        }
        int[] all = {255, 3, 4, 5, 6, 128, 127, 137};
        for (int i = 0; i < 8; i++) {
            due("byte " + i, x.item(8, i), integer(all[i]));
        }
        due("the first of one", x.item(1, 0), integer(255));
    }

    @Says("Promise 4: IllegalArgumentException when n is not 0 .. 8")
    private static void bytesOfAWrongCount() {
        GraphCourier x = new GraphCourier();
        for (int n : new int[] {-1, 9, 16, Integer.MIN_VALUE, Integer.MAX_VALUE}) {
            badArgument("n = " + n, () -> x.bytes(0, n));
        }
        due("nothing came", x.things(), 0);
    }

    @Says("Promise 4: IllegalStateException when 40 things are there")
    private static void bytesWhenFull() {
        GraphCourier x = withThings(39);
        due("the fortieth", x.bytes(1, 1), thing(39));
        badState("one more", () -> x.bytes(2, 2));
        badState("one more, of none", () -> x.bytes(2, 0));
        badArgument("with a wrong count", () -> x.bytes(2, 9));
        due("things", x.things(), 40);
        due("the fortieth stays", x.count(39), 1);
    }

    @Says("Promise 5: A new ARRAY without items and pairs: the value")
    private static void arrayIsEmpty() {
        GraphCourier x = new GraphCourier();
        due("value", x.array(), thing(0));
        x.append(0, TRUE);
        x.put(0, 'k', TRUE);
        due("another", x.array(), thing(1));
        due("kind", x.kind(1), GraphCourier.ARRAY);
        due("items", x.count(1), 0);
        due("pairs", x.pairs(1), 0);
        x.clear();
        due("after clear", x.array(), thing(0));
        due("its items", x.count(0), 0);
        due("its pairs", x.pairs(0), 0);
    }

    @Says("Promise 5: IllegalStateException when 40 things are there")
    private static void arrayWhenFull() {
        GraphCourier x = withThings(39);
        due("the fortieth", x.array(), thing(39));
        x.append(39, TRUE);
        badState("one more", x::array);
        due("things", x.things(), 40);
        due("the fortieth stays", x.count(39), 1);
    }

    // Promise 6

    @Says("Promise 6: up to three members (the first empty text ends them)")
    private static void traitsUpToThree() {
        GraphCourier x = new GraphCourier();
        due("none", x.traits('n', false, 0, 0, 0), 0);
        due("one", x.traits('n', false, 'a', 0, 0), 1);
        due("two", x.traits('n', false, 'a', 'b', 0), 2);
        due("three", x.traits('n', false, 'a', 'b', 'c'), 3);
        for (int i = 0; i <= 3; i++) {
            x.object(i);
            due("items of " + i, x.count(i), i);
        }
        due("a member may be the name", x.traits('n', false, 'n', 0, 0), 4);
    }

    @Says("Promise 6: which these are, new ones or those that are there")
    private static void traitsThatAreThere() {
        GraphCourier x = withTraits(12);
        for (int i = 0; i < 12; i++) {
            due("traits " + i, x.traits(0, false, 'a' + i, 0, 0), i);
        }
    }

    @Says("Promise 6: IllegalArgumentException when one of the longs is no text")
    private static void traitsOfNoText() {
        GraphCourier x = new GraphCourier();
        for (long none : new long[] {127, -1, 0x6100, 0x6161616161616161L}) {
            badArgument("name " + none, () -> x.traits(none, true, 'a', 'b', 'c'));
            badArgument("a " + none, () -> x.traits('n', true, none, 'b', 'c'));
            badArgument("b " + none, () -> x.traits('n', true, 'a', none, 'c'));
            badArgument("c " + none, () -> x.traits('n', true, 'a', 'b', none));
        }
        due("none came", x.traits(0, false, 0, 0, 0), 0);
    }

    @Says("Promise 6: IllegalArgumentException when a member is told behind an empty one")
    private static void traitsBehindAnEmptyMember() {
        GraphCourier x = new GraphCourier();
        badArgument("b", () -> x.traits('n', true, 0, 'b', 0));
        badArgument("c behind a", () -> x.traits('n', true, 0, 0, 'c'));
        badArgument("c behind b", () -> x.traits('n', true, 'a', 0, 'c'));
        badArgument("b and c", () -> x.traits('n', true, 0, 'b', 'c'));
        due("none came", x.traits(0, false, 0, 0, 0), 0);
    }

    @Says("Promise 6: IllegalArgumentException when two members are the same")
    private static void traitsWithTwoMembersTheSame() {
        GraphCourier x = new GraphCourier();
        badArgument("a and b", () -> x.traits('n', true, 'a', 'a', 0));
        badArgument("a and b of three", () -> x.traits('n', true, 'a', 'a', 'c'));
        badArgument("a and c", () -> x.traits('n', true, 'a', 'b', 'a'));
        badArgument("b and c", () -> x.traits('n', true, 'a', 'b', 'b'));
        badArgument("all", () -> x.traits('n', true, 'a', 'a', 'a'));
        due("none came", x.traits(0, false, 0, 0, 0), 0);
    }

    @Says("Promise 6: IllegalStateException when these would be new and 12 are there")
    private static void traitsWhenFull() {
        GraphCourier x = withTraits(11);
        due("the twelfth", x.traits('n', true, 0, 0, 0), 11);
        badState("one more", () -> x.traits('z', true, 'a', 'b', 'c'));
        badState("alike but for the name", () -> x.traits('m', true, 0, 0, 0));
        badArgument("two members the same", () -> x.traits('z', true, 'a', 'a', 0));
        due("not new: the first", x.traits(0, false, 'a', 0, 0), 0);
        due("not new: the twelfth", x.traits('n', true, 0, 0, 0), 11);
        badArgument("there is no thirteenth", () -> x.object(12));
        due("the twelfth stays", x.object(11), thing(0));
        due("it has no members", x.count(0), 0);
        x.clear();
        due("after clear", x.traits('z', true, 'a', 'b', 'c'), 0);
    }

    // Promise 7

    @Says("Promise 7: A new OBJECT with traits, its items all UNDEFINED: the value")
    private static void objectIsEmpty() {
        GraphCourier x = new GraphCourier();
        x.traits(0, true, 'a', 'b', 'c');
        for (int round = 0; round < 2; round++) {
            due("value", x.object(0), thing(round));
            for (int i = 0; i < 3; i++) {
                due("item " + i, x.item(round, i), UNDEFINED);
                x.set(round, i, TRUE);
            }
            due("no fourth", x.item(round, 3), -1);
            due("pairs", x.pairs(round), 0);
            due("kind", x.kind(round), GraphCourier.OBJECT);
            due("traits", x.traitsOf(round), 0);
            x.put(round, 'k', TRUE);
        }
        x.clear();
        x.object(x.traits(0, true, 'c', 'b', 'a'));
        due("after clear", x.item(0, 2), UNDEFINED);
        due("its pairs", x.pairs(0), 0);
    }

    @Says("Promise 7: IllegalArgumentException when there are no such traits")
    private static void objectWithoutTraits() {
        GraphCourier none = new GraphCourier();
        badArgument("when none are there", () -> none.object(0));
        GraphCourier x = withTraits(2);
        for (int traits : new int[] {-1, 2, 11, 12, 13, Integer.MIN_VALUE, Integer.MAX_VALUE}) {
            badArgument("traits " + traits, () -> x.object(traits));
        }
        due("nothing came", x.things(), 0);
        due("the last ones", x.object(1), thing(0));
        GraphCourier full = withTraits(12);
        badArgument("one behind twelve", () -> full.object(12));
        due("the twelfth", full.object(11), thing(0));
    }

    @Says("Promise 7: IllegalStateException when 40 things are there")
    private static void objectWhenFull() {
        GraphCourier x = withThings(39);
        x.traits(0, false, 'a', 0, 0);
        due("the fortieth", x.object(0), thing(39));
        x.set(39, 0, TRUE);
        badState("one more", () -> x.object(0));
        badArgument("without traits", () -> x.object(1));
        due("things", x.things(), 40);
        due("the fortieth stays", x.item(39, 0), TRUE);
    }

    // Promises 8 to 10

    @Says("Promise 8: An ARRAY has one item more, at its end: how many then")
    private static void appendAtTheEnd() {
        GraphCourier x = withNest(1);
        for (int i = 0; i < 8; i++) {
            due("append", x.append(0, integer(i)), i + 1);
            due("count", x.count(0), i + 1);
            due("last", x.item(0, i), integer(i));
        }
        due("the first stays", x.item(0, 0), integer(0));
    }

    @Says("Promise 8: IllegalArgumentException when there is no such ARRAY")
    private static void appendToNoArray() {
        GraphCourier x = withEachKind();
        changesNothing("append", x, () -> {
            badArgument("a date", () -> x.append(0, TRUE));
            badArgument("bytes", () -> x.append(1, integer(1)));
            badArgument("an object", () -> x.append(3, TRUE));
            for (int none : NO_THINGS) {
                badArgument("thing " + none, () -> x.append(none, TRUE));
            }
        });
    }

    @Says("Promise 8: IllegalArgumentException when value is none")
    private static void appendNoValue() {
        GraphCourier x = withEachKind();
        changesNothing("append", x, () -> {
            for (long none : new long[] {8, 15, -1, 16, wideValue(0), thing(4), integer(268435456)}) {
                badArgument("value " + none, () -> x.append(2, none));
            }
        });
    }

    @Says("Promise 8: IllegalStateException when it has 8")
    private static void appendWhenFull() {
        GraphCourier x = withNest(1);
        for (int i = 0; i < 8; i++) {
            x.append(0, integer(i));
        }
        changesNothing("append", x, () -> {
            badState("a ninth", () -> x.append(0, NULL));
            badArgument("a ninth that is no value", () -> x.append(0, 8));
        });
        due("one item can still be set", setAnswers(x, 0, 7, TRUE), TRUE);
    }

    private static long setAnswers(GraphCourier x, int thing, int i, long value) {
        x.set(thing, i, value);
        return x.item(thing, i);
    }

    @Says("Promise 9: Item i of an ARRAY or OBJECT becomes a value: the first and the last")
    private static void setFirstAndLast() {
        GraphCourier x = withNest(1);
        for (int i = 0; i < 8; i++) {
            x.append(0, integer(i));
        }
        x.object(x.traits(0, false, 'a', 'b', 'c'));
        due("first of an array", setAnswers(x, 0, 0, thing(0)), thing(0));
        due("last of an array", setAnswers(x, 0, 7, textValue("t")), textValue("t"));
        due("others stay", x.item(0, 1), integer(1));
        due("first of an object", setAnswers(x, 1, 0, thing(1)), thing(1));
        due("last of an object", setAnswers(x, 1, 2, TRUE), TRUE);
        due("the other stays", x.item(1, 1), UNDEFINED);
        due("count stays", x.count(0), 8);
    }

    @Says("Promise 9: IllegalArgumentException when there is no such thing")
    private static void setInNoThing() {
        GraphCourier x = withEachKind();
        changesNothing("set", x, () -> {
            badArgument("a date", () -> x.set(0, 0, TRUE));
            badArgument("bytes", () -> x.set(1, 0, integer(1)));
            for (int none : NO_THINGS) {
                badArgument("thing " + none, () -> x.set(none, 0, TRUE));
            }
        });
    }

    @Says("Promise 9: IllegalArgumentException when there is no such item")
    private static void setNoItem() {
        GraphCourier x = withEachKind();
        x.array();
        changesNothing("set", x, () -> {
            for (int i : new int[] {-1, 1, 7, 8, Integer.MIN_VALUE, Integer.MAX_VALUE}) {
                badArgument("item " + i + " of an array", () -> x.set(2, i, TRUE));
                badArgument("item " + i + " of an object", () -> x.set(3, i, TRUE));
            }
            badArgument("item 0 of an empty array", () -> x.set(4, 0, TRUE));
        });
    }

    @Says("Promise 9: IllegalArgumentException when value is none")
    private static void setNoValue() {
        GraphCourier x = withEachKind();
        changesNothing("set", x, () -> {
            for (long none : new long[] {8, 15, -1, 16, wideValue(0), thing(4), integer(-268435457)}) {
                badArgument("value " + none + " in an array", () -> x.set(2, 0, none));
                badArgument("value " + none + " in an object", () -> x.set(3, 0, none));
            }
        });
    }

    @Says("Promise 10: The key has a value from now on; a new key comes behind the others. How many then")
    private static void putBehindTheOthers() {
        GraphCourier x = withEachKind();
        for (int holder = 2; holder <= 3; holder++) {
            for (int i = 0; i < 6; i++) {
                due("put", x.put(holder, 'f' - i, integer(i)), i + 1);
                due("key", x.pair(holder, i, true), 'f' - i);
                due("value", x.pair(holder, i, false), integer(i));
            }
            due("pairs", x.pairs(holder), 6);
        }
    }

    @Says("Promise 10: a key that is there stays where it is, when six are there too")
    private static void putOnAKeyThatIsThere() {
        GraphCourier x = withEachKind();
        for (int holder = 2; holder <= 3; holder++) {
            x.put(holder, 'a', NULL);
            due("of one", x.put(holder, 'a', TRUE), 1);
            due("value", x.pair(holder, 0, false), TRUE);
            for (int i = 1; i < 6; i++) {
                x.put(holder, 'a' + i, NULL);
            }
            due("the first of six", x.put(holder, 'a', FALSE), 6);
            due("the last of six", x.put(holder, 'f', FALSE), 6);
            due("first key", x.pair(holder, 0, true), 'a');
            due("first value", x.pair(holder, 0, false), FALSE);
            due("second value stays", x.pair(holder, 1, false), NULL);
            due("last value", x.pair(holder, 5, false), FALSE);
        }
    }

    @Says("Promise 10: IllegalArgumentException when there is no such thing (an ARRAY or dynamic OBJECT)")
    private static void putInNoThing() {
        GraphCourier x = new GraphCourier();
        x.date(0);
        x.bytes(1, 1);
        x.object(x.traits(0, false, 'm', 0, 0));
        x.object(x.traits(0, false, 0, 0, 0));
        changesNothing("put", x, () -> {
            badArgument("a date", () -> x.put(0, 'k', TRUE));
            badArgument("bytes", () -> x.put(1, 'k', TRUE));
            badArgument("an object that is not dynamic", () -> x.put(2, 'k', TRUE));
            badArgument("one without members", () -> x.put(3, 'k', TRUE));
            for (int none : NO_THINGS) {
                badArgument("thing " + none, () -> x.put(none, 'k', TRUE));
            }
        });
    }

    @Says("Promise 10: IllegalArgumentException when key is no text that a key can be there")
    private static void putNoKey() {
        GraphCourier x = withEachKind();
        x.object(x.traits('n', true, 'a', 'b', 'c'));
        changesNothing("put", x, () -> {
            for (int holder = 2; holder <= 4; holder++) {
                int h = holder;
                for (long none : new long[] {0, 127, -1, 0x6100, 0x6161616161616161L}) {
                    badArgument("key " + none, () -> x.put(h, none, TRUE));
                }
            }
            badArgument("the member", () -> x.put(3, 'm', TRUE));
            badArgument("the first of three members", () -> x.put(4, 'a', TRUE));
            badArgument("the last of three members", () -> x.put(4, 'c', TRUE));
        });
        due("another thing's member", x.put(4, 'm', TRUE), 1);
        due("the name", x.put(4, 'n', TRUE), 2);
        due("an array has no members", x.put(2, 'm', TRUE), 1);
    }

    @Says("Promise 10: IllegalArgumentException when value is none")
    private static void putNoValue() {
        GraphCourier x = withEachKind();
        x.put(2, 'k', TRUE);
        changesNothing("put", x, () -> {
            for (long none : new long[] {8, 15, -1, 16, wideValue(0), thing(4), integer(268435456)}) {
                badArgument("value " + none, () -> x.put(2, 'k', none));
                badArgument("value " + none + " of a new key", () -> x.put(3, 'l', none));
            }
        });
    }

    @Says("Promise 10: IllegalStateException when it would be a seventh")
    private static void putSeventh() {
        GraphCourier x = withEachKind();
        for (int i = 0; i < 6; i++) {
            x.put(2, 'a' + i, NULL);
            x.put(3, 'a' + i, NULL);
        }
        changesNothing("put", x, () -> {
            badState("an array's", () -> x.put(2, 'g', TRUE));
            badState("an object's", () -> x.put(3, 'g', TRUE));
            badArgument("a member", () -> x.put(3, 'm', TRUE));
            badArgument("an empty key", () -> x.put(2, 0, TRUE));
            badArgument("no value", () -> x.put(2, 'g', 8));
        });
    }

    // Promise 11

    @Says("Promise 11: Traits with this name may be read from now on")
    private static void allowFromNowOn() {
        GraphCourier x = new GraphCourier();
        faultAt("before", x, 2, 10, 3, 3, 'n');
        due("allow", x.allow('n'), true);
        due("after", x.decode(), thing(0));
        faultAt("a longer name", x, 2, 10, 3, 5, 'n', 'n');
        due("seven letters", x.allow(text("abcdefg")), true);
        reads("them", x, thing(1), 10, 3, 15, 'a', 'b', 'c', 'd', 'e', 'f', 'g');
    }

    @Says("Promise 11: False, changing nothing, when it is no text")
    private static void allowNoText() {
        GraphCourier x = new GraphCourier();
        for (long none : new long[] {127, -1, 0x6100, 0x6161616161616161L, Long.MIN_VALUE, Long.MAX_VALUE, 255}) {
            due("allow " + none, x.allow(none), false);
        }
        for (int i = 0; i < 6; i++) {
            due("six are still free, " + i, x.allow('a' + i), true);
        }
    }

    @Says("Promise 11: False, changing nothing, when it is allowed already")
    private static void allowTwice() {
        GraphCourier x = new GraphCourier();
        for (int i = 0; i < 6; i++) {
            due("the empty text", x.allow(0), false);
            due("name " + i, x.allow('a' + i), true);
            due("name " + i + " again", x.allow('a' + i), false);
            due("the first again", x.allow('a'), false);
        }
    }

    @Says("Promise 11: False, changing nothing, when six besides the empty text are allowed")
    private static void allowSeventh() {
        GraphCourier x = new GraphCourier();
        for (int i = 0; i < 6; i++) {
            x.allow('a' + i);
        }
        due("a seventh", x.allow('g'), false);
        due("once more", x.allow('g'), false);
        faultAt("it is not read", x, 2, 10, 3, 3, 'g');
        reads("the first is", x, thing(0), 10, 3, 3, 'a');
        reads("the sixth is", x, thing(1), 10, 3, 3, 'f');
        reads("the empty one is", x, thing(2), 10, 3, 1);
    }

    // Promise 12

    @Says("Promise 12: the row is what comes of it; how many bytes it has")
    private static void encodeReplacesTheRow() {
        GraphCourier x = new GraphCourier();
        writes("a long one", x, textValue("abcdefg"), 6, 15, 'a', 'b', 'c', 'd', 'e', 'f', 'g');
        writes("a shorter one", x, TRUE, 3);
        writes("a longer one", x, integer(128), 4, 129, 0);
        writes("a text again, in full", x, textValue("a"), 6, 3, 'a');
    }

    @Says("Promise 12: what was written before is told again in full")
    private static void encodeBeginsAnew() {
        GraphCourier x = withNest(1);
        x.append(0, x.object(x.traits(0, false, 'm', 0, 0)));
        x.append(0, textValue("m"));
        for (int i = 0; i < 2; i++) {
            writes("round " + i, x, thing(0), 9, 5, 1, 10, 19, 1, 3, 'm', 0, 6, 0);
        }
    }

    @Says("Promise 12: IllegalArgumentException when it is no value. What throws leaves the row")
    private static void encodeNoValue() {
        GraphCourier x = withEachKind();
        x.encode(textValue("row"));
        changesNothing("encode", x, () -> {
            for (long none : new long[] {8, 15, -1, 16, wideValue(0), thing(4), thing(-1), integer(268435456)}) {
                badArgument("value " + none, () -> x.encode(none));
            }
        });
    }

    @Says("Promise 12: a row of 600 bytes")
    private static void encodeSixHundred() {
        GraphCourier x = withLongest();
        due("size", x.encode(thing(0)), 600);
        due("size()", x.size(), 600);
        due("last byte", x.byteAt(599), 255);
        x.clear();
        due("read back", x.decode(), thing(0));
        due("its last thing's last item", x.item(7, 7), integer(-1));
        due("written again", x.encode(thing(0)), 600);
    }

    @Says("Promise 12: IllegalStateException when there would be more than 600. What throws leaves the row")
    private static void encodeMoreThanSixHundred() {
        GraphCourier x = withLongest();
        x.put(3, LONGEST_KEY, integer(16384));
        x.encode(textValue("row"));
        badState("601", () -> x.encode(thing(0)));
        rowIs("the row", x, 6, 7, 'r', 'o', 'w');
        x.put(3, LONGEST_KEY, integer(129));
        due("600 again", x.encode(thing(0)), 600);
        x.put(7, LONGEST_KEY, wideValue(0));
        badState("more by a pair", () -> x.encode(thing(0)));
        due("the row stays long", x.size(), 600);
        due("with its last byte", x.byteAt(599), 255);
        due("a part of it is shorter", x.encode(thing(7)), 3 + 8 + 9 + 40);
    }

    @Says("Promise 12: twelve things inside of one another can be written")
    private static void encodeTwelveDeep() {
        GraphCourier x = withNest(11);
        x.append(10, x.date(0));
        due("arrays and a date", x.encode(thing(0)), 11 * 3 + 10);
        due("read back", x.decode(), thing(12));
        due("same", x.same(thing(0), thing(12)), true);
    }

    @Says("Promise 12: IllegalStateException when a thing is inside of twelve others. What throws leaves the row")
    private static void encodeInsideOfTwelve() {
        GraphCourier x = withNest(12);
        x.traits(0, false, 0, 0, 0);
        x.append(11, textValue("a"));
        due("a text may be there", x.encode(thing(0)), 39);
        long[] made = {x.date(0), x.bytes(0, 0), x.array(), x.object(0)};
        x.encode(textValue("row"));
        for (long value : made) {
            x.set(11, 0, value);
            badState("value " + value, () -> x.encode(thing(0)));
        }
        rowIs("the row", x, 6, 7, 'r', 'o', 'w');
        due("from the second on", x.encode(thing(1)), 11 * 3 + 3);
    }

    @Says("Promise 12: inside of twelve others by pairs")
    private static void encodeInsideOfTwelveByPairs() {
        GraphCourier x = new GraphCourier();
        for (int i = 0; i < 13; i++) {
            x.array();
            if (i > 0) {
                x.put(i - 1, 'k', thing(i));
            }
        }
        due("twelve", x.encode(thing(1)), 4 + 10 * 3 + 1 + 1 + 12);
        badState("thirteen", () -> x.encode(thing(0)));
        due("the row stays", x.size(), 48);
    }

    @Says("Promise 12: inside of twelve others in objects, by items and by pairs")
    private static void encodeInsideOfTwelveInObjects() {
        GraphCourier x = new GraphCourier();
        x.traits(0, true, 'm', 0, 0);
        for (int i = 0; i < 13; i++) {
            x.object(0);
            if (i > 6) {
                x.put(i - 1, 'k', thing(i));
            } else if (i > 0) {
                x.set(i - 1, 0, thing(i));
            }
        }
        due("twelve", x.encode(thing(1)), 53);
        badState("thirteen", () -> x.encode(thing(0)));
        due("the row stays", x.size(), 53);
    }

    @Says("Promise 12: inside of twelve others (that are not complete yet): a thing told by its place may be there")
    private static void encodePlaceInsideOfTwelve() {
        GraphCourier x = withNest(12);
        x.append(11, thing(0));
        due("a ring of twelve", x.encode(thing(0)), 38);
        x.set(11, 0, thing(11));
        due("a ring of one inside of eleven", x.encode(thing(0)), 38);
        x.set(11, 0, x.bytes(0, 0));
        x.put(0, 'k', thing(12));
        due("one that is complete", x.encode(thing(0)), 36 + 2 + 2 + 2);
        due("read back", x.decode(), thing(13));
        due("same", x.same(thing(0), thing(13)), true);
    }

    @Says("Promise 12: inside of twelve others (that are not complete yet): complete ones do not count")
    private static void encodeManyBesideOneAnother() {
        GraphCourier x = withNest(12);
        for (int i = 0; i < 7; i++) {
            long inner = x.array();
            x.append((int) (inner >> 4), x.array());
            x.append(0, inner);
        }
        x.append(11, NULL);
        due("26 things", x.encode(thing(0)), 26 * 3 + 1);
    }

    // Promises 13 and 14

    @Says("Promise 13: Reads the row: the value; the row stays")
    private static void decodeLeavesTheRow() {
        GraphCourier x = new GraphCourier();
        reads("a thing", x, thing(0), 9, 3, 1, 9, 0);
        rowIs("the row", x, 9, 3, 1, 9, 0);
        due("once more", x.decode(), thing(1));
        due("it holds itself", x.item(1, 0), thing(1));
    }

    @Says("Promise 13: IllegalArgumentException when it has a fault; then nothing has been made; the row stays")
    private static void decodeWithAFault() {
        GraphCourier x = withEachKind();
        tell(x, 9, 5, 1, 5, 0, 0, 0, 0, 0, 0, 0, 9, 7);
        changesNothing("decode", x, () -> badArgument("decode", x::decode));
        due("no wide number", x.bits(0), 0);
        due("the next thing", x.array(), thing(4));
        due("it is empty", x.count(4), 0);
    }

    @Says("Promise 14: The place of the fault that the latest decode() met")
    private static void faultOfTheLatestDecode() {
        GraphCourier x = new GraphCourier();
        faultAt("first", x, 1, 9);
        faultAt("second", x, 0, 7);
        faultAt("third", x, 3, 9, 3, 1);
        due("asked again", x.fault(), 3);
        x.encode(TRUE);
        due("encode does not change it", x.fault(), 3);
        x.alter(0, 2);
        x.cut(0);
        x.array();
        due("nor do other calls", x.fault(), 3);
        x.clear();
        due("nor does clear", x.fault(), 3);
    }

    @Says("Promise 14: -1 if it met none")
    private static void faultAfterNone() {
        GraphCourier x = new GraphCourier();
        faultAt("a fault", x, 1, 9);
        reads("none", x, TRUE, 3);
        due("asked again", x.fault(), -1);
    }

    @Says("Promise 14: -1 if there was none")
    private static void faultBeforeAnyDecode() {
        GraphCourier x = new GraphCourier();
        due("new", x.fault(), -1);
        x.alter(0, 7);
        x.array();
        x.clear();
        due("without a decode", x.fault(), -1);
    }

    // Promises 15 to 18

    @Says("Promise 15: How many bytes the row has")
    private static void sizeOfTheRow() {
        GraphCourier x = new GraphCourier();
        due("empty", x.size(), 0);
        x.alter(0, 0);
        due("one", x.size(), 1);
        x.encode(textValue("abc"));
        due("five", x.size(), 5);
        x.cut(4);
        due("four", x.size(), 4);
        x.cut(0);
        due("none", x.size(), 0);
        GraphCourier longest = withLongest();
        longest.encode(thing(0));
        due("600", longest.size(), 600);
    }

    @Says("Promise 16: Byte i of the row; -1 when there is none")
    private static void byteAtNoPlace() {
        GraphCourier x = new GraphCourier();
        due("of an empty row", x.byteAt(0), -1);
        tell(x, 255, 0, 128);
        due("first", x.byteAt(0), 255);
        due("second", x.byteAt(1), 0);
        due("last", x.byteAt(2), 128);
        for (int i : new int[] {-1, 3, 599, 600, Integer.MIN_VALUE, Integer.MAX_VALUE}) {
            due("byte " + i, x.byteAt(i), -1);
        }
        x.cut(2);
        due("what is cut off", x.byteAt(2), -1);
    }

    @Says("Promise 16: Byte i of the row, of a row of 600")
    private static void byteAtTheEndOfTheLongest() {
        GraphCourier x = withLongest();
        x.encode(thing(0));
        x.alter(599, 77);
        due("last", x.byteAt(599), 77);
        due("behind", x.byteAt(600), -1);
    }

    @Says("Promise 17: Byte i of the row becomes b")
    private static void alterInside() {
        GraphCourier x = new GraphCourier();
        tell(x, 1, 2, 3);
        due("first", x.alter(0, 255), true);
        due("last", x.alter(2, 0), true);
        rowIs("row", x, 255, 2, 0);
    }

    @Says("Promise 17: i may be the size: it is one longer then")
    private static void alterAtTheSize() {
        GraphCourier x = new GraphCourier();
        due("of an empty row", x.alter(0, 7), true);
        due("of a row of one", x.alter(1, 8), true);
        rowIs("row", x, 7, 8);
        x.cut(1);
        due("after a cut", x.alter(1, 9), true);
        rowIs("row then", x, 7, 9);
    }

    @Says("Promise 17: False, changing nothing, when i is not so")
    private static void alterAtNoPlace() {
        GraphCourier x = new GraphCourier();
        tell(x, 1, 2);
        changesNothing("alter", x, () -> {
            for (int i : new int[] {-1, 3, 599, 600, 601, Integer.MIN_VALUE, Integer.MAX_VALUE}) {
                due("alter(" + i + ")", x.alter(i, 5), false);
            }
        });
        GraphCourier y = new GraphCourier();
        due("alter(1) of an empty row", y.alter(1, 5), false);
        due("it is empty still", y.size(), 0);
    }

    @Says("Promise 17: False, changing nothing, when b is not 0 .. 255")
    private static void alterToNoByte() {
        GraphCourier x = new GraphCourier();
        tell(x, 1, 2);
        changesNothing("alter", x, () -> {
            for (int b : new int[] {-1, 256, -256, Integer.MIN_VALUE, Integer.MAX_VALUE}) {
                due("byte 1 to " + b, x.alter(1, b), false);
                due("byte 2 to " + b, x.alter(2, b), false);
            }
        });
        due("0", x.alter(1, 0), true);
        due("255", x.alter(2, 255), true);
        rowIs("row", x, 1, 0, 255);
    }

    @Says("Promise 17: False, changing nothing, when it would have more than 600")
    private static void alterBeyondSixHundred() {
        GraphCourier x = withLongest();
        x.encode(thing(0));
        due("at the size", x.alter(600, 5), false);
        due("size", x.size(), 600);
        due("behind it nothing is", x.byteAt(600), -1);
        due("the last byte may change", x.alter(599, 5), true);
        due("it did", x.byteAt(599), 5);
        x.cut(599);
        due("from 599 to 600", x.alter(599, 6), true);
        due("size then", x.size(), 600);
        due("that byte", x.byteAt(599), 6);
        due("not to 601", x.alter(600, 6), false);
    }

    @Says("Promise 18: The row ends before byte n from now on, if it has more bytes")
    private static void cutShorter() {
        GraphCourier x = new GraphCourier();
        tell(x, 1, 2, 3, 4);
        due("cut(3)", x.cut(3), true);
        rowIs("three", x, 1, 2, 3);
        due("cut(1)", x.cut(1), true);
        rowIs("one", x, 1);
        due("cut(0)", x.cut(0), true);
        rowIs("none", x);
    }

    @Says("Promise 18: n may be its size, and nothing is cut off then")
    private static void cutAtTheSize() {
        GraphCourier x = new GraphCourier();
        due("of an empty row", x.cut(0), true);
        tell(x, 1, 2);
        due("of two", x.cut(2), true);
        rowIs("two", x, 1, 2);
    }

    @Says("Promise 18: False, changing nothing, when n is not 0 .. its size")
    private static void cutAtNoPlace() {
        GraphCourier x = new GraphCourier();
        tell(x, 1, 2);
        changesNothing("cut", x, () -> {
            for (int n : new int[] {-1, 3, 600, Integer.MIN_VALUE, Integer.MAX_VALUE}) {
                due("cut(" + n + ")", x.cut(n), false);
            }
        });
        x.cut(1);
        due("what is cut off does not come back", x.cut(2), false);
        due("size", x.size(), 1);
    }

    // Promises 19 to 26

    @Says("Promise 19: How many things there are: none to 40")
    private static void thingsNoneToForty() {
        GraphCourier x = new GraphCourier();
        for (int i = 0; i < 40; i++) {
            due("things", x.things(), i);
            x.array();
        }
        due("forty", x.things(), 40);
        badState("one more", x::array);
        due("forty still", x.things(), 40);
        x.wide(0);
        x.traits(0, false, 0, 0, 0);
        due("wide numbers and traits do not count", x.things(), 40);
    }

    @Says("Promise 20: DATE, ARRAY, OBJECT or BYTES; -1 when there is no such thing")
    private static void kindOfEach() {
        GraphCourier x = withEachKind();
        due("date", x.kind(0), 8);
        due("bytes", x.kind(1), 12);
        due("array", x.kind(2), 9);
        due("object", x.kind(3), 10);
        for (int none : NO_THINGS) {
            due("thing " + none, x.kind(none), -1);
        }
        GraphCourier full = withThings(40);
        due("the fortieth", full.kind(39), 8);
        due("behind it", full.kind(40), -1);
    }

    @Says("Promise 21: How many items or bytes; 0 for a DATE, -1 when there is no such thing")
    private static void countOfEach() {
        GraphCourier x = withEachKind();
        due("date", x.count(0), 0);
        due("bytes", x.count(1), 2);
        due("array", x.count(2), 1);
        due("object", x.count(3), 1);
        x.put(2, 'k', TRUE);
        x.put(3, 'k', TRUE);
        due("pairs of an array do not count", x.count(2), 1);
        due("nor those of an object", x.count(3), 1);
        for (int none : NO_THINGS) {
            due("thing " + none, x.count(none), -1);
        }
        GraphCourier full = withThings(40);
        due("the fortieth", full.count(39), 0);
        due("behind it", full.count(40), -1);
    }

    @Says("Promise 22: Item i of an ARRAY or OBJECT; -1 when there is none")
    private static void itemOfArrayAndObject() {
        GraphCourier x = withEachKind();
        due("array's", x.item(2, 0), TRUE);
        due("object's", x.item(3, 0), UNDEFINED);
        for (int i : new int[] {-1, 1, 8, Integer.MIN_VALUE, Integer.MAX_VALUE}) {
            due("array's " + i, x.item(2, i), -1);
            due("object's " + i, x.item(3, i), -1);
        }
        x.array();
        due("an empty array's", x.item(4, 0), -1);
        for (int i = 1; i < 8; i++) {
            x.append(2, integer(i));
        }
        due("a full array's last", x.item(2, 7), integer(7));
        due("behind it", x.item(2, 8), -1);
    }

    @Says("Promise 22: byte i of BYTES, as an INTEGER; -1 when there is none")
    private static void itemOfBytes() {
        GraphCourier x = new GraphCourier();
        x.bytes(0xFF_00_00_00_00_00_00_80L, 8);
        x.bytes(0, 0);
        due("first", x.item(0, 0), integer(128));
        due("last", x.item(0, 7), integer(255));
        due("zero", x.item(0, 1), integer(0));
        for (int i : new int[] {-1, 8, Integer.MIN_VALUE, Integer.MAX_VALUE}) {
            due("byte " + i, x.item(0, i), -1);
        }
        due("of no bytes", x.item(1, 0), -1);
    }

    @Says("Promise 22: the bits of a DATE for i = 0, as a plain long; -1 when there is none")
    private static void itemOfDate() {
        GraphCourier x = new GraphCourier();
        x.date(Long.MIN_VALUE);
        due("bits", x.item(0, 0), Long.MIN_VALUE);
        for (int i : new int[] {-1, 1, 7, Integer.MIN_VALUE, Integer.MAX_VALUE}) {
            due("item " + i, x.item(0, i), -1);
        }
    }

    @Says("Promise 22: -1 when there is no such thing")
    private static void itemOfNoThing() {
        GraphCourier x = withEachKind();
        for (int none : NO_THINGS) {
            due("thing " + none, x.item(none, 0), -1);
        }
    }

    @Says("Promise 23: How many pairs a thing has; 0 when it can have none")
    private static void pairsOfEach() {
        GraphCourier x = withEachKind();
        x.object(x.traits(0, false, 'm', 0, 0));
        due("date", x.pairs(0), 0);
        due("bytes", x.pairs(1), 0);
        due("object that is not dynamic", x.pairs(4), 0);
        for (int i = 0; i < 6; i++) {
            due("array", x.pairs(2), i);
            due("object", x.pairs(3), i);
            x.put(2, 'a' + i, NULL);
            x.put(3, 'a' + i, NULL);
        }
        due("array's six", x.pairs(2), 6);
        due("object's six", x.pairs(3), 6);
    }

    @Says("Promise 23: 0 when there is no such thing")
    private static void pairsOfNoThing() {
        GraphCourier x = withEachKind();
        for (int none : NO_THINGS) {
            due("thing " + none, x.pairs(none), 0);
        }
    }

    @Says("Promise 24: The key (a text) of pair i, or its value; -1 when there is none")
    private static void pairOfEach() {
        GraphCourier x = withEachKind();
        for (int i = 0; i < 6; i++) {
            x.put(2, text("ke" + (char) ('a' + i)), integer(i));
        }
        due("first key", x.pair(2, 0, true), text("kea"));
        due("first value", x.pair(2, 0, false), integer(0));
        due("last key", x.pair(2, 5, true), text("kef"));
        due("last value", x.pair(2, 5, false), integer(5));
        for (int i : new int[] {-1, 6, Integer.MIN_VALUE, Integer.MAX_VALUE}) {
            due("key " + i, x.pair(2, i, true), -1);
            due("value " + i, x.pair(2, i, false), -1);
        }
        x.put(3, 'k', TRUE);
        due("object's key", x.pair(3, 0, true), 'k');
        due("object's value", x.pair(3, 0, false), TRUE);
        due("no other key", x.pair(3, 1, true), -1);
        due("no other value", x.pair(3, 1, false), -1);
    }

    @Says("Promise 24: -1 when there is none: of a thing without pairs, of no thing")
    private static void pairOfNone() {
        GraphCourier x = withEachKind();
        for (int i = 0; i < 4; i++) {
            due("key of " + i, x.pair(i, 0, true), -1);
            due("value of " + i, x.pair(i, 0, false), -1);
        }
        for (int none : NO_THINGS) {
            due("key of " + none, x.pair(none, 0, true), -1);
            due("value of " + none, x.pair(none, 0, false), -1);
        }
    }

    @Says("Promise 25: The traits of an OBJECT; -1 when it is none")
    private static void traitsOfEach() {
        GraphCourier x = withEachKind();
        due("date", x.traitsOf(0), -1);
        due("bytes", x.traitsOf(1), -1);
        due("array", x.traitsOf(2), -1);
        due("object", x.traitsOf(3), 0);
        for (int none : NO_THINGS) {
            due("thing " + none, x.traitsOf(none), -1);
        }
        GraphCourier full = withTraits(12);
        full.object(11);
        due("the twelfth", full.traitsOf(0), 11);
        full.clear();
        full.array();
        due("an array where an object was", full.traitsOf(0), -1);
    }

    @Says("Promise 26: The bits of the wide number k; 0 when it is not there")
    private static void bitsOfEach() {
        GraphCourier x = new GraphCourier();
        due("when none is there", x.bits(0), 0);
        for (int k = 0; k < 40; k++) {
            x.wide(~k);
        }
        due("first", x.bits(0), -1);
        due("last", x.bits(39), -40);
        for (int k : new int[] {-1, 40, Integer.MIN_VALUE, Integer.MAX_VALUE}) {
            due("bits(" + k + ")", x.bits(k), 0);
        }
        x.clear();
        due("after clear", x.bits(0), 0);
    }

    // Promise 27

    @Says("Promise 27: both of one kind and below 5 or 6 equal")
    private static void sameSimpleValues() {
        GraphCourier x = new GraphCourier();
        long[] all = {UNDEFINED, NULL, FALSE, TRUE, integer(0), integer(1), integer(-268435456), integer(268435455),
            textValue(""), textValue("a"), textValue("ab"), textValue("abcdefg")};
        for (int i = 0; i < all.length; i++) {
            for (int k = 0; k < all.length; k++) {
                due(all[i] + " and " + all[k], x.same(all[i], all[k]), i == k);
            }
        }
    }

    @Says("Promise 27: wide numbers with the same bits")
    private static void sameWides() {
        GraphCourier x = withWides(39);
        x.wide(0);
        due("first and last", x.same(wideValue(0), wideValue(39)), true);
        due("others", x.same(wideValue(0), wideValue(1)), false);
        due("an integer", x.same(wideValue(0), integer(0)), false);
    }

    @Says("Promise 27: things of one kind")
    private static void sameKindsOnly() {
        GraphCourier x = withTraits(0);
        x.date(0);
        x.bytes(0, 0);
        x.array();
        x.object(x.traits(0, true, 0, 0, 0));
        for (int i = 0; i < 4; i++) {
            for (int k = 0; k < 4; k++) {
                due(i + " and " + k, x.same(thing(i), thing(k)), i == k);
            }
            due(i + " and UNDEFINED", x.same(thing(i), UNDEFINED), false);
        }
    }

    @Says("Promise 27: and with the same bits or bytes")
    private static void sameBitsAndBytes() {
        GraphCourier x = new GraphCourier();
        x.date(5);
        x.date(5);
        x.date(5L << 32 | 5);
        x.bytes(0x0201, 2);
        x.bytes(0xFF0201, 2);
        x.bytes(0x0101, 2);
        x.bytes(0x0202, 2);
        x.bytes(0x0201, 1);
        x.bytes(0x0201, 3);
        due("dates", x.same(thing(0), thing(1)), true);
        due("other bits", x.same(thing(0), thing(2)), false);
        due("bytes", x.same(thing(3), thing(4)), true);
        due("another last byte", x.same(thing(3), thing(5)), false);
        due("another first byte", x.same(thing(3), thing(6)), false);
        due("fewer bytes", x.same(thing(3), thing(7)), false);
        due("more bytes", x.same(thing(3), thing(8)), false);
    }

    @Says("Promise 27: the same traits")
    private static void sameTraits() {
        GraphCourier x = new GraphCourier();
        x.object(x.traits('n', false, 'a', 'b', 0));
        x.object(0);
        x.object(x.traits('n', false, 'b', 'a', 0));
        x.object(x.traits('n', true, 'a', 'b', 0));
        x.object(x.traits('m', false, 'a', 'b', 0));
        due("these", x.same(thing(0), thing(1)), true);
        for (int i = 2; i <= 4; i++) {
            due("others", x.same(thing(0), thing(i)), false);
        }
    }

    @Says("Promise 27: as many items; their items are SAME in turn")
    private static void sameItems() {
        GraphCourier x = withTraits(1);
        for (int i = 0; i < 4; i++) {
            x.array();
        }
        for (int i = 0; i < 8; i++) {
            x.append(0, integer(i));
            x.append(1, integer(i));
            if (i < 7) {
                x.append(2, integer(i));
            }
            x.append(3, integer(i < 7 ? i : 9));
        }
        due("eight and eight", x.same(thing(0), thing(1)), true);
        due("eight and seven", x.same(thing(0), thing(2)), false);
        due("seven and eight", x.same(thing(2), thing(0)), false);
        due("another last one", x.same(thing(0), thing(3)), false);
        x.object(0);
        x.object(0);
        due("objects", x.same(thing(4), thing(5)), true);
        x.set(5, 0, NULL);
        due("an object's other item", x.same(thing(4), thing(5)), false);
    }

    @Says("Promise 27: as many pairs, with the same keys in the same order; their values are SAME in turn")
    private static void samePairs() {
        GraphCourier x = new GraphCourier();
        for (int i = 0; i < 6; i++) {
            x.array();
        }
        for (int i = 0; i < 6; i++) {
            x.put(0, 'a' + i, integer(i));
            x.put(1, 'a' + i, integer(i));
            if (i < 5) {
                x.put(2, 'a' + i, integer(i));
            }
            x.put(3, 'a' + i, integer(i < 5 ? i : 9));
            x.put(4, i < 5 ? 'a' + i : 'z', integer(i));
            x.put(5, 'f' - i, integer(5 - i));
        }
        due("six and six", x.same(thing(0), thing(1)), true);
        due("six and five", x.same(thing(0), thing(2)), false);
        due("five and six", x.same(thing(2), thing(0)), false);
        due("another last value", x.same(thing(0), thing(3)), false);
        due("another last key", x.same(thing(0), thing(4)), false);
        due("another order", x.same(thing(0), thing(5)), false);
    }

    @Says("Promise 27: each thing on the one side has always the same partner on the other side")
    private static void samePartners() {
        GraphCourier x = new GraphCourier();
        for (int i = 0; i < 5; i++) {
            x.array();
        }
        x.append(0, thing(2));
        x.append(0, thing(2));
        x.append(1, thing(3));
        x.append(1, thing(4));
        due("one left, two right", x.same(thing(0), thing(1)), false);
        x.set(1, 1, thing(3));
        due("one left, one right", x.same(thing(0), thing(1)), true);
    }

    @Says("Promise 27: and the other way round")
    private static void samePartnersTheOtherWayRound() {
        GraphCourier x = new GraphCourier();
        for (int i = 0; i < 5; i++) {
            x.array();
        }
        x.append(0, thing(2));
        x.append(0, thing(3));
        x.append(1, thing(4));
        x.append(1, thing(4));
        due("two left, one right", x.same(thing(0), thing(1)), false);
        x.set(1, 1, thing(3));
        due("one of them on both sides", x.same(thing(0), thing(1)), true);
        x.set(1, 0, thing(3));
        x.set(1, 1, thing(2));
        due("crossed", x.same(thing(0), thing(1)), true);
    }

    @Says("Promise 27: wherever things are met in this: in pairs, and deep inside too")
    private static void samePartnersAnywhere() {
        GraphCourier x = new GraphCourier();
        for (int i = 0; i < 6; i++) {
            x.array();
        }
        // 0 and 3 have an array as item, which has a date as item; the date is a pair's value too
        x.append(0, thing(1));
        x.append(3, thing(4));
        long first = x.date(0), second = x.date(0), third = x.date(0);
        x.append(1, first);
        x.append(4, second);
        x.put(0, 'k', first);
        x.put(3, 'k', third);
        due("another date in the pair", x.same(thing(0), thing(3)), false);
        due("the other way round", x.same(thing(3), thing(0)), false);
        x.put(3, 'k', second);
        due("the same date", x.same(thing(0), thing(3)), true);
    }

    @Says("Promise 27: rings of things")
    private static void sameRings() {
        GraphCourier x = new GraphCourier();
        for (int i = 0; i < 4; i++) {
            x.array();
            x.append(i, thing(i));
        }
        due("two rings of one", x.same(thing(0), thing(1)), true);
        x.set(0, 0, thing(1));
        due("one that leads to a ring of one", x.same(thing(0), thing(1)), false);
        due("the other way round", x.same(thing(1), thing(0)), false);
        x.set(1, 0, thing(0));
        due("a ring of two, from both ends", x.same(thing(0), thing(1)), true);
        due("a ring of two and one of one", x.same(thing(0), thing(2)), false);
        x.append(0, NULL);
        x.append(1, TRUE);
        due("ends that differ", x.same(thing(0), thing(1)), false);
    }

    @Says("Promise 27: forty things inside of one another")
    private static void sameFortyDeep() {
        GraphCourier x = withNest(40);
        due("with itself", x.same(thing(0), thing(0)), true);
        due("with its item", x.same(thing(0), thing(1)), false);
        due("the last two", x.same(thing(38), thing(39)), false);
        x.append(39, thing(0));
        due("a ring of forty, from two places", x.same(thing(0), thing(1)), true);
        due("from the first and the last", x.same(thing(39), thing(0)), true);
    }

    @Says("Promise 27: False when one of them is no value")
    private static void sameNoValue() {
        GraphCourier x = withEachKind();
        for (long none : new long[] {8, 15, -1, 16, wideValue(0), thing(4), thing(-1), integer(268435456)}) {
            due("left " + none, x.same(none, TRUE), false);
            due("right " + none, x.same(TRUE, none), false);
            due("both " + none, x.same(none, none), false);
            due("left, a thing, " + none, x.same(none, thing(2)), false);
            due("right, a thing, " + none, x.same(thing(2), none), false);
        }
    }

    // Promise 28

    @Says("Promise 28: No wide numbers, traits and things are there any more")
    private static void clearLeavesNothing() {
        GraphCourier x = withEachKind();
        x.wide(5);
        x.clear();
        due("things", x.things(), 0);
        for (int i = 0; i < 4; i++) {
            due("kind", x.kind(i), -1);
            due("count", x.count(i), -1);
            due("item", x.item(i, 0), -1);
            due("pairs", x.pairs(i), 0);
            due("traitsOf", x.traitsOf(i), -1);
            due("no value", x.same(thing(i), thing(i)), false);
        }
        due("bits", x.bits(0), 0);
        due("no wide value", x.same(wideValue(0), wideValue(0)), false);
        badArgument("no traits", () -> x.object(0));
        badArgument("no array", () -> x.append(2, TRUE));
        due("first wide", x.wide(1), wideValue(0));
        due("first traits", x.traits('z', false, 0, 0, 0), 0);
        due("first thing", x.array(), thing(0));
    }

    @Says("Promise 28: nothing of what was there is in what comes later")
    private static void clearLeavesNoTrace() {
        GraphCourier x = new GraphCourier();
        x.date(5);
        x.array();
        x.append(1, TRUE);
        x.put(1, 'k', NULL);
        x.bytes(1, 1);
        x.clear();
        for (int i = 0; i < 3; i++) {
            x.array();
        }
        due("where a date was", x.same(thing(0), thing(1)), true);
        due("where bytes were", x.same(thing(2), thing(1)), true);
        writes("an empty array", x, thing(1), 9, 1, 1);
        due("a first pair", x.put(1, 'l', TRUE), 1);
        due("its key", x.pair(1, 0, true), 'l');
        due("its value", x.pair(1, 0, false), TRUE);
        due("a first item", x.append(1, FALSE), 1);
        due("it is that", x.item(1, 0), FALSE);
    }

    @Says("Promise 28: when all is full, all is free again")
    private static void clearWhenFull() {
        GraphCourier x = withThings(40);
        for (int i = 0; i < 40; i++) {
            x.wide(i);
        }
        for (int i = 0; i < 12; i++) {
            x.traits(0, false, 'a' + i, 0, 0);
        }
        x.clear();
        for (int i = 0; i < 40; i++) {
            due("wide", x.wide(i), wideValue(i));
            due("array", x.array(), thing(i));
        }
        for (int i = 0; i < 12; i++) {
            due("traits", x.traits(0, true, 'a' + i, 0, 0), i);
        }
        badState("wide", () -> x.wide(0));
        badState("array", x::array);
        badState("traits", () -> x.traits(0, true, 0, 0, 0));
    }

    @Says("Promise 28: the row stays")
    private static void clearLeavesTheRow() {
        GraphCourier x = withNest(2);
        x.encode(thing(0));
        x.clear();
        rowIs("row", x, 9, 3, 1, 9, 1, 1);
        due("it can be read", x.decode(), thing(0));
        due("things", x.things(), 2);
    }

    @Says("Promise 28: what is allowed stays")
    private static void clearLeavesTheNames() {
        GraphCourier x = new GraphCourier();
        for (int i = 0; i < 6; i++) {
            x.allow('a' + i);
        }
        x.clear();
        due("allowed already", x.allow('a'), false);
        due("six are allowed", x.allow('g'), false);
        reads("the first", x, thing(0), 10, 3, 3, 'a');
        reads("the sixth", x, thing(1), 10, 3, 3, 'f');
    }

    @Says("Promise 28: on an object that has nothing")
    private static void clearOfNothing() {
        GraphCourier x = new GraphCourier();
        x.clear();
        x.clear();
        due("things", x.things(), 0);
        due("size", x.size(), 0);
        due("array", x.array(), thing(0));
    }

    @Says("An object is used for at most 512 calls: the last of these is answered as any")
    private static void theLastCall() {
        GraphCourier x = new GraphCourier();
        for (int i = 0; i < 510; i++) {
            due("alter " + i, x.alter(i, i % 256), true);
        }
        due("call 511", x.alter(510, 7), true);
        due("call 512", x.byteAt(510), 7);
    }

    public static void main(String[] args) {
        runAll(GraphCourierCalls.class);
    }
}
