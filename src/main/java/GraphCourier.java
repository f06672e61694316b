import java.util.Arrays;

/**
 * Values and things that refer to one another are written as a row of bytes in which nothing is
 * told twice, and read back from such a row, which may be anything.
 */
public final class GraphCourier {
    public static final int DATE = 8, ARRAY = 9, OBJECT = 10, BYTES = 12;

    private static final int TRUE = 3, INTEGER = 4, WIDE = 5, TEXT = 6, THING = 7;
    private static final long UNDEFINED = 0, EMPTY = 0;
    private static final int NONE = -1;

    private static final int MOST_WIDES = 40, MOST_TRAITS = 12, MOST_THINGS = 40;
    private static final int MOST_ITEMS = 8, MOST_PAIRS = 6, MOST_MEMBERS = 3;
    private static final int MOST_NAMES = 6, MOST_LETTERS = 7, LAST_LETTER = 126;
    private static final int MOST_BYTES = 600, MOST_INSIDE = 12;
    // A text that comes to a list takes two bytes of the row at least.
    private static final int MOST_TEXTS = MOST_BYTES / 2;
    private static final int INTEGER_END = 1 << 28, NUMBER_END = 1 << 29;

    private final Store store;
    private final Row row;
    private final LongList allowed;
    private final Writer writer;
    private final Reader reader;
    private final Matcher matcher;

    public GraphCourier() {
        Store newStore = new Store();
        Row newRow = new Row();
        LongList newAllowed = new LongList(MOST_NAMES);
        store = newStore;
        row = newRow;
        allowed = newAllowed;
        writer = new Writer(newStore);
        reader = new Reader(newStore, newRow, newAllowed);
        matcher = new Matcher(newStore);
    }

    public long wide(long bits) throws IllegalStateException {
        if (store.wideCount == MOST_WIDES) {
            throw new IllegalStateException();
        }
        store.wides[store.wideCount] = bits;
        store.wideCount++;
        return valueOf(WIDE, store.wideCount - 1);
    }

    public long date(long bits) throws IllegalStateException {
        refuseFortyFirst();
        int made = store.makeThing(DATE);
        store.things[made].dateBits = bits;
        return valueOf(THING, made);
    }

    public long bytes(long content, int n) throws IllegalArgumentException, IllegalStateException {
        if (n < 0 || n > MOST_ITEMS) {
            throw new IllegalArgumentException();
        }
        refuseFortyFirst();
        int made = store.makeThing(BYTES);
        for (int i = 0; i < n; i++) {
            store.things[made].items.add(valueOf(INTEGER, content >> 8 * i & 255));
        }
        return valueOf(THING, made);
    }

    public long array() throws IllegalStateException {
        refuseFortyFirst();
        return valueOf(THING, store.makeThing(ARRAY));
    }

    public int traits(long name, boolean dynamic, long a, long b, long c)
            throws IllegalArgumentException, IllegalStateException {
        if (!isText(name) || !canBeMembers(a, b, c)) {
            throw new IllegalArgumentException();
        }
        Traits draft = store.traits[store.traitsCount];
        draft.become(name, dynamic);
        addMember(draft, a);
        addMember(draft, b);
        addMember(draft, c);
        int place = store.placeOfDraft(store.traitsCount);
        if (place == MOST_TRAITS) {
            throw new IllegalStateException();
        }
        if (place == store.traitsCount) {
            store.traitsCount++;
        }
        return place;
    }

    public long object(int traits) throws IllegalArgumentException, IllegalStateException {
        if (traits < 0 || traits >= store.traitsCount) {
            throw new IllegalArgumentException();
        }
        refuseFortyFirst();
        int made = store.makeThing(OBJECT);
        store.giveTraits(store.things[made], traits);
        return valueOf(THING, made);
    }

    public int append(int thing, long value) throws IllegalArgumentException, IllegalStateException {
        if (kind(thing) != ARRAY || !store.isValue(value)) {
            throw new IllegalArgumentException();
        }
        LongList items = store.things[thing].items;
        if (items.isFull()) {
            throw new IllegalStateException();
        }
        items.add(value);
        return items.length;
    }

    public void set(int thing, int i, long value) throws IllegalArgumentException {
        if (!hasItem(thing, i) || !store.isValue(value)) {
            throw new IllegalArgumentException();
        }
        store.things[thing].items.replace(i, value);
    }

    public int put(int thing, long key, long value) throws IllegalArgumentException, IllegalStateException {
        if (!canHaveKey(thing, key) || !store.isValue(value)) {
            throw new IllegalArgumentException();
        }
        Thing holder = store.things[thing];
        int place = holder.keys.placeOf(key);
        if (place == NONE && holder.keys.isFull()) {
            throw new IllegalStateException();
        }
        if (place == NONE) {
            holder.keys.add(key);
            holder.values.add(value);
        } else {
            holder.values.replace(place, value);
        }
        return holder.keys.length;
    }

    public boolean allow(long name) {
        if (!isText(name) || name == EMPTY || allowed.has(name) || allowed.isFull()) {
            return false;
        }
        allowed.add(name);
        return true;
    }

    public int encode(long value) throws IllegalArgumentException, IllegalStateException {
        if (!store.isValue(value)) {
            throw new IllegalArgumentException();
        }
        writer.start();
        writer.writeValue(value, 0);
        row.become(writer.written, writer.length);
        return row.length;
    }

    public long decode() throws IllegalArgumentException {
        reader.start();
        long value = reader.readValue(0);
        reader.keep();
        return value;
    }

    public int fault() {
        return reader.faultPlace;
    }

    public int size() {
        return row.length;
    }

    public int byteAt(int i) {
        return i >= 0 && i < row.length ? row.content[i] : NONE;
    }

    public boolean alter(int i, int b) {
        if (i < 0 || i > row.length || i == MOST_BYTES || b < 0 || b > 255) {
            return false;
        }
        row.content[i] = b;
        row.length = Math.max(row.length, i + 1);
        return true;
    }

    public boolean cut(int n) {
        if (n < 0 || n > row.length) {
            return false;
        }
        row.length = n;
        return true;
    }

    public int things() {
        return store.thingCount;
    }

    public int kind(int thing) {
        return store.isThing(thing) ? store.things[thing].kind : NONE;
    }

    public int count(int thing) {
        return store.isThing(thing) ? store.things[thing].items.length : NONE;
    }

    public long item(int thing, int i) {
        if (!store.isThing(thing)) {
            return NONE;
        }
        Thing holder = store.things[thing];
        return holder.kind == DATE && i == 0 ? holder.dateBits : holder.items.at(i);
    }

    public int pairs(int thing) {
        return store.isThing(thing) ? store.things[thing].keys.length : 0;
    }

    public long pair(int thing, int i, boolean key) {
        if (!store.isThing(thing)) {
            return NONE;
        }
        Thing holder = store.things[thing];
        return key ? holder.keys.at(i) : holder.values.at(i);
    }

    public int traitsOf(int thing) {
        return store.isThing(thing) ? store.things[thing].traits : NONE;
    }

    public long bits(int k) {
        return k >= 0 && k < store.wideCount ? store.wides[k] : 0;
    }

    public boolean same(long a, long b) {
        if (!store.isValue(a) || !store.isValue(b)) {
            return false;
        }
        matcher.start();
        return matcher.matches(a, b);
    }

    public void clear() {
        store.keepOnly(0, 0, 0);
    }

    private void refuseFortyFirst() {
        if (store.thingCount == MOST_THINGS) {
            throw new IllegalStateException();
        }
    }

    private boolean hasItem(int thing, int i) {
        int kind = kind(thing);
        return (kind == ARRAY || kind == OBJECT) && i >= 0 && i < store.things[thing].items.length;
    }

    private boolean canHaveKey(int thing, long key) {
        if (!store.isThing(thing) || !isText(key) || key == EMPTY) {
            return false;
        }
        Thing holder = store.things[thing];
        return store.canHavePairs(holder) && !store.isMember(holder, key);
    }

    private static void addMember(Traits draft, long member) {
        if (member != EMPTY) {
            draft.members.add(member);
        }
    }

    private static boolean canBeMembers(long a, long b, long c) {
        if (!isText(a) || !isText(b) || !isText(c)) {
            return false;
        }
        if (a == EMPTY) {
            return b == EMPTY && c == EMPTY;
        }
        if (b == EMPTY) {
            return c == EMPTY;
        }
        return a != b && a != c && b != c;
    }

    private static boolean isText(long text) {
        long rest = text;
        for (int i = 0; i < MOST_LETTERS && rest != 0; i++) {
            long letter = rest & 255;
            if (letter == 0 || letter > LAST_LETTER) {
                return false;
            }
            rest = rest >>> 8;
        }
        return rest == 0;
    }

    private static int textSize(long text) {
        int letters = 0;
        for (int i = 0; i < MOST_LETTERS; i++) {
            letters += (text >> 8 * i & 255) != 0 ? 1 : 0;
        }
        return letters;
    }

    private static long valueOf(int kind, long above) {
        return 16 * above + kind;
    }

    private static int kindOf(long value) {
        return (int) (value & 15);
    }

    private static long aboveKind(long value) {
        return value >> 4;
    }

    /** A list of longs with a bound, made once and used again. */
    private static final class LongList {
        private final long[] content;
        private int length;

        LongList(int most) {
            content = new long[most];
        }

        void empty() {
            length = 0;
        }

        boolean isFull() {
            return length == content.length;
        }

        void add(long entry) {
            if (length < content.length) {
                content[length] = entry;
                length++;
            }
        }

        void replace(int i, long entry) {
            if (i >= 0 && i < length) {
                content[i] = entry;
            }
        }

        long at(int i) {
            return i >= 0 && i < length ? content[i] : NONE;
        }

        int placeOf(long entry) {
            for (int i = 0; i < length; i++) {
                if (content[i] == entry) {
                    return i;
                }
            }
            return NONE;
        }

        boolean has(long entry) {
            return placeOf(entry) != NONE;
        }

        boolean isLike(LongList other) {
            if (length != other.length) {
                return false;
            }
            for (int i = 0; i < length; i++) {
                if (content[i] != other.content[i]) {
                    return false;
                }
            }
            return true;
        }
    }

    /** The row of bytes, each held as 0 .. 255. */
    private static final class Row {
        private final int[] content = new int[MOST_BYTES];
        private int length;

        void become(int[] written, int size) {
            System.arraycopy(written, 0, content, 0, size);
            length = size;
        }
    }

    private static final class Traits {
        private final LongList members = new LongList(MOST_MEMBERS);
        private long name;
        private boolean dynamic;

        void become(long newName, boolean newDynamic) {
            name = newName;
            dynamic = newDynamic;
            members.empty();
        }

        boolean isAlike(Traits other) {
            return name == other.name && dynamic == other.dynamic && members.isLike(other.members);
        }
    }

    /** A thing of any kind; BYTES hold their bytes as items that are INTEGERs. */
    private static final class Thing {
        private final LongList items = new LongList(MOST_ITEMS);
        private final LongList keys = new LongList(MOST_PAIRS);
        private final LongList values = new LongList(MOST_PAIRS);
        private int kind;
        private int traits;
        private long dateBits;

        void become(int newKind) {
            kind = newKind;
            traits = NONE;
            dateBits = 0;
            items.empty();
            keys.empty();
            values.empty();
        }
    }

    /**
     * The wide numbers, traits and things. What lies at the counts and behind them is not there:
     * a reading builds there, so that a fault has nothing to undo.
     */
    private static final class Store {
        private final long[] wides = new long[MOST_WIDES];
        // One more than can be there, so that there is always room for a draft.
        private final Traits[] traits = new Traits[MOST_TRAITS + 1];
        private final Thing[] things = new Thing[MOST_THINGS];
        private int wideCount;
        private int traitsCount;
        private int thingCount;

        Store() {
            for (int i = 0; i <= MOST_TRAITS; i++) {
                traits[i] = new Traits();
            }
            for (int i = 0; i < MOST_THINGS; i++) {
                things[i] = new Thing();
            }
        }

        void keepOnly(int wideNumbers, int traitsKept, int thingsKept) {
            wideCount = wideNumbers;
            traitsCount = traitsKept;
            thingCount = thingsKept;
        }

        boolean isThing(long i) {
            return i >= 0 && i < thingCount;
        }

        boolean isValue(long value) {
            int kind = kindOf(value);
            long above = aboveKind(value);
            switch (kind) {
                case INTEGER:
                    return above >= -INTEGER_END && above < INTEGER_END;
                case WIDE:
                    return above >= 0 && above < wideCount;
                case TEXT:
                    return isText(above);
                case THING:
                    return isThing(above);
                default:
                    return kind <= TRUE && above == 0;
            }
        }

        int makeThing(int kind) {
            things[thingCount].become(kind);
            thingCount++;
            return thingCount - 1;
        }

        void giveTraits(Thing thing, int number) {
            thing.traits = number;
            for (int i = 0; i < traits[number].members.length; i++) {
                thing.items.add(UNDEFINED);
            }
        }

        /** Where the traits at place draft, or those alike before it, stand. */
        int placeOfDraft(int draft) {
            for (int i = 0; i < draft; i++) {
                if (traits[i].isAlike(traits[draft])) {
                    return i;
                }
            }
            return draft;
        }

        boolean canHavePairs(Thing thing) {
            return thing.kind == ARRAY || thing.kind == OBJECT && traits[thing.traits].dynamic;
        }

        boolean isMember(Thing thing, long text) {
            return thing.kind == OBJECT && traits[thing.traits].members.has(text);
        }
    }

    /** Writes into a row of its own, so that what throws leaves the object's row. */
    private static final class Writer {
        private final Store store;
        private final LongList texts = new LongList(MOST_TEXTS);
        private final LongList things = new LongList(MOST_THINGS);
        private final LongList traits = new LongList(MOST_TRAITS);
        private final int[] written = new int[MOST_BYTES];
        private int length;

        Writer(Store store) {
            this.store = store;
        }

        void start() {
            texts.empty();
            things.empty();
            traits.empty();
            length = 0;
        }

        /** The depth is how many things, not complete yet, the value is inside of. */
        private void writeValue(long value, int depth) {
            int kind = kindOf(value);
            long above = aboveKind(value);
            if (kind == THING) {
                writeThing((int) above, depth);
                return;
            }
            writeByte(kind);
            if (kind == INTEGER) {
                writeNumber((int) above & NUMBER_END - 1);
            } else if (kind == WIDE) {
                writeEight(store.wides[(int) above]);
            } else if (kind == TEXT) {
                writeString(above);
            }
        }

        private void writeThing(int number, int depth) {
            Thing thing = store.things[number];
            writeByte(thing.kind);
            int place = things.placeOf(number);
            if (place != NONE) {
                writeNumber(2 * place);
                return;
            }
            if (depth == MOST_INSIDE) {
                throw new IllegalStateException();
            }
            things.add(number);
            switch (thing.kind) {
                case DATE:
                    writeNumber(1);
                    writeEight(thing.dateBits);
                    break;
                case BYTES:
                    writeBytes(thing.items);
                    break;
                case ARRAY:
                    writeNumber(2 * thing.items.length + 1);
                    writePairs(thing, depth + 1);
                    writeItems(thing, depth + 1);
                    break;
                default:
                    writeObject(thing, depth + 1);
            }
        }

        private void writeBytes(LongList items) {
            writeNumber(2 * items.length + 1);
            for (int i = 0; i < items.length; i++) {
                writeByte((int) aboveKind(items.at(i)));
            }
        }

        private void writeObject(Thing thing, int depth) {
            writeTraits(thing.traits);
            writeItems(thing, depth);
            if (store.canHavePairs(thing)) {
                writePairs(thing, depth);
            }
        }

        private void writeTraits(int number) {
            int place = traits.placeOf(number);
            if (place != NONE) {
                writeNumber(4 * place + 1);
                return;
            }
            traits.add(number);
            Traits told = store.traits[number];
            writeNumber(16 * told.members.length + (told.dynamic ? 8 : 0) + 3);
            writeString(told.name);
            for (int i = 0; i < told.members.length; i++) {
                writeString(told.members.at(i));
            }
        }

        private void writeItems(Thing thing, int depth) {
            for (int i = 0; i < thing.items.length; i++) {
                writeValue(thing.items.at(i), depth);
            }
        }

        private void writePairs(Thing thing, int depth) {
            for (int i = 0; i < thing.keys.length; i++) {
                writeString(thing.keys.at(i));
                writeValue(thing.values.at(i), depth);
            }
            writeString(EMPTY);
        }

        private void writeString(long text) {
            int place = texts.placeOf(text);
            if (place != NONE) {
                writeNumber(2 * place);
                return;
            }
            int letters = textSize(text);
            writeNumber(2 * letters + 1);
            for (int i = 0; i < letters; i++) {
                writeByte((int) (text >> 8 * i & 255));
            }
            if (text != EMPTY) {
                texts.add(text);
            }
        }

        private void writeEight(long bits) {
            for (int shift = 56; shift >= 0; shift -= 8) {
                writeByte((int) (bits >> shift & 255));
            }
        }

        private void writeNumber(int n) {
            if (n >= 1 << 21) {
                writeByte(128 + (n >> 22));
                writeByte(128 + (n >> 15 & 127));
                writeByte(128 + (n >> 8 & 127));
                writeByte(n & 255);
                return;
            }
            if (n >= 1 << 14) {
                writeByte(128 + (n >> 14));
            }
            if (n >= 1 << 7) {
                writeByte(128 + (n >> 7 & 127));
            }
            writeByte(n & 127);
        }

        private void writeByte(int b) {
            if (length == MOST_BYTES) {
                throw new IllegalStateException();
            }
            written[length] = b;
            length++;
        }
    }

    /** Reads the row; what it makes is there only when keep() has been called. */
    private static final class Reader {
        private final Store store;
        private final Row row;
        private final LongList allowed;
        private final LongList texts = new LongList(MOST_TEXTS);
        private final LongList things = new LongList(MOST_THINGS);
        // Traits may be told again in full, but once a thing at most.
        private final LongList traits = new LongList(MOST_THINGS);
        private int wideCount;
        private int traitsCount;
        private int thingCount;
        private int at;
        private int faultPlace = NONE;

        Reader(Store store, Row row, LongList allowed) {
            this.store = store;
            this.row = row;
            this.allowed = allowed;
        }

        void start() {
            texts.empty();
            things.empty();
            traits.empty();
            wideCount = store.wideCount;
            traitsCount = store.traitsCount;
            thingCount = store.thingCount;
            at = 0;
            faultPlace = NONE;
        }

        void keep() {
            store.keepOnly(wideCount, traitsCount, thingCount);
        }

        /** The depth is how many things, not complete yet, the value is inside of. */
        private long readValue(int depth) {
            int kindPlace = at;
            int kind = readByte();
            switch (kind) {
                case INTEGER:
                    return readInteger();
                case WIDE:
                    return readWide(kindPlace);
                case TEXT:
                    return valueOf(TEXT, readString());
                case DATE:
                case ARRAY:
                case OBJECT:
                case BYTES:
                    return readThing(kind, kindPlace, depth);
                default:
                    if (kind > TRUE) {
                        stopAt(kindPlace);
                    }
                    return kind;
            }
        }

        private long readInteger() {
            int number = readNumber();
            return valueOf(INTEGER, number < INTEGER_END ? number : number - NUMBER_END);
        }

        private long readWide(int kindPlace) {
            if (wideCount == MOST_WIDES) {
                stopAt(kindPlace);
            }
            store.wides[wideCount] = readEight();
            wideCount++;
            return valueOf(WIDE, wideCount - 1);
        }

        private long readThing(int kind, int kindPlace, int depth) {
            int numberPlace = at;
            int number = readNumber();
            if (number % 2 == 0) {
                return knownThing(kind, number / 2, numberPlace);
            }
            if (thingCount == MOST_THINGS || depth == MOST_INSIDE) {
                stopAt(kindPlace);
            }
            int made = thingCount;
            Thing thing = store.things[made];
            thing.become(kind);
            thingCount++;
            things.add(made);
            switch (kind) {
                case DATE:
                    readDate(thing, number, numberPlace);
                    break;
                case BYTES:
                    readBytes(thing, number / 2, numberPlace);
                    break;
                case ARRAY:
                    readArray(thing, number / 2, numberPlace, depth + 1);
                    break;
                default:
                    readObject(thing, number, numberPlace, depth + 1);
            }
            return valueOf(THING, made);
        }

        private long knownThing(int kind, int place, int numberPlace) {
            long known = things.at(place);
            if (known == NONE || store.things[(int) known].kind != kind) {
                stopAt(numberPlace);
            }
            return valueOf(THING, known);
        }

        private void readDate(Thing thing, int number, int numberPlace) {
            if (number != 1) {
                stopAt(numberPlace);
            }
            thing.dateBits = readEight();
        }

        private void readBytes(Thing thing, int count, int numberPlace) {
            if (count > MOST_ITEMS) {
                stopAt(numberPlace);
            }
            for (int i = 0; i < count; i++) {
                thing.items.add(valueOf(INTEGER, readByte()));
            }
        }

        private void readArray(Thing thing, int count, int numberPlace, int depth) {
            if (count > MOST_ITEMS) {
                stopAt(numberPlace);
            }
            readPairs(thing, depth);
            for (int i = 0; i < count; i++) {
                thing.items.add(readValue(depth));
            }
        }

        private void readObject(Thing thing, int number, int numberPlace, int depth) {
            store.giveTraits(thing, readTraits(number, numberPlace));
            for (int i = 0; i < thing.items.length; i++) {
                thing.items.replace(i, readValue(depth));
            }
            if (store.canHavePairs(thing)) {
                readPairs(thing, depth);
            }
        }

        private int readTraits(int number, int numberPlace) {
            if (number % 4 == 1) {
                return knownTraits(number / 4, numberPlace);
            }
            int memberCount = number / 16;
            if (number % 8 == 7 || memberCount > MOST_MEMBERS) {
                stopAt(numberPlace);
            }
            int namePlace = at;
            long name = readString();
            if (name != EMPTY && !allowed.has(name)) {
                stopAt(namePlace);
            }
            Traits draft = store.traits[traitsCount];
            draft.become(name, (number & 8) != 0);
            for (int i = 0; i < memberCount; i++) {
                int memberPlace = at;
                long member = readString();
                if (member == EMPTY || draft.members.has(member)) {
                    stopAt(memberPlace);
                }
                draft.members.add(member);
            }
            return keepDraft(numberPlace);
        }

        private int knownTraits(int place, int numberPlace) {
            long known = traits.at(place);
            if (known == NONE) {
                stopAt(numberPlace);
            }
            return (int) known;
        }

        private int keepDraft(int numberPlace) {
            int place = store.placeOfDraft(traitsCount);
            if (place == MOST_TRAITS) {
                stopAt(numberPlace);
            }
            if (place == traitsCount) {
                traitsCount++;
            }
            traits.add(place);
            return place;
        }

        private void readPairs(Thing thing, int depth) {
            // The last round is for the empty string behind six pairs.
            for (int i = 0; i <= MOST_PAIRS; i++) {
                int keyPlace = at;
                long key = readString();
                if (key == EMPTY) {
                    return;
                }
                if (i == MOST_PAIRS || thing.keys.has(key) || store.isMember(thing, key)) {
                    stopAt(keyPlace);
                }
                thing.keys.add(key);
                thing.values.add(readValue(depth));
            }
        }

        private long readString() {
            int place = at;
            int number = readNumber();
            if (number % 2 == 0) {
                return knownText(number / 2, place);
            }
            int letters = number / 2;
            if (letters > MOST_LETTERS) {
                stopAt(place);
            }
            boolean wrong = false;
            long text = EMPTY;
            for (int i = 0; i < letters; i++) {
                int letter = readByte();
                wrong = wrong || letter == 0 || letter > LAST_LETTER;
                text |= (long) letter << 8 * i;
            }
            if (wrong) {
                stopAt(place);
            }
            if (text != EMPTY) {
                texts.add(text);
            }
            return text;
        }

        private long knownText(int listPlace, int place) {
            long known = texts.at(listPlace);
            if (known == NONE) {
                stopAt(place);
            }
            return known;
        }

        private long readEight() {
            long bits = 0;
            for (int i = 0; i < 8; i++) {
                bits = bits << 8 | readByte();
            }
            return bits;
        }

        private int readNumber() {
            int number = 0;
            for (int i = 0; i < 3; i++) {
                int b = readByte();
                number = number << 7 | b & 127;
                if (b < 128) {
                    return number;
                }
            }
            return number << 8 | readByte();
        }

        private int readByte() {
            if (at >= row.length) {
                faultPlace = row.length;
                throw new IllegalArgumentException();
            }
            at++;
            return row.content[at - 1];
        }

        /** Never comes back to its caller. */
        private void stopAt(int place) {
            faultPlace = place;
            throw new IllegalArgumentException();
        }
    }

    /** Finds out whether two values are SAME, with the partners that things have in this. */
    private static final class Matcher {
        private final Store store;
        private final int[] rightOfLeft = new int[MOST_THINGS];
        private final int[] leftOfRight = new int[MOST_THINGS];
        private final int[] metLeft = new int[MOST_THINGS];
        private int metCount;

        Matcher(Store store) {
            this.store = store;
        }

        void start() {
            Arrays.fill(rightOfLeft, NONE);
            Arrays.fill(leftOfRight, NONE);
            metCount = 0;
        }

        boolean matches(long a, long b) {
            if (!meet(a, b)) {
                return false;
            }
            for (int i = 0; i < metCount && i < MOST_THINGS; i++) {
                int left = metLeft[i];
                if (!matchThings(store.things[left], store.things[rightOfLeft[left]])) {
                    return false;
                }
            }
            return true;
        }

        /** False when the two cannot be SAME; the insides of things are looked at later. */
        private boolean meet(long a, long b) {
            int kind = kindOf(a);
            if (kind != kindOf(b)) {
                return false;
            }
            if (kind == WIDE) {
                return store.wides[(int) aboveKind(a)] == store.wides[(int) aboveKind(b)];
            }
            if (kind == THING) {
                return becomePartners((int) aboveKind(a), (int) aboveKind(b));
            }
            return a == b;
        }

        private boolean becomePartners(int left, int right) {
            if (rightOfLeft[left] == NONE && leftOfRight[right] == NONE) {
                rightOfLeft[left] = right;
                leftOfRight[right] = left;
                metLeft[metCount] = left;
                metCount++;
                return true;
            }
            return rightOfLeft[left] == right;
        }

        private boolean matchThings(Thing left, Thing right) {
            return left.kind == right.kind
                    && left.dateBits == right.dateBits
                    && left.traits == right.traits
                    && left.keys.isLike(right.keys)
                    && meetAll(left.items, right.items)
                    && meetAll(left.values, right.values);
        }

        private boolean meetAll(LongList left, LongList right) {
            if (left.length != right.length) {
                return false;
            }
            for (int i = 0; i < left.length; i++) {
                if (!meet(left.at(i), right.at(i))) {
                    return false;
                }
            }
            return true;
        }
    }
}
