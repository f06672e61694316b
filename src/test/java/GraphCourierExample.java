/** The examples of README.md: what their comments say is what the calls answer. */
public final class GraphCourierExample extends Check {

    @Says("README.md: a ring, through a row and back")
    private static void ring() {
        GraphCourier courier = new GraphCourier();
        long ring = courier.array();
        courier.append(0, ring);
        courier.put(0, 'k', 16 * 5 + 4);
        int size = courier.encode(ring);
        long copy = courier.decode();
        boolean alike = courier.same(ring, copy);

        due("ring", ring, thing(0));
        due("size", size, 9);
        due("copy", copy, thing(1));
        due("alike", alike, true);
    }

    @Says("README.md: a row from one object to another")
    private static void fromOneObjectToAnother() {
        GraphCourier sender = new GraphCourier();
        int point = sender.traits('P', false, 'x', 'y', 0);
        long place = sender.object(point);
        sender.set(0, 0, 16 * 3 + 4);
        int size = sender.encode(place);
        due("size", size, 11);

        GraphCourier receiver = new GraphCourier();
        for (int i = 0; i < size; i++) {
            receiver.alter(i, sender.byteAt(i));
        }
        badArgument("\"P\" is not allowed", receiver::decode);
        due("fault", receiver.fault(), 2);
        due("nothing has been made", receiver.things(), 0);
        receiver.allow('P');
        due("read", receiver.decode(), thing(0));
        due("x", receiver.item(0, 0), integer(3));
        due("y", receiver.item(0, 1), UNDEFINED);
        due("its traits have come too", receiver.traits('P', false, 'x', 'y', 0), receiver.traitsOf(0));
    }

    public static void main(String[] args) {
        runAll(GraphCourierExample.class);
    }
}
