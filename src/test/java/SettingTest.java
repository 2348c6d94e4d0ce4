/** Promises 1 to 5: a new object, and what is set. */
final class SettingTest extends Check {
    public static void main(String[] args) {
        newObject();
        addClient();
        setTerm();
        setRoom();
        cut();
        mendInOrder();
        close("SettingTest");
    }

    private static void newObject() {
        IronbridgeCache net = new IronbridgeCache();
        same("1 clock", net.clock(), 0);
        same("1 clients", net.clients(), 0);
        same("1 onTheWay", net.onTheWay(), 0);
        same("1 stale", net.stale(), 0);
        same("1 calmIn", net.calmIn(1), 0);
        for (int file = 0; file < 12; file++) {
            for (int what = 0; what < 4; what++) {
                same("1 server " + file + " " + what, net.server(file, what), 0);
            }
        }
        same("1 TERM at first", net.setTerm(20, 5), 20);
        same("1 ROOM at first", net.setRoom(4), 4);
        failsIndex("1 no client", net, () -> net.told(0, 0));
        lagAtFirst();
    }

    private static void lagAtFirst() {
        IronbridgeCache net = netOf(0);
        readAll(net, 0);
        net.write(0, 0, 1);
        same("1 LAG 5: not yet", net.tick(4), 0);
        same("1 LAG 5: sent", net.tick(1), 1);
    }

    private static void addClient() {
        IronbridgeCache net = new IronbridgeCache();
        failsArgument("2 delay 0", net, () -> net.addClient(0, 0));
        failsArgument("2 delay 9", net, () -> net.addClient(9, 0));
        failsArgument("2 delay least", net, () -> net.addClient(Integer.MIN_VALUE, 0));
        failsArgument("2 habit -1", net, () -> net.addClient(1, -1));
        failsArgument("2 habit 3", net, () -> net.addClient(1, 3));
        same("2 first", net.addClient(1, 0), 0);
        same("2 second", net.addClient(8, 2), 1);
        same("2 third", net.addClient(4, 1), 2);
        same("2 fourth", net.addClient(1, 0), 3);
        failsState("2 fifth", net, () -> net.addClient(1, 0));
        failsArgument("2 wrong delay comes before too many", net, () -> net.addClient(0, 0));
        failsArgument("2 wrong habit comes before too many", net, () -> net.addClient(1, 3));
        for (int client = 0; client < 4; client++) {
            for (int what = 0; what < 7; what++) {
                same("2 told " + what, net.told(client, what), 0);
            }
            same("2 has nothing", net.has(client, 5, 0), -1);
        }
        net.read(0, 0);
        net.read(1, 0);
        net.read(2, 0);
        same("2 delay 1", net.way(0, 3), 1);
        same("2 delay 4", net.way(1, 3), 4);
        same("2 delay 8", net.way(2, 3), 8);
    }

    private static void setTerm() {
        IronbridgeCache net = netOf(0);
        failsArgument("3 term 0", net, () -> net.setTerm(0, 5));
        failsArgument("3 term 61", net, () -> net.setTerm(61, 5));
        failsArgument("3 lag -1", net, () -> net.setTerm(20, -1));
        failsArgument("3 lag 21", net, () -> net.setTerm(20, 21));
        same("3 before", net.setTerm(60, 20), 20);
        same("3 before 2", net.setTerm(1, 0), 60);
        same("3 before 3", net.setTerm(3, 2), 1);
        net.read(0, 0);
        net.tick(1);
        same("3 TERM 3", net.lease(0, 0), 4);
        net.setTerm(9, 2);
        same("3 leases stay as they are", net.lease(0, 0), 4);
        net.tick(1);
        net.write(0, 0, 1);
        same("3 LAG 2: not yet", net.tick(1), 0);
        same("3 LAG 2: sent", net.tick(1), 1);
        lagFromNowOn();
    }

    private static void lagFromNowOn() {
        IronbridgeCache net = netOf(0);
        readAll(net, 0);
        net.write(0, 0, 1);
        net.setTerm(20, 20);
        same("3 LAG 20: not yet", net.tick(10), 0);
        net.setTerm(20, 0);
        same("3 LAG 0: nothing is sent by that", net.onTheWay(), 0);
        same("3 LAG 0: sent with the next tick", net.tick(1), 1);
    }

    private static void setRoom() {
        IronbridgeCache net = netOf(0);
        failsArgument("4 room 1", net, () -> net.setRoom(1));
        failsArgument("4 room 7", net, () -> net.setRoom(7));
        same("4 before", net.setRoom(6), 4);
        readAll(net, 0, 1, 2, 3, 4, 5, 6);
        same("4 room 6", net.told(0, 0), 6);
        same("4 the one used the longest time ago went", net.has(0, 0, 0), -1);
        same("4 before 2", net.setRoom(2), 6);
        same("4 nothing goes by that", net.told(0, 0), 6);
        net.read(0, 7);
        same("4 nor before it comes", net.told(0, 0), 6);
        net.tick(2);
        same("4 but as it comes", net.told(0, 0), 2);
        same("4 it is there", net.used(0, 0), 7);
        same("4 with the one used before", net.used(0, 1), 6);
    }

    private static void cut() {
        IronbridgeCache net = netOf(0, 0);
        readAll(net, 0, 1);
        failsIndex("5 no client 2", net, () -> net.cut(2, true));
        failsIndex("5 no client -1", net, () -> net.cut(-1, false));
        same("5 mended already", net.cut(0, false), 0);
        same("5 leases stay if it was mended already", net.has(0, 0, 3), 21);
        net.write(0, 0, 5);
        net.flush(0);
        net.read(0, 2);
        same("5 sends", net.has(0, 0, 5), 2);
        same("5 asks", net.has(0, 2, 5), 1);
        same("5 cut", net.cut(0, true), 0);
        same("5 cut: sends nothing", net.has(0, 0, 5), 0);
        same("5 cut: asks nothing", net.has(0, 2, 5), 0);
        same("5 cut: told", net.told(0, 6), 1);
        same("5 the other is not", net.told(1, 6), 0);
        same("5 cut already", net.cut(0, true), 0);
        same("5 leases stay as it is cut", net.has(0, 1, 3), 21);
        same("5 mended", net.cut(0, false), 1);
        same("5 mended: told", net.told(0, 6), 0);
        same("5 leases are over", net.has(0, 1, 3), -1);
        same("5 of the dirty one too", net.has(0, 0, 3), -1);
        same("5 sends again", net.has(0, 0, 5), 2);
        same("5 those that were sent are on their way still", net.onTheWay(), 3);
        same("5 mended already: no more", net.cut(0, false), 0);
    }

    private static void mendInOrder() {
        IronbridgeCache net = netOf(0);
        net.setTerm(60, 20);
        readAll(net, 1, 2, 3, 4);
        net.cut(0, true);
        net.write(0, 3, 1);
        net.tick(1);
        net.write(0, 4, 1);
        net.write(0, 1, 1);
        net.tick(1);
        net.write(0, 3, 2);
        net.write(0, 2, 1);
        same("5 stores", net.cut(0, false), 4);
        int[] order = {3, 1, 4, 2};
        for (int place = 0; place < 4; place++) {
            same("5 a store", net.way(place, 1), 1);
            same("5 in order", net.way(place, 2), order[place]);
        }
    }
}
