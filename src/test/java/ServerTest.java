/** Promises 11 to 16: the server, asked. */
final class ServerTest extends Check {
    public static void main(String[] args) {
        clients();
        server();
        lease();
        request();
        onTheWay();
        way();
        wayOfEachKind();
        close("ServerTest");
    }

    private static void clients() {
        IronbridgeCache net = new IronbridgeCache();
        for (int count = 0; count < 4; count++) {
            same("11 clients", net.clients(), count);
            net.addClient(1, 0);
        }
        same("11 four", net.clients(), 4);
        failsState("11 a fifth", net, () -> net.addClient(1, 0));
        same("11 still four", net.clients(), 4);
    }

    private static void server() {
        IronbridgeCache net = netOf(0, 0, 0);
        failsIndex("12 no file 12", net, () -> net.server(12, 0));
        failsIndex("12 no file -1", net, () -> net.server(-1, 0));
        failsArgument("12 what 4", net, () -> net.server(0, 4));
        failsArgument("12 what -1", net, () -> net.server(0, -1));
        failsIndex("12 no file comes before what", net, () -> net.server(12, 4));
        net.read(0, 3);
        net.read(2, 3);
        net.tick(1);
        same("12 set", net.server(3, 3), 5);
        net.tick(1);
        net.write(0, 3, 77);
        net.flush(0);
        net.tick(1);
        same("12 content waits", net.server(3, 0), 0);
        same("12 row", net.server(3, 2), 1);
        same("12 set as it waits", net.server(3, 3), 5);
        net.tick(2);
        same("12 content", net.server(3, 0), 77);
        same("12 version", net.server(3, 1), 1);
        same("12 row is empty", net.server(3, 2), 0);
        same("12 set of one", net.server(3, 3), 1);
        net.tick(19);
        same("12 still", net.server(3, 3), 1);
        net.tick(1);
        same("12 over as the clock is not below", net.server(3, 3), 0);
    }

    private static void lease() {
        IronbridgeCache net = netOf(0, 0);
        failsIndex("13 no file", net, () -> net.lease(12, 0));
        failsIndex("13 no file -1", net, () -> net.lease(-1, 0));
        failsIndex("13 no client", net, () -> net.lease(0, 2));
        failsIndex("13 no client -1", net, () -> net.lease(0, -1));
        net.setTerm(2, 5);
        same("13 none", net.lease(4, 1), -1);
        net.read(1, 4);
        net.tick(1);
        same("13 until", net.lease(4, 1), 3);
        same("13 not of the other", net.lease(4, 0), -1);
        net.cut(1, true);
        net.tick(1);
        same("13 the server does not know of the cut", net.lease(4, 1), 3);
        net.tick(1);
        same("13 over", net.lease(4, 1), -1);
    }

    private static void request() {
        IronbridgeCache net = netOf(0, 0, 0);
        readAll(net, 6);
        net.write(0, 6, 10);
        net.write(1, 6, 20);
        net.flush(1);
        net.flush(0);
        net.cut(2, true);
        net.cut(2, false);
        net.read(2, 6);
        failsIndex("14 empty row", net, () -> net.request(6, 0, 0));
        failsIndex("14 no place comes before what", net, () -> net.request(6, 0, 9));
        net.tick(1);
        same("14 row", net.server(6, 2), 3);
        failsIndex("14 no file", net, () -> net.request(12, 0, 0));
        failsIndex("14 no place 3", net, () -> net.request(6, 3, 0));
        failsIndex("14 no place -1", net, () -> net.request(6, -1, 0));
        failsArgument("14 what 4", net, () -> net.request(6, 0, 4));
        failsArgument("14 what -1", net, () -> net.request(6, 2, -1));
        int[][] due = {{1, 1, 20, 0}, {0, 1, 10, 0}, {2, 0, 0, 0}};
        for (int place = 0; place < 3; place++) {
            for (int what = 0; what < 4; what++) {
                same("14 place " + place + " what " + what, net.request(6, place, what), due[place][what]);
            }
        }
        baseOfTheSecondStore();
    }

    private static void baseOfTheSecondStore() {
        IronbridgeCache net = netOf(0, 0);
        readAll(net, 6);
        net.write(0, 6, 10);
        net.flush(0);
        net.tick(4);
        same("14 stored", net.has(0, 6, 1), 1);
        net.read(1, 6);
        net.tick(2);
        net.write(0, 6, 11);
        net.flush(0);
        net.tick(1);
        same("14 content", net.request(6, 0, 2), 11);
        same("14 base", net.request(6, 0, 3), 1);
        basesOfARow();
        doneByItsOwnBase();
    }

    /** Client 2 is cut with a lease, so both stores wait: client 0 wrote of version 1, client 1 of 2. */
    private static IronbridgeCache rowOfBases(int first, int second) {
        IronbridgeCache net = netOf(0, 0, 0);
        net.setTerm(20, 20);
        storeBy(net, 1, 10);
        readAll(net, 6);
        net.write(0, 6, 30);
        storeBy(net, 1, 20);
        net.read(2, 6);
        net.tick(2);
        net.cut(2, true);
        net.write(1, 6, 40);
        net.flush(first);
        net.flush(second);
        net.tick(1);
        return net;
    }

    private static void basesOfARow() {
        int[][] due = {{0, 1, 30, 1}, {1, 1, 40, 2}};
        for (int first = 0; first <= 1; first++) {
            IronbridgeCache net = rowOfBases(first, 1 - first);
            for (int what = 0; what < 4; what++) {
                same("14 first, what " + what, net.request(6, 0, what), due[first][what]);
                same("14 second, what " + what, net.request(6, 1, what), due[1 - first][what]);
            }
        }
    }

    /** One behind the other, each is done by its own BASE and CONTENT, in one look. */
    private static void doneByItsOwnBase() {
        IronbridgeCache net = rowOfBases(0, 1);
        int over = net.lease(6, 2);
        same("1 one tick before both wait", net.tick(over - net.clock() - 1), 0);
        same("1 both", net.server(6, 2), 2);
        same("1 as the lease is over both are done", net.tick(1), 2);
        same("1 CLASH for client 0", net.way(0, 1), 5);
        same("1 STORED for client 1", net.way(1, 1), 4);
        same("1 content", net.server(6, 0), 40);
        same("1 version", net.server(6, 1), 3);
    }

    private static void storeBy(IronbridgeCache net, int client, int content) {
        net.read(client, 6);
        net.tick(2);
        net.write(client, 6, content);
        net.flush(client);
        net.tick(4);
    }

    private static void onTheWay() {
        IronbridgeCache net = new IronbridgeCache();
        net.addClient(2, 0);
        same("15 none", net.onTheWay(), 0);
        net.read(0, 0);
        net.read(0, 1);
        same("15 two", net.onTheWay(), 2);
        net.cut(0, true);
        same("15 those, too, that will be lost", net.onTheWay(), 2);
        net.tick(2);
        same("15 lost as they come", net.onTheWay(), 0);
        same("15 lost", net.told(0, 5), 2);
    }

    private static void way() {
        IronbridgeCache net = new IronbridgeCache();
        net.addClient(3, 0);
        net.addClient(1, 0);
        net.addClient(2, 0);
        failsIndex("16 none", net, () -> net.way(0, 0));
        failsIndex("16 no place comes before what", net, () -> net.way(0, 4));
        net.read(0, 1);
        net.tick(1);
        net.read(1, 2);
        net.read(2, 3);
        net.read(1, 4);
        failsArgument("16 what 4", net, () -> net.way(0, 4));
        failsArgument("16 what -1", net, () -> net.way(0, -1));
        failsIndex("16 no place 4", net, () -> net.way(4, 0));
        failsIndex("16 no place -1", net, () -> net.way(-1, 0));
        int[][] due = {{1, 0, 2, 2}, {1, 0, 4, 2}, {0, 0, 1, 3}, {2, 0, 3, 3}};
        for (int place = 0; place < 4; place++) {
            for (int what = 0; what < 4; what++) {
                same("16 place " + place + " what " + what, net.way(place, what), due[place][what]);
            }
        }
    }

    private static void wayOfEachKind() {
        IronbridgeCache net = netOf(0, 0);
        net.read(0, 8);
        same("16 fetch", net.way(0, 1), 0);
        net.tick(1);
        same("16 give", net.way(0, 1), 3);
        net.read(1, 8);
        net.tick(2);
        net.write(0, 8, 1);
        net.write(1, 8, 2);
        net.flush(0);
        net.flush(1);
        same("16 store", net.way(1, 1), 1);
        net.tick(1);
        same("16 call", net.way(0, 1), 6);
        same("16 call to", net.way(0, 0), 1);
        net.tick(1);
        same("16 ack", net.way(0, 1), 2);
        same("16 ack of", net.way(0, 0), 1);
        net.tick(1);
        same("16 stored", net.way(0, 1), 4);
        same("16 and then the call for the next one", net.way(1, 1), 6);
        net.tick(2);
        same("16 clash", net.way(0, 1), 5);
        same("16 clash for", net.way(0, 0), 1);
        same("16 file", net.way(0, 2), 8);
        same("16 when", net.way(0, 3), net.clock() + 1);
    }
}
