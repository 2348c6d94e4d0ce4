/** Promises 6 to 10: reading, writing, time. */
final class UsingTest extends Check {
    public static void main(String[] args) {
        read();
        readWhileCut();
        eachItsOwn();
        write();
        flush();
        tick();
        tickInOrder();
        clock();
        close("UsingTest");
    }

    private static void read() {
        IronbridgeCache net = netOf(0, 0);
        failsIndex("6 no client", net, () -> net.read(2, 0));
        failsIndex("6 no client -1", net, () -> net.read(-1, 0));
        failsIndex("6 no file 12", net, () -> net.read(0, 12));
        failsIndex("6 no file -1", net, () -> net.read(0, -1));
        same("6 miss", net.read(0, 11), -1);
        same("6 fetch is sent", net.onTheWay(), 1);
        same("6 miss again", net.read(0, 11), -1);
        same("6 it asks for it already", net.onTheWay(), 1);
        same("6 misses", net.told(0, 2), 2);
        net.tick(2);
        same("6 hit", net.read(0, 11), 0);
        same("6 hits", net.told(0, 1), 1);
        same("6 nothing is sent", net.onTheWay(), 0);
        net.write(0, 11, 9999);
        same("6 what was written", net.read(0, 11), 9999);
        net.setTerm(1, 20);
        net.read(1, 3);
        net.tick(2);
        same("6 lease is over as it comes", net.read(1, 3), -1);
        same("6 so it asks again", net.has(1, 3, 5), 1);
    }

    private static void readWhileCut() {
        IronbridgeCache net = netOf(0);
        readAll(net, 0);
        net.tick(19);
        same("6 lease is over", net.has(0, 0, 4), 0);
        net.cut(0, true);
        same("6 trusts it while cut", net.read(0, 0), 0);
        same("6 what it has not is a miss", net.read(0, 1), -1);
        same("6 no fetch while cut", net.onTheWay(), 0);
        same("6 it does not ask", net.has(0, 1, 5), 0);
        same("6 it counts", net.told(0, 2), 2);
    }

    /** Three clients write different contents of one file, and each one reads its own. */
    private static void eachItsOwn() {
        IronbridgeCache net = netOf(0, 0, 0, 0);
        readAll(net, 4);
        for (int client = 3; client >= 1; client--) {
            same("7 written by " + client, net.write(client, 4, 10 * client), true);
        }
        for (int client = 0; client < 4; client++) {
            same("6 what client " + client + " has", net.read(client, 4), 10 * client);
            same("6 hits of client " + client, net.told(client, 1), client == 0 ? 1 : 2);
        }
    }

    private static void write() {
        IronbridgeCache net = netOf(0);
        failsIndex("7 no client", net, () -> net.write(1, 0, 0));
        failsIndex("7 no file", net, () -> net.write(0, 12, 0));
        failsArgument("7 content -1", net, () -> net.write(0, 0, -1));
        failsArgument("7 content 10000", net, () -> net.write(0, 0, 10000));
        failsIndex("7 no client comes before content", net, () -> net.write(1, 0, 10000));
        failsIndex("7 no file comes before content", net, () -> net.write(0, -1, -1));
        same("7 miss", net.write(0, 0, 7), false);
        same("7 fetch", net.way(0, 1), 0);
        same("7 misses", net.told(0, 2), 1);
        net.tick(2);
        same("7 nothing was written", net.has(0, 0, 0), 0);
        same("7 hit", net.write(0, 0, 9999), true);
        same("7 hits", net.told(0, 1), 1);
        same("7 content", net.has(0, 0, 0), 9999);
        same("7 dirty", net.has(0, 0, 2), 1);
        same("7 the server does not know it", net.server(0, 0), 0);
        same("7 least content", net.write(0, 0, 0), true);
        same("7 content 0", net.has(0, 0, 0), 0);
        net.tick(4);
        net.write(0, 0, 3);
        same("7 written again it stays dirty since then", net.tick(1), 1);
        same("7 the same content makes it dirty too", rewriteSame(), true);
    }

    private static boolean rewriteSame() {
        IronbridgeCache net = netOf(0);
        readAll(net, 0);
        return net.write(0, 0, 0) && net.has(0, 0, 2) == 1;
    }

    private static void flush() {
        IronbridgeCache net = netOf(0, 0);
        failsIndex("8 no client", net, () -> net.flush(2));
        same("8 nothing dirty", net.flush(0), 0);
        readAll(net, 5, 2, 9);
        net.write(0, 9, 1);
        net.write(0, 2, 2);
        same("8 two", net.flush(0), 2);
        same("8 by numbers", net.way(0, 2), 2);
        same("8 by numbers 2", net.way(1, 2), 9);
        same("8 a store", net.way(0, 1), 1);
        same("8 it sends them", net.flush(0), 0);
        net.write(0, 5, 3);
        same("8 the one that it does not send", net.flush(0), 1);
        net.write(1, 5, 4);
        net.cut(1, true);
        same("8 cut", net.flush(1), 0);
        same("8 cut: nothing is sent", net.onTheWay(), 3);
        same("8 cut: it does not send", net.has(1, 5, 5), 0);
    }

    private static void tick() {
        IronbridgeCache net = new IronbridgeCache();
        net.addClient(3, 0);
        failsArgument("9 ticks 0", net, () -> net.tick(0));
        failsArgument("9 ticks 61", net, () -> net.tick(61));
        failsArgument("9 ticks -1", net, () -> net.tick(-1));
        net.read(0, 0);
        net.read(0, 1);
        same("9 on their way", net.tick(2), 2);
        same("9 answers on their way", net.tick(1), 2);
        same("9 they come", net.tick(3), 0);
        same("9 sixty", net.tick(60), 0);
        same("9 clock", net.clock(), 66);
    }

    /** What comes, comes first; then the rows are looked at; then what is dirty is sent. */
    private static void tickInOrder() {
        IronbridgeCache net = netOf(0, 0);
        net.setTerm(5, 3);
        readAll(net, 7, 1);
        net.tick(1);
        net.write(0, 7, 1);
        net.write(1, 1, 1);
        net.write(0, 1, 2);
        net.tick(2);
        same("9 nothing yet", net.onTheWay(), 0);
        net.tick(1);
        same("9 clock 6: sent by clients and files", net.way(0, 2), 1);
        same("9 first client", net.way(1, 2), 7);
        same("9 second client", net.way(2, 0), 1);
        same("9 leases are over at 6", net.server(1, 3), 0);
        net.tick(1);
        same("9 stored", net.server(7, 0), 1);
        same("9 stored by the first", net.server(1, 0), 2);
        same("9 the second one waits", net.server(1, 2), 1);
    }

    private static void clock() {
        IronbridgeCache net = new IronbridgeCache();
        same("10 at first", net.clock(), 0);
        net.tick(1);
        same("10 one", net.clock(), 1);
        net.tick(60);
        same("10 more", net.clock(), 61);
        net.calmIn(100);
        net.contentIn(0, 100);
        same("10 what would be moves no clock", net.clock(), 61);
    }
}
