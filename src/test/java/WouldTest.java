/** Promises 22 to 26: what would be, and the digest. */
final class WouldTest extends Check {
    public static void main(String[] args) {
        stale();
        calmIn();
        calmInOfCutLines();
        contentIn();
        conflictsIn();
        conflictsInOfCutLine();
        digest();
        nothingIsChanged();
        close("WouldTest");
    }

    private static void stale() {
        IronbridgeCache net = netOf(0, 0, 0);
        readAll(net, 0, 1);
        net.cut(1, true);
        net.cut(2, true);
        net.write(2, 0, 9);
        net.write(0, 0, 1);
        net.flush(0);
        same("22 none yet", net.stale(), 0);
        net.tick(18);
        same("22 the store waits for the leases", net.server(0, 1), 0);
        net.tick(1);
        same("22 stored", net.server(0, 1), 1);
        same("22 the one that is cut trusts the old one; the dirty ones do not count", net.stale(), 1);
        net.tick(1);
        same("22 nor does the sender, now that it is told", net.stale(), 1);
        net.cut(1, false);
        same("22 nor what can't be trusted", net.stale(), 0);
    }

    private static void calmIn() {
        IronbridgeCache net = netOf(0);
        failsArgument("23 ticks 0", net, () -> net.calmIn(0));
        failsArgument("23 ticks 101", net, () -> net.calmIn(101));
        same("23 now", net.calmIn(100), 0);
        net.read(0, 0);
        same("23 fetch", net.calmIn(1), -1);
        same("23 fetch and give", net.calmIn(2), 2);
        net.tick(2);
        net.write(0, 0, 1);
        same("23 dirty, sent, stored", net.calmIn(100), 7);
        same("23 just so many", net.calmIn(7), 7);
        same("23 one less", net.calmIn(6), -1);
        net.tick(7);
        same("23 as it said", net.calmIn(1), 0);
    }

    private static void calmInOfCutLines() {
        IronbridgeCache net = netOf(0, 0);
        readAll(net, 0);
        net.cut(0, true);
        net.write(0, 0, 1);
        same("23 dirty behind a cut line is calm", net.calmIn(100), 0);
        net.write(1, 0, 2);
        net.flush(1);
        same("23 a row waits for the lease to be over", net.calmIn(100), 20);
    }

    private static void contentIn() {
        IronbridgeCache net = netOf(0);
        failsIndex("24 no file 12", net, () -> net.contentIn(12, 1));
        failsIndex("24 no file -1", net, () -> net.contentIn(-1, 1));
        failsArgument("24 ticks 0", net, () -> net.contentIn(0, 0));
        failsArgument("24 ticks 101", net, () -> net.contentIn(0, 101));
        failsIndex("24 no file comes before ticks", net, () -> net.contentIn(12, 0));
        readAll(net, 11);
        net.write(0, 11, 42);
        same("24 not yet", net.contentIn(11, 5), 0);
        same("24 then", net.contentIn(11, 6), 42);
        same("24 later", net.contentIn(11, 100), 42);
        same("24 another one", net.contentIn(10, 100), 0);
        net.cut(0, true);
        same("24 never while cut", net.contentIn(11, 100), 0);
    }

    private static void conflictsIn() {
        IronbridgeCache net = netOf(0, 0);
        failsIndex("25 no client", net, () -> net.conflictsIn(2, 1));
        failsIndex("25 no client -1", net, () -> net.conflictsIn(-1, 1));
        failsArgument("25 ticks 0", net, () -> net.conflictsIn(0, 0));
        failsArgument("25 ticks 101", net, () -> net.conflictsIn(0, 101));
        failsIndex("25 no client comes before ticks", net, () -> net.conflictsIn(2, 0));
        readAll(net, 0);
        net.write(0, 0, 1);
        net.write(1, 0, 2);
        net.flush(0);
        net.flush(1);
        same("25 not yet", net.conflictsIn(1, 5), 0);
        same("25 then", net.conflictsIn(1, 6), 1);
        same("25 none of the first", net.conflictsIn(0, 100), 0);
        net.tick(6);
        same("25 only those to come", net.conflictsIn(1, 100), 0);
        same("25 it was one", net.told(1, 3), 1);
    }

    private static void conflictsInOfCutLine() {
        IronbridgeCache net = netOf(0, 0, 0);
        readAll(net, 0, 1);
        net.cut(1, true);
        net.cut(2, true);
        net.write(1, 0, 2);
        net.write(2, 1, 3);
        net.write(0, 0, 1);
        net.write(0, 1, 1);
        net.flush(0);
        net.tick(30);
        same("25 if its line was mended", net.conflictsIn(1, 10), 1);
        same("25 the store calls first: 4 ticks", net.conflictsIn(1, 4), 1);
        same("25 3 are too few", net.conflictsIn(1, 3), 0);
        same("25 of the other", net.conflictsIn(2, 10), 1);
        same("25 it stays cut", net.told(1, 6), 1);
    }

    private static void digest() {
        IronbridgeCache net = new IronbridgeCache();
        same("26 new", net.digest(), digestOf(net));
        net.addClient(2, 1);
        net.addClient(1, 2);
        net.addClient(5, 0);
        for (int i = 0; i < 40; i++) {
            net.read(i % 3, i * 7 % 12);
            net.write(i % 3, i * 5 % 12, i);
            net.cut(i % 2, i % 7 == 3);
            net.tick(1 + i % 3);
            same("26 step " + i, net.digest(), digestOf(net));
        }
    }

    private static long digestOf(IronbridgeCache net) {
        long d = 58077;
        long[] start = {net.clock(), net.clients(), net.onTheWay(), net.stale()};
        for (long v : start) {
            d = d * 31 + v;
        }
        for (int file = 0; file < 12; file++) {
            for (int what = 0; what < 4; what++) {
                d = d * 31 + net.server(file, what);
            }
        }
        for (int client = 0; client < net.clients(); client++) {
            for (int what = 0; what < 7; what++) {
                d = d * 31 + net.told(client, what);
            }
            for (int place = 0; place < net.told(client, 0); place++) {
                d = d * 31 + net.used(client, place);
            }
            for (int file = 0; file < 12; file++) {
                for (int what = 0; what < 6; what++) {
                    d = d * 31 + net.has(client, file, what);
                }
            }
        }
        for (int place = 0; place < net.onTheWay(); place++) {
            for (int what = 0; what < 4; what++) {
                d = d * 31 + net.way(place, what);
            }
        }
        return d;
    }

    private static void nothingIsChanged() {
        IronbridgeCache net = netOf(2, 1);
        readAll(net, 0, 1, 2);
        net.write(0, 0, 1);
        net.write(1, 0, 2);
        net.cut(0, true);
        long before = net.digest();
        net.stale();
        net.calmIn(100);
        net.contentIn(0, 100);
        net.conflictsIn(0, 100);
        net.conflictsIn(1, 100);
        same("22 to 26 change nothing", net.digest(), before);
        failsIndex("25 keeps nothing aside", net, () -> net.aside(0, 0, true));
        same("23 of a cut line", net.calmIn(20), 20);
    }
}
