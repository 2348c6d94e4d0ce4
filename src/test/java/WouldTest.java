/** Promises 22 to 26: what would be, and the digest. */
final class WouldTest extends Check {
    public static void main(String[] args) {
        stale();
        staleByLease();
        notStaleWithoutLease();
        calmIn();
        calmInOfCutLines();
        contentIn();
        conflictsIn();
        conflictsInOfCutLine();
        digest();
        nothingIsChanged();
        asItComes();
        close("WouldTest");
    }

    private static void stale() {
        IronbridgeCache net = netOf(0, 0, 0);
        readAll(net, 0, 1);
        net.cut(1, true);
        net.cut(2, true);
        net.write(2, 0, 9);
        net.write(0, 0, 1);
        net.flush(0);
        same("22 none yet", net.stale(), 0);
        net.tick(18);
        same("22 the store waits for the leases", net.server(0, 1), 0);
        net.tick(1);
        same("22 stored", net.server(0, 1), 1);
        same("22 the one that is cut trusts the old one; the dirty ones do not count", net.stale(), 1);
        net.tick(1);
        same("22 nor does the sender, now that it is told", net.stale(), 1);
        net.cut(1, false);
        same("22 nor what can't be trusted", net.stale(), 0);
    }

    /** A late ACK takes away the lease of a FETCH, so client 0 stores without a CALL before GIVE comes. */
    private static void staleByLease() {
        IronbridgeCache net = new IronbridgeCache();
        net.addClient(1, 0);
        net.addClient(4, 0);
        net.setTerm(10, 20);
        net.read(1, 0);
        net.tick(8);
        net.read(0, 0);
        net.tick(2);
        net.write(0, 0, 1);
        net.flush(0);
        net.tick(4);
        net.read(1, 0);
        net.tick(5);
        same("22 no lease at the server", net.lease(0, 1), -1);
        net.write(0, 0, 2);
        net.flush(0);
        net.tick(2);
        same("22 a second version", net.server(0, 1), 2);
        same("22 not given yet", net.stale(), 0);
        net.tick(1);
        same("22 given the first one, with a lease until 28", net.has(1, 0, 3), 28);
        same("22 trusted, though its line is mended", net.stale(), 1);
        net.tick(5);
        same("22 clock 27", net.stale(), 1);
        net.tick(1);
        same("22 clock 28: not trusted any more", net.stale(), 0);
    }

    private static void notStaleWithoutLease() {
        IronbridgeCache net = netOf(0, 0);
        net.setTerm(20, 20);
        readAll(net, 0);
        net.write(0, 0, 1);
        net.tick(19);
        same("22 clock 21: the leases are over", net.has(1, 0, 3), -1);
        net.flush(0);
        net.tick(2);
        same("22 stored", net.server(0, 1), 1);
        same("22 it has the version of before", net.has(1, 0, 1), 0);
        same("22 but can't trust it", net.stale(), 0);
    }

    private static void calmIn() {
        IronbridgeCache net = netOf(0);
        failsArgument("23 ticks 0", net, () -> net.calmIn(0));
        failsArgument("23 ticks 101", net, () -> net.calmIn(101));
        same("23 now", net.calmIn(100), 0);
        net.read(0, 0);
        same("23 fetch", net.calmIn(1), -1);
        same("23 fetch and give", net.calmIn(2), 2);
        net.tick(2);
        net.write(0, 0, 1);
        same("23 dirty, sent, stored", net.calmIn(100), 7);
        same("23 just so many", net.calmIn(7), 7);
        same("23 one less", net.calmIn(6), -1);
        net.setTerm(20, 0);
        same("23 by the LAG that is set", net.calmIn(100), 3);
        net.setTerm(20, 5);
        net.tick(7);
        same("23 as it said", net.calmIn(1), 0);
    }

    private static void calmInOfCutLines() {
        IronbridgeCache net = netOf(0, 0);
        readAll(net, 0);
        net.cut(0, true);
        net.write(0, 0, 1);
        same("23 dirty behind a cut line is calm", net.calmIn(100), 0);
        net.write(1, 0, 2);
        net.flush(1);
        same("23 a row waits for the lease to be over", net.calmIn(100), 20);
    }

    private static void contentIn() {
        IronbridgeCache net = netOf(0);
        failsIndex("24 no file 12", net, () -> net.contentIn(12, 1));
        failsIndex("24 no file -1", net, () -> net.contentIn(-1, 1));
        failsArgument("24 ticks 0", net, () -> net.contentIn(0, 0));
        failsArgument("24 ticks 101", net, () -> net.contentIn(0, 101));
        failsIndex("24 no file comes before ticks", net, () -> net.contentIn(12, 0));
        readAll(net, 11);
        net.write(0, 11, 42);
        same("24 not yet", net.contentIn(11, 5), 0);
        same("24 then", net.contentIn(11, 6), 42);
        same("24 later", net.contentIn(11, 100), 42);
        same("24 another one", net.contentIn(10, 100), 0);
        net.cut(0, true);
        same("24 never while cut", net.contentIn(11, 100), 0);
    }

    private static void conflictsIn() {
        IronbridgeCache net = netOf(0, 0);
        failsIndex("25 no client", net, () -> net.conflictsIn(2, 1));
        failsIndex("25 no client -1", net, () -> net.conflictsIn(-1, 1));
        failsArgument("25 ticks 0", net, () -> net.conflictsIn(0, 0));
        failsArgument("25 ticks 101", net, () -> net.conflictsIn(0, 101));
        failsIndex("25 no client comes before ticks", net, () -> net.conflictsIn(2, 0));
        readAll(net, 0);
        net.write(0, 0, 1);
        net.write(1, 0, 2);
        net.flush(0);
        net.flush(1);
        same("25 not yet", net.conflictsIn(1, 5), 0);
        same("25 then", net.conflictsIn(1, 6), 1);
        same("25 none of the first", net.conflictsIn(0, 100), 0);
        net.tick(6);
        same("25 only those to come", net.conflictsIn(1, 100), 0);
        same("25 it was one", net.told(1, 3), 1);
    }

    private static void conflictsInOfCutLine() {
        IronbridgeCache net = netOf(0, 0, 0);
        readAll(net, 0, 1);
        net.cut(1, true);
        net.cut(2, true);
        net.write(1, 0, 2);
        net.write(2, 1, 3);
        net.write(0, 0, 1);
        net.write(0, 1, 1);
        net.flush(0);
        net.tick(30);
        same("25 if its line was mended", net.conflictsIn(1, 10), 1);
        same("25 the store calls first: 4 ticks", net.conflictsIn(1, 4), 1);
        same("25 3 are too few", net.conflictsIn(1, 3), 0);
        same("25 of the other", net.conflictsIn(2, 10), 1);
        same("25 it stays cut", net.told(1, 6), 1);
    }

    private static void digest() {
        same("26 new", new IronbridgeCache().digest(), digestOf(new IronbridgeCache()));
        for (int steps = 0; steps <= 30; steps++) {
            IronbridgeCache net = steppedNet(steps);
            same("26 step " + steps, net.digest(), digestOf(net));
        }
        digestOfStale();
        digestOfStaleFirst();
    }

    private static IronbridgeCache steppedNet(int steps) {
        IronbridgeCache net = new IronbridgeCache();
        net.addClient(2, 1);
        net.addClient(1, 2);
        net.addClient(5, 0);
        for (int i = 0; i < steps; i++) {
            net.read(i % 3, i * 7 % 12);
            net.write(i % 3, i * 5 % 12, i);
            net.cut(i % 2, i % 7 == 3);
            net.tick(1 + i % 3);
        }
        return net;
    }

    /** Client 1 is cut, and trusts what it has of a file that client 0 stored. */
    private static IronbridgeCache staleNet() {
        IronbridgeCache net = netOf(0, 0);
        net.addClient(8, 0);
        readAll(net, 0);
        net.cut(1, true);
        net.write(0, 0, 1);
        net.flush(0);
        net.tick(20);
        net.read(2, 5);
        return net;
    }

    private static void digestOfStale() {
        IronbridgeCache net = staleNet();
        same("26 with a stale one", net.stale(), 1);
        same("26 and with what comes 8 later", net.way(net.onTheWay() - 1, 3), 30);
        same("26 counts both", net.digest(), digestOf(net));
    }

    private static void digestOfStaleFirst() {
        IronbridgeCache net = staleNet();
        net.tick(8);
        net.read(2, 6);
        same("26 as the one comes", net.digest(), digestOf(net));
    }

    private static void nothingIsChanged() {
        IronbridgeCache net = netOf(2, 1);
        readAll(net, 0, 1, 2);
        net.write(0, 0, 1);
        net.write(1, 0, 2);
        net.cut(0, true);
        long before = net.digest();
        net.stale();
        net.calmIn(100);
        net.contentIn(0, 100);
        net.conflictsIn(0, 100);
        net.conflictsIn(1, 100);
        same("22 to 26 change nothing", net.digest(), before);
        failsIndex("25 keeps nothing aside", net, () -> net.aside(0, 0, true));
        same("23 of a cut line", net.calmIn(20), 20);
    }

    /** What would be is what comes: asked of one net, seen at another one of the same calls. */
    private static void asItComes() {
        for (int ticks = 1; ticks <= 60; ticks++) {
            IronbridgeCache asked = busyNet();
            IronbridgeCache seen = busyNet();
            seen.tick(ticks);
            for (int file = 0; file < 12; file++) {
                same("24 file " + file + " in " + ticks, asked.contentIn(file, ticks), seen.server(file, 0));
            }
            for (int client = 0; client < 4; client++) {
                int before = asked.told(client, 3);
                int conflicts = asked.conflictsIn(client, ticks);
                IronbridgeCache mended = busyNet();
                mended.cut(client, false);
                mended.tick(ticks);
                same("25 client " + client + " in " + ticks, conflicts, mended.told(client, 3) - before);
            }
            boolean isCalm = asked.calmIn(ticks) >= 0;
            same("23 in " + ticks, isCalm, ticks >= asked.calmIn(100));
        }
    }
}
