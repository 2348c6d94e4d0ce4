/** What is on its way tells what was so as it was sent, and what comes changes just what Terms 2 says. */
final class SentTest extends Check {
    public static void main(String[] args) {
        storeAsItIsSent();
        baseAsItIsSent();
        giveAsItIsSent();
        clashAsItIsSent();
        clashOfLaterVersion();
        clashGivesNoLease();
        calledDirty();
        oursAsItComes();
        bothAsItComes();
        oursStaysDirtySince();
        clashIsNoUse();
        storedIsNoUse();
        calledWhileItAsks();
        termAsItIsDone();
        missIsNotWrittenLater();
        writtenBack();
        close("SentTest");
    }

    private static void storeAsItIsSent() {
        IronbridgeCache net = new IronbridgeCache();
        net.addClient(3, 0);
        net.read(0, 0);
        net.tick(6);
        net.write(0, 0, 1);
        net.flush(0);
        net.write(0, 0, 2);
        net.tick(3);
        same("3 the content as it was sent", net.server(0, 0), 1);
        same("3 the client has another one", net.has(0, 0, 0), 2);
        net.tick(3);
        same("2 so it is dirty still", net.has(0, 0, 2), 1);
        same("2 and has its own content", net.has(0, 0, 0), 2);
        same("2 with the version that was stored", net.has(0, 0, 1), 1);
    }

    /** While STORE is on its way, STORED of the one before comes: BASE stays what it was. */
    private static void baseAsItIsSent() {
        IronbridgeCache net = new IronbridgeCache();
        net.addClient(3, 0);
        net.read(0, 0);
        net.tick(6);
        net.write(0, 0, 1);
        net.flush(0);
        net.tick(4);
        net.cut(0, true);
        net.cut(0, false);
        net.tick(2);
        same("2 version 1 is known", net.has(0, 0, 1), 1);
        net.tick(1);
        same("3 but BASE was 0", net.server(0, 1), 1);
        same("1 so it is CLASH", net.way(0, 1), 5);
    }

    /** GIVE to the slow client 0 is on its way as client 1 stores another content. */
    private static void giveAsItIsSent() {
        IronbridgeCache net = new IronbridgeCache();
        net.addClient(8, 0);
        net.addClient(1, 0);
        net.setTerm(3, 20);
        net.read(0, 0);
        net.tick(7);
        net.read(1, 0);
        net.tick(2);
        net.write(1, 0, 5);
        net.flush(1);
        net.tick(2);
        same("1 stored at 11, as the lease of 8 is over", net.server(0, 0), 5);
        net.tick(5);
        same("2 given as it was sent", net.has(0, 0, 0), 0);
        same("2 with the version of then", net.has(0, 0, 1), 0);
        same("2 and the lease of then, which is over", net.has(0, 0, 3), -1);
        same("22 what can't be trusted is not stale", net.stale(), 0);
    }

    /** CLASH to the slow client 0 is on its way as client 1 stores a second content. */
    private static void clashAsItIsSent() {
        IronbridgeCache net = new IronbridgeCache();
        net.addClient(8, 0);
        net.addClient(1, 0);
        net.setTerm(2, 20);
        net.read(0, 0);
        net.tick(16);
        net.cut(0, true);
        net.write(0, 0, 7);
        net.read(1, 0);
        net.tick(2);
        net.write(1, 0, 5);
        net.flush(1);
        net.tick(2);
        net.cut(0, false);
        net.tick(8);
        same("1 CLASH is sent at 28", net.way(0, 1), 5);
        net.read(1, 0);
        net.tick(2);
        net.write(1, 0, 6);
        net.flush(1);
        net.tick(6);
        same("1 a second version", net.server(0, 1), 2);
        same("2 the content of the first one", net.has(0, 0, 0), 5);
        same("2 the version of the first one", net.has(0, 0, 1), 1);
        same("2 a conflict", net.told(0, 3), 1);
    }

    /** Client 0 stores twice before client 1 sends what it wrote of version 0. */
    private static void clashOfLaterVersion() {
        for (int habit = 0; habit <= 2; habit++) {
            IronbridgeCache net = netOf(0, habit);
            net.setTerm(20, 20);
            readAll(net, 9);
            net.write(1, 9, 7);
            for (int content = 5; content <= 6; content++) {
                net.write(0, 9, content);
                net.flush(0);
                net.tick(4);
            }
            same("1 stored twice", net.server(9, 1), 2);
            net.flush(1);
            net.tick(4);
            same("2 a conflict", net.told(1, 3), 1);
            same("2 the version of the server, habit " + habit, net.has(1, 9, 1), 2);
            same("2 the content, habit " + habit, net.has(1, 9, 0), habit == 1 ? 7 : 6);
            net.tick(4);
            same("2 OURS with this BASE is stored", net.server(9, 1), habit == 1 ? 3 : 2);
        }
    }

    private static void clashGivesNoLease() {
        for (int habit = 0; habit <= 2; habit += 2) {
            IronbridgeCache net = netOf(0, habit);
            readAll(net, 11);
            net.write(0, 11, 9999);
            net.write(1, 11, 9998);
            net.flush(0);
            net.flush(1);
            net.tick(6);
            same("2 the content of the server", net.has(1, 11, 0), 9999);
            same("2 no lease", net.has(1, 11, 3), -1);
            same("2 no trust", net.has(1, 11, 4), 0);
            same("2 none at the server", net.lease(11, 1), -1);
        }
    }

    private static void calledDirty() {
        for (int habit = 0; habit <= 2; habit++) {
            IronbridgeCache net = netOf(0, habit);
            readAll(net, 0, 1, 2, 7);
            net.write(1, 7, 8);
            net.write(0, 7, 5);
            net.flush(0);
            net.tick(2);
            same("2 called", net.told(1, 4), 1);
            same("2 its lease is over", net.has(1, 7, 3), -1);
            same("2 its content stays", net.has(1, 7, 0), 8);
            for (int file = 0; file <= 2; file++) {
                same("2 the lease of file " + file + " is not", net.has(1, file, 3), 21);
            }
        }
    }

    /** Client 0 has stored 5; client 1 wrote and sent 7, then wrote 8, and CLASH has come to it. */
    private static IronbridgeCache clashedSince(int habit) {
        IronbridgeCache net = netOf(0, habit);
        net.setTerm(20, 20);
        readAll(net, 0, 1);
        net.write(0, 0, 5);
        net.write(1, 0, 7);
        net.flush(0);
        net.flush(1);
        net.tick(1);
        net.write(1, 1, 9);
        net.write(1, 0, 8);
        net.read(1, 1);
        net.tick(5);
        same("2 a conflict", net.told(1, 3), 1);
        return net;
    }

    private static void oursAsItComes() {
        IronbridgeCache net = clashedSince(1);
        same("2 ours: what it has", net.has(1, 0, 0), 8);
        same("2 ours: dirty", net.has(1, 0, 2), 1);
        same("2 ours: a store", net.way(0, 1), 1);
        net.tick(1);
        same("2 ours: of what it has now", net.server(0, 0), 8);
        same("2 ours: as a second version", net.server(0, 1), 2);
    }

    private static void bothAsItComes() {
        IronbridgeCache net = clashedSince(2);
        same("2 both: the content of the server", net.has(1, 0, 0), 5);
        same("2 both: clean", net.has(1, 0, 2), 0);
        same("2 both: aside is what it had as CLASH came", net.aside(1, 0, true), 8);
        same("2 both: of this file", net.aside(1, 0, false), 0);
        failsIndex("2 both: not what was sent", net, () -> net.aside(1, 1, true));
    }

    private static void oursStaysDirtySince() {
        IronbridgeCache net = clashedSince(1);
        net.cut(1, true);
        same("3 two are dirty", net.cut(1, false), 2);
        same("3 file 0, dirty since 2, is sent after the store of before", net.way(1, 2), 0);
        same("3 file 1, dirty since 3, is sent then", net.way(2, 2), 1);
    }

    private static void clashIsNoUse() {
        for (int habit = 0; habit <= 2; habit++) {
            IronbridgeCache net = clashedSince(habit);
            same("2 used last by reading, not by CLASH", net.used(1, 0), 1);
            same("2 the one of CLASH before it", net.used(1, 1), 0);
        }
    }

    private static void storedIsNoUse() {
        IronbridgeCache net = netOf(0);
        readAll(net, 0, 1);
        net.write(0, 0, 5);
        net.flush(0);
        net.read(0, 1);
        net.tick(2);
        same("2 stored", net.has(0, 0, 1), 1);
        same("2 used last by reading, not by STORED", net.used(0, 0), 1);
    }

    /** It asks for a file that it has, and is called for it before it is given. */
    private static void calledWhileItAsks() {
        IronbridgeCache net = new IronbridgeCache();
        net.addClient(1, 0);
        net.addClient(3, 0);
        net.setTerm(60, 20);
        net.read(1, 0);
        net.tick(6);
        net.read(0, 0);
        net.tick(2);
        net.write(0, 0, 5);
        net.flush(0);
        net.cut(1, true);
        net.cut(1, false);
        net.tick(1);
        same("3 its leases are over: a miss", net.read(1, 0), -1);
        net.tick(3);
        same("2 called, it goes", net.has(1, 0, 0), -1);
        same("2 and asks for it still", net.has(1, 0, 5), 1);
        same("1 fetch waits behind the store", net.server(0, 2), 2);
        same("3 a miss, but no second fetch", net.read(1, 0), -1);
        same("2 only ack is on its way", net.onTheWay(), 1);
        net.tick(3);
        same("1 both are done by ack", net.server(0, 2), 0);
        net.tick(3);
        same("2 given", net.has(1, 0, 0), 5);
        same("2 it asks no more", net.has(1, 0, 5), 0);
    }

    /** TERM is that of the clock at which the request is done, not at which it was sent. */
    private static void termAsItIsDone() {
        IronbridgeCache net = netOf(0);
        net.read(0, 0);
        net.setTerm(7, 20);
        net.tick(1);
        same("1 TERM as it is done", net.lease(0, 0), 8);
        net.setTerm(30, 20);
        net.tick(1);
        same("2 given as it was sent", net.has(0, 0, 3), 8);
    }

    private static void missIsNotWrittenLater() {
        IronbridgeCache net = netOf(0);
        same("3 a miss", net.write(0, 0, 5), false);
        net.tick(2);
        same("3 given, not written", net.has(0, 0, 0), 0);
        same("3 clean", net.has(0, 0, 2), 0);
        same("9 so nothing is sent", net.tick(10), 0);
    }

    /** Written otherwise and back again while it is sent: just that which was stored, so it is clean. */
    private static void writtenBack() {
        IronbridgeCache net = netOf(0);
        readAll(net, 0);
        net.write(0, 0, 5);
        net.flush(0);
        net.write(0, 0, 6);
        net.write(0, 0, 5);
        net.tick(2);
        same("2 clean", net.has(0, 0, 2), 0);
        same("2 and nothing is sent any more", net.tick(10), 0);
    }
}
