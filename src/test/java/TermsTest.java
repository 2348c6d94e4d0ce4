/** Terms 1 to 4: what clients and the server do, seen by the calls of promises 5 to 20. */
final class TermsTest extends Check {
    public static void main(String[] args) {
        storeWaitsForAck();
        storeWaitsForLease();
        storeOfContentZero();
        storeOfTheOnlyOne();
        callsAreSentOnce();
        fetchBehindStore();
        clashTheirs();
        clashOurs();
        clashBoth();
        clashOfCleanFile();
        clashOfFileThatWent();
        clashKeepsLease();
        storedWithOtherContent();
        callOfDirtyFile();
        ackOfFileThatIsNotHad();
        roomOfDirtyFiles();
        roomOneCleanLeft();
        lostThings();
        sentWhileCutIsLost();
        mendedBeforeItComes();
        severalAtOneClock();
        close("TermsTest");
    }

    private static void storeWaitsForAck() {
        IronbridgeCache net = new IronbridgeCache();
        net.addClient(1, 0);
        net.addClient(2, 0);
        net.read(0, 3);
        net.read(1, 3);
        net.tick(4);
        same("1 lease of 0", net.lease(3, 0), 21);
        same("1 lease of 1", net.lease(3, 1), 22);
        net.write(0, 3, 100);
        net.flush(0);
        net.tick(1);
        same("1 call comes at 7", net.way(0, 3), 7);
        net.tick(2);
        same("1 called: it goes", net.has(1, 3, 0), -1);
        same("1 ack is sent", net.way(0, 1), 2);
        same("1 the server keeps the lease till then", net.lease(3, 1), 22);
        net.tick(1);
        same("1 waits", net.server(3, 1), 0);
        net.tick(1);
        same("1 stored", net.server(3, 0), 100);
        same("1 lease is taken away", net.lease(3, 1), -1);
        same("1 lease as with fetch", net.lease(3, 0), 29);
        net.tick(1);
        same("1 told so", net.has(0, 3, 3), 29);
        same("1 the other one has it no more", net.has(1, 3, 0), -1);
        ackIsLookedAtAtOnce();
    }

    /** By the ACK of file 9 its STORE is done before FETCH of file 2, which comes behind it. */
    private static void ackIsLookedAtAtOnce() {
        IronbridgeCache net = netOf(0, 0);
        readAll(net, 9);
        net.write(0, 9, 1);
        net.flush(0);
        net.tick(2);
        net.read(0, 2);
        same("1 ack", net.way(0, 1), 2);
        net.tick(1);
        same("1 stored first", net.way(0, 1), 4);
        same("1 then given", net.way(1, 1), 3);
    }

    private static void storeWaitsForLease() {
        IronbridgeCache net = netOf(0, 0);
        readAll(net, 3);
        net.cut(1, true);
        net.write(0, 3, 100);
        net.flush(0);
        net.tick(18);
        same("1 the lease lasts", net.server(3, 1), 0);
        net.tick(1);
        same("1 clock 21: done in the tick", net.server(3, 1), 1);
        same("1 one call, lost", net.told(1, 5), 1);
    }

    /** A STORE of CONTENT 0 is one all the same: it calls, waits and is in conflict as any other. */
    private static void storeOfContentZero() {
        IronbridgeCache net = netOf(0, 0);
        readAll(net, 3);
        net.write(0, 3, 0);
        net.write(1, 3, 0);
        net.flush(0);
        net.flush(1);
        net.tick(1);
        same("1 a store", net.request(3, 0, 1), 1);
        same("1 it waits", net.server(3, 2), 2);
        same("1 it calls", net.way(0, 1), 6);
        net.tick(2);
        same("1 stored", net.server(3, 1), 1);
        same("1 the next one calls, too", net.way(1, 1), 6);
        net.tick(3);
        same("2 and is in conflict", net.told(1, 3), 1);
    }

    private static void storeOfTheOnlyOne() {
        IronbridgeCache net = netOf(0, 0);
        net.read(0, 3);
        net.tick(2);
        net.write(0, 3, 8);
        net.flush(0);
        same("1 nobody is called", net.tick(1), 1);
        same("1 done at once", net.server(3, 0), 8);
    }

    private static void callsAreSentOnce() {
        IronbridgeCache net = new IronbridgeCache();
        net.addClient(1, 0);
        net.addClient(8, 0);
        net.addClient(8, 0);
        readSlowly(net);
        net.write(0, 3, 1);
        net.flush(0);
        same("1 two calls", net.tick(1), 2);
        same("1 by numbers", net.way(0, 0), 1);
        same("1 by numbers 2", net.way(1, 0), 2);
        same("1 no more calls in later ticks", net.tick(5), 2);
        same("1 two acks", net.tick(3), 2);
        net.tick(7);
        same("1 not before the last ack", net.server(3, 1), 0);
        net.tick(1);
        same("1 then it is done", net.server(3, 1), 1);
        same("1 called once", net.told(1, 4), 1);
        same("1 called once 2", net.told(2, 4), 1);
    }

    private static void readSlowly(IronbridgeCache net) {
        net.setTerm(60, 20);
        net.read(0, 3);
        net.read(1, 3);
        net.read(2, 3);
        net.tick(16);
    }

    private static void fetchBehindStore() {
        IronbridgeCache net = netOf(0, 0, 0);
        net.read(0, 3);
        net.read(1, 3);
        net.tick(2);
        net.write(0, 3, 6);
        net.flush(0);
        net.read(2, 3);
        net.tick(1);
        same("1 fetch waits behind the store", net.server(3, 2), 2);
        net.tick(2);
        same("1 both are done", net.server(3, 2), 0);
        same("1 stored first", net.way(0, 1), 4);
        same("1 then given", net.way(1, 1), 3);
        net.tick(1);
        same("1 what was stored", net.has(2, 3, 0), 6);
        same("1 its version", net.has(2, 3, 1), 1);
    }

    /** Client 0 stores 5, and client 1 of some habit 7: behind it CLASH has come. */
    private static IronbridgeCache clashed(int habit) {
        IronbridgeCache net = netOf(0, habit);
        readAll(net, 0);
        net.write(0, 0, 5);
        net.write(1, 0, 7);
        net.flush(0);
        net.flush(1);
        net.tick(5);
        same("2 clash is on its way", net.way(0, 1), 5);
        same("2 no lease by it", net.server(0, 3), 0);
        net.tick(1);
        return net;
    }

    private static void clashTheirs() {
        IronbridgeCache net = clashed(0);
        same("2 theirs: content", net.has(1, 0, 0), 5);
        same("2 theirs: version", net.has(1, 0, 1), 1);
        same("2 theirs: clean", net.has(1, 0, 2), 0);
        same("2 theirs: no lease", net.has(1, 0, 3), -1);
        same("2 theirs: no trust", net.has(1, 0, 4), 0);
        same("2 theirs: sends no more", net.has(1, 0, 5), 0);
        same("2 theirs: conflict", net.told(1, 3), 1);
        same("2 theirs: nothing is sent", net.onTheWay(), 0);
        failsIndex("2 theirs: nothing aside", net, () -> net.aside(1, 0, true));
    }

    private static void clashOurs() {
        IronbridgeCache net = clashed(1);
        same("2 ours: content", net.has(1, 0, 0), 7);
        same("2 ours: version", net.has(1, 0, 1), 1);
        same("2 ours: dirty", net.has(1, 0, 2), 1);
        same("2 ours: sends", net.has(1, 0, 5), 2);
        same("2 ours: conflict", net.told(1, 3), 1);
        same("2 ours: store", net.way(0, 1), 1);
        failsIndex("2 ours: nothing aside", net, () -> net.aside(1, 0, true));
        net.tick(1);
        same("2 ours: stored", net.server(0, 0), 7);
        same("2 ours: version 2", net.server(0, 1), 2);
        net.tick(1);
        same("2 ours: clean", net.has(1, 0, 2), 0);
    }

    private static void clashBoth() {
        IronbridgeCache net = clashed(2);
        same("2 both: content", net.has(1, 0, 0), 5);
        same("2 both: clean", net.has(1, 0, 2), 0);
        same("2 both: no lease", net.has(1, 0, 3), -1);
        same("2 both: aside", net.aside(1, 0, true), 7);
    }

    /** Two stores of one file with the same base: the first is stored, the second one clashes. */
    private static IronbridgeCache sentTwice(int habit) {
        IronbridgeCache net = netOf(habit, 0);
        net.read(0, 0);
        net.tick(2);
        net.write(0, 0, 3);
        net.flush(0);
        net.cut(0, true);
        net.cut(0, false);
        same("2 two stores", net.onTheWay(), 2);
        net.tick(1);
        same("2 stored", net.way(0, 1), 4);
        same("2 and clash", net.way(1, 1), 5);
        return net;
    }

    private static void clashOfCleanFile() {
        IronbridgeCache net = sentTwice(1);
        net.tick(1);
        same("2 ours, clean: not dirty", net.has(0, 0, 2), 0);
        same("2 ours, clean: sent again", net.has(0, 0, 5), 2);
        net.tick(1);
        same("2 ours, clean: stored again", net.server(0, 1), 2);
        IronbridgeCache both = sentTwice(2);
        both.tick(1);
        same("2 both, clean: aside", both.aside(0, 0, true), 3);
        same("2 both, clean: no lease", both.has(0, 0, 3), -1);
    }

    private static void clashOfFileThatWent() {
        IronbridgeCache net = netOf(2);
        net.setRoom(2);
        readAll(net, 0);
        net.write(0, 0, 3);
        net.flush(0);
        net.tick(1);
        net.read(0, 4);
        net.read(0, 5);
        net.cut(0, true);
        same("2 second store of the same base", net.cut(0, false), 1);
        net.tick(2);
        same("2 it went for what was given", net.has(0, 0, 0), -1);
        same("2 conflict of what went", net.told(0, 3), 1);
        same("2 it does not send it", net.has(0, 0, 5), 0);
        failsIndex("2 nothing is kept aside of it", net, () -> net.aside(0, 0, true));
        same("2 it does not come back", net.told(0, 0), 2);
        sendsWhileCut();
        sendsWhatWent();
    }

    private static void sendsWhileCut() {
        IronbridgeCache net = sentTwice(1);
        net.tick(1);
        same("2 sends a clean one", net.has(0, 0, 5), 2);
        net.cut(0, true);
        same("2 cut: sends nothing", net.has(0, 0, 5), 0);
        same("2 mended: clean ones are not sent", net.cut(0, false), 0);
    }

    /** OURS is sent again of a clean file, which goes before it is stored. */
    private static void sendsWhatWent() {
        IronbridgeCache net = sentTwice(1);
        net.read(1, 0);
        net.tick(1);
        net.setRoom(2);
        net.read(0, 4);
        net.read(0, 5);
        net.tick(2);
        same("2 it went", net.has(0, 0, 0), -1);
        same("2 it sends it still", net.has(0, 0, 5), 2);
        net.tick(2);
        same("2 stored: it sends it no more", net.has(0, 0, 5), 0);
        same("2 and has it not", net.has(0, 0, 0), -1);
        same("2 though the server stored it", net.server(0, 1), 2);
    }

    private static void clashKeepsLease() {
        IronbridgeCache net = sentTwice(0);
        same("2 the lease of the first store stays", net.lease(0, 0), 23);
        net.tick(1);
        same("2 but the client has none", net.has(0, 0, 3), -1);
        same("2 the server keeps it", net.lease(0, 0), 23);
    }

    private static void storedWithOtherContent() {
        IronbridgeCache net = netOf(0);
        readAll(net, 0);
        net.write(0, 0, 3);
        net.flush(0);
        net.tick(1);
        net.write(0, 0, 4);
        net.tick(1);
        same("2 version", net.has(0, 0, 1), 1);
        same("2 lease", net.has(0, 0, 3), 23);
        same("2 dirty still", net.has(0, 0, 2), 1);
        same("2 sends no more", net.has(0, 0, 5), 0);
        same("3 dirty since the first write", net.tick(2), 0);
        same("3 clock 7: sent again", net.tick(1), 1);
        net.write(0, 0, 5);
        net.write(0, 0, 4);
        net.tick(2);
        same("2 the content that was stored: clean", net.has(0, 0, 2), 0);
    }

    private static void callOfDirtyFile() {
        IronbridgeCache net = netOf(0, 0);
        readAll(net, 0);
        net.write(1, 0, 7);
        net.write(0, 0, 5);
        net.flush(0);
        net.tick(2);
        same("2 called", net.told(1, 4), 1);
        same("2 dirty stays", net.has(1, 0, 0), 7);
        same("2 its lease is over", net.has(1, 0, 3), -1);
        same("2 it can trust it", net.has(1, 0, 4), 1);
        same("2 ack", net.way(0, 1), 2);
    }

    private static void ackOfFileThatIsNotHad() {
        IronbridgeCache net = netOf(0, 0);
        net.setRoom(2);
        readAll(net, 0);
        net.read(1, 1);
        net.read(1, 2);
        net.tick(2);
        same("2 it went for room", net.has(1, 0, 0), -1);
        same("2 the server knows nothing of it", net.lease(0, 1), 21);
        net.write(0, 0, 5);
        net.flush(0);
        net.tick(3);
        same("2 ack in each case", net.server(0, 1), 1);
        same("2 it was called", net.told(1, 4), 1);
        same("2 the others stay", net.told(1, 0), 2);
    }

    private static void roomOfDirtyFiles() {
        IronbridgeCache net = netOf(0);
        net.setTerm(60, 20);
        net.setRoom(2);
        readAll(net, 0, 1);
        net.write(0, 0, 1);
        net.write(0, 1, 1);
        net.read(0, 2);
        net.tick(2);
        same("2 no room: not kept", net.has(0, 2, 0), -1);
        same("2 it does not ask for it any more", net.has(0, 2, 5), 0);
        same("2 the server gave a lease", net.lease(2, 0), 63);
        same("2 both stay", net.told(0, 0), 2);
    }

    /** ROOM is less than what is dirty: the clean one goes, though what comes finds no room. */
    private static void roomOneCleanLeft() {
        IronbridgeCache net = netOf(0);
        net.setTerm(60, 20);
        readAll(net, 0, 1, 2, 3);
        net.write(0, 0, 1);
        net.write(0, 2, 1);
        net.setRoom(2);
        net.read(0, 5);
        net.tick(2);
        same("2 not kept", net.has(0, 5, 0), -1);
        same("2 those that went stay away", net.has(0, 1, 0), -1);
        same("2 both", net.has(0, 3, 0), -1);
        same("2 the dirty ones", net.told(0, 0), 2);
        net.setRoom(3);
        net.read(0, 5);
        net.tick(2);
        net.read(0, 6);
        net.tick(2);
        same("2 of the clean ones the one of the longest time ago", net.has(0, 5, 0), -1);
        same("2 a dirty one stays, used before", net.has(0, 0, 0), 1);
        same("2 it is there", net.used(0, 0), 6);
    }

    private static void lostThings() {
        IronbridgeCache net = netOf(0);
        net.read(0, 0);
        net.cut(0, true);
        net.tick(1);
        same("2 fetch is lost", net.told(0, 5), 1);
        same("2 nothing comes of it", net.onTheWay(), 0);
        net.cut(0, false);
        net.read(0, 0);
        net.tick(1);
        net.cut(0, true);
        net.tick(1);
        same("2 give is lost", net.told(0, 5), 2);
        same("2 not had", net.has(0, 0, 0), -1);
        same("2 the lease stands at the server", net.lease(0, 0), 22);
    }

    private static void sentWhileCutIsLost() {
        IronbridgeCache net = new IronbridgeCache();
        net.addClient(1, 0);
        net.addClient(4, 0);
        net.setTerm(60, 5);
        net.read(0, 0);
        net.read(1, 0);
        net.tick(8);
        net.cut(1, true);
        net.write(0, 0, 5);
        net.flush(0);
        net.tick(1);
        same("2 call is sent to the one that is cut", net.way(0, 1), 6);
        net.cut(1, false);
        net.tick(4);
        same("2 lost, though mended as it comes", net.told(1, 5), 1);
        same("2 no call came", net.told(1, 4), 0);
        same("2 it has it still", net.has(1, 0, 0), 0);
    }

    private static void mendedBeforeItComes() {
        IronbridgeCache net = new IronbridgeCache();
        net.addClient(4, 0);
        net.read(0, 0);
        net.cut(0, true);
        net.tick(3);
        net.cut(0, false);
        net.tick(1);
        same("2 cut between: not lost", net.told(0, 5), 0);
        same("2 it came", net.lease(0, 0), 24);
    }

    private static void severalAtOneClock() {
        IronbridgeCache net = new IronbridgeCache();
        net.addClient(3, 0);
        net.addClient(1, 0);
        net.addClient(1, 0);
        net.read(0, 0);
        net.read(1, 0);
        net.read(2, 0);
        net.tick(6);
        net.write(0, 0, 10);
        net.write(1, 0, 11);
        net.flush(0);
        net.tick(2);
        net.flush(1);
        net.tick(1);
        same("2 the one that was sent first is first", net.request(0, 0, 0), 0);
        same("2 the other is behind it", net.request(0, 1, 0), 1);
    }
}
