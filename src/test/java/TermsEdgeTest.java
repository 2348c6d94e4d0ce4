/** The boundary cases that the sentences of Terms 1 to 4 name, each by itself. */
final class TermsEdgeTest extends Check {
    public static void main(String[] args) {
        leaseIsOverAtItsClock();
        leaseOverIsNotCalled();
        leaseOverIsNotWaitedFor();
        leaseOfFetchReplaces();
        leaseOfStoreReplaces();
        notLookedAtAsOthersComeBehind();
        calledOnceThoughLost();
        callsByNumbers();
        ownLeaseIsNotWaitedFor();
        lateAckTakesTheNewLease();
        baseJustTheVersion();
        rowOfMany();
        rowOfManyAhead();
        rowsOfEachFile();
        manyOnTheWay();
        sentOrderAtOneClock();
        lostFetchAndGive();
        lostStoreAndStored();
        lostCallAndAck();
        lostClash();
        cutAndMendedBetween();
        cutAtItsClock();
        roomIsNotForWhatItHas();
        roomForSeveral();
        roomForNone();
        givenToDirty();
        asksOnce();
        wentWhileSent();
        wentWhileSentAgain();
        cleanClash();
        dirtySince();
        dirtyLongerThanLag();
        notSentTwiceByLag();
        lagWhileCut();
        cutTwice();
        mendedTwice();
        missIsNoUse();
        filesThenClients();
        aheadOfARow();
        aheadAsFilesGo();
        close("TermsEdgeTest");
    }

    // ---- 1 the server: leases

    private static void leaseIsOverAtItsClock() {
        IronbridgeCache net = netOf(0);
        net.setTerm(5, 20);
        readAll(net, 3);
        net.tick(3);
        same("1 clock 5, until 6: set", net.server(3, 3), 1);
        same("1 clock 5: lease", net.lease(3, 0), 6);
        same("2 clock 5: the client's", net.has(0, 3, 3), 6);
        same("2 clock 5: trust", net.has(0, 3, 4), 1);
        same("3 clock 5: hit", net.read(0, 3), 0);
        net.tick(1);
        same("1 clock 6: set", net.server(3, 3), 0);
        same("1 clock 6: lease", net.lease(3, 0), -1);
        same("2 clock 6: the client's", net.has(0, 3, 3), -1);
        same("2 clock 6: trust", net.has(0, 3, 4), 0);
        same("3 clock 6: miss", net.read(0, 3), -1);
        same("3 clock 6: miss, written", net.write(0, 3, 1), false);
        same("2 it has it still", net.has(0, 3, 0), 0);
    }

    /** Clients 0 and 1 have leases of file 3 until 6, and client 0 stores it at this clock. */
    private static IronbridgeCache storedAt(int clock) {
        IronbridgeCache net = netOf(0, 0);
        net.setTerm(5, 20);
        readAll(net, 3);
        net.write(0, 3, 7);
        if (clock > 3) {
            net.tick(clock - 3);
        }
        net.flush(0);
        net.tick(1);
        return net;
    }

    private static void leaseOverIsNotCalled() {
        IronbridgeCache net = storedAt(6);
        same("1 at 6 the lease is over: done at once", net.server(3, 1), 1);
        same("1 only STORED is sent", net.onTheWay(), 1);
        same("1 it is STORED", net.way(0, 1), 4);
        net.tick(1);
        same("1 no call came", net.told(1, 4), 0);
    }

    private static void leaseOverIsNotWaitedFor() {
        IronbridgeCache net = storedAt(5);
        same("1 at 5 it is not over: called", net.way(0, 1), 6);
        same("1 at 5 it waits", net.server(3, 1), 0);
        same("1 in its row", net.server(3, 2), 1);
        net.tick(1);
        same("1 done at 6, though no ack came", net.server(3, 1), 1);
        same("1 ack, then STORED", net.way(0, 1), 2);
        same("1 and STORED", net.way(1, 1), 4);
    }

    private static void leaseOfFetchReplaces() {
        IronbridgeCache net = netOf(0);
        net.setTerm(60, 5);
        readAll(net, 3);
        same("1 until 61", net.lease(3, 0), 61);
        net.cut(0, true);
        net.cut(0, false);
        net.setTerm(1, 5);
        net.read(0, 3);
        net.tick(1);
        same("1 in the place of the longer one", net.lease(3, 0), 4);
        net.tick(1);
        same("1 so it is over", net.lease(3, 0), -1);
        same("2 at the client, too", net.has(0, 3, 3), -1);
    }

    private static void leaseOfStoreReplaces() {
        IronbridgeCache net = netOf(0);
        net.setTerm(60, 20);
        readAll(net, 3);
        net.write(0, 3, 5);
        net.setTerm(2, 20);
        net.flush(0);
        net.tick(1);
        same("1 in the place of the longer one, by STORE", net.lease(3, 0), 5);
        same("2 not before it is told", net.has(0, 3, 3), 61);
        net.tick(1);
        same("2 in the place of the one it had", net.has(0, 3, 3), 5);
    }

    // ---- 1 the server: requests

    /** Client 1 is cut, its lease of file 0 until 21; the store of client 0 waits for that. */
    private static IronbridgeCache waitingNet() {
        IronbridgeCache net = new IronbridgeCache();
        net.addClient(1, 0);
        net.addClient(1, 0);
        net.setTerm(20, 20);
        readAll(net, 0);
        net.addClient(1, 0);
        net.cut(1, true);
        net.write(0, 0, 9);
        net.flush(0);
        net.tick(1);
        return net;
    }

    private static void notLookedAtAsOthersComeBehind() {
        IronbridgeCache net = waitingNet();
        net.tick(17);
        net.read(2, 0);
        net.read(2, 5);
        net.tick(1);
        same("1 clock 21", net.clock(), 21);
        int[][] due = {{2, 3, 5}, {0, 4, 0}, {2, 3, 0}};
        for (int place = 0; place < 3; place++) {
            for (int what = 0; what < 3; what++) {
                same("1 sent " + place + " " + what, net.way(place, what), due[place][what]);
            }
        }
    }

    private static void calledOnceThoughLost() {
        IronbridgeCache net = waitingNet();
        same("1 called", net.way(0, 1), 6);
        net.tick(1);
        same("1 lost", net.told(1, 5), 1);
        net.cut(1, false);
        same("1 not called again", net.tick(16), 0);
        same("1 it waits at 20", net.server(0, 2), 1);
        net.tick(1);
        same("1 done at 21", net.server(0, 1), 1);
        same("1 no call came", net.told(1, 4), 0);
    }

    private static void callsByNumbers() {
        IronbridgeCache net = netOf(0, 0, 0, 0);
        net.setTerm(5, 20);
        net.read(1, 0);
        net.tick(4);
        net.setTerm(20, 20);
        net.read(3, 0);
        net.read(2, 0);
        net.read(0, 0);
        net.tick(2);
        net.write(3, 0, 1);
        net.flush(3);
        same("1 two calls: not to itself, nor where it is over", net.tick(1), 2);
        same("1 call", net.way(0, 1), 6);
        same("1 the lower number first", net.way(0, 0), 0);
        same("1 then the higher one", net.way(1, 0), 2);
    }

    private static void ownLeaseIsNotWaitedFor() {
        IronbridgeCache net = netOf(0, 0);
        net.setTerm(60, 20);
        net.read(0, 0);
        net.tick(2);
        net.write(0, 0, 1);
        net.flush(0);
        net.tick(1);
        same("1 done at once, though its own lease lasts", net.server(0, 1), 1);
        same("1 nobody is called", net.onTheWay(), 1);
    }

    /** The ACK of a CALL from before comes behind a FETCH of the same CLIENT. */
    private static void lateAckTakesTheNewLease() {
        IronbridgeCache net = new IronbridgeCache();
        net.addClient(1, 0);
        net.addClient(4, 0);
        net.setTerm(10, 20);
        net.read(1, 0);
        net.tick(8);
        net.read(0, 0);
        net.tick(2);
        net.write(0, 0, 1);
        net.flush(0);
        net.tick(1);
        same("1 call comes at 15", net.way(0, 3), 15);
        net.tick(3);
        same("1 its lease is over at 14: done", net.server(0, 1), 1);
        same("1 miss", net.read(1, 0), -1);
        net.tick(1);
        same("2 called, it went", net.has(1, 0, 0), -1);
        net.tick(3);
        same("1 it has a lease by FETCH", net.lease(0, 1), 28);
        net.tick(1);
        same("1 ack takes it away", net.lease(0, 1), -1);
    }

    private static void baseJustTheVersion() {
        IronbridgeCache net = netOf(0);
        readAll(net, 0);
        for (int version = 1; version <= 3; version++) {
            net.write(0, 0, version);
            net.flush(0);
            net.tick(2);
            same("1 the version is 1 more", net.server(0, 1), version);
            same("2 the client's, too", net.has(0, 0, 1), version);
        }
        net.write(0, 0, 50);
        net.flush(0);
        net.cut(0, true);
        net.cut(0, false);
        net.tick(1);
        same("1 BASE is not the version of before", net.server(0, 1), 4);
        same("1 so it is CLASH", net.way(1, 1), 5);
        net.tick(1);
        same("2 in conflict", net.told(0, 3), 1);
    }

    /** Client 1 is cut; client 0 sends its store of file 0 again and again, and a fetch of it between. */
    private static IronbridgeCache rowNet(int stores) {
        IronbridgeCache net = netOf(1, 0, 0);
        readAll(net, 0);
        net.cut(1, true);
        net.cut(2, true);
        net.cut(2, false);
        net.write(0, 0, 9);
        net.flush(0);
        net.read(2, 0);
        for (int i = 1; i < stores; i++) {
            net.cut(0, true);
            net.cut(0, false);
        }
        net.tick(1);
        return net;
    }

    private static void rowOfMany() {
        IronbridgeCache net = rowNet(60);
        same("1 a row of 61", net.server(0, 2), 61);
        same("1 first a store", net.request(0, 0, 1), 1);
        same("1 then the fetch", net.request(0, 1, 1), 0);
        same("1 of client 2", net.request(0, 1, 0), 2);
        for (int place = 2; place < 61; place++) {
            same("1 then stores " + place, net.request(0, place, 1), 1);
            same("1 with their content " + place, net.request(0, place, 2), 9);
        }
        failsIndex("1 no more", net, () -> net.request(0, 61, 0));
        net.tick(17);
        same("1 they wait", net.server(0, 2), 61);
        net.tick(1);
        same("1 clock 21: two are done, then client 2 is called", net.server(0, 2), 59);
        same("1 STORED, GIVE and CALL", net.onTheWay(), 3);
        same("1 the call is the last", net.way(2, 1), 6);
        net.tick(2);
        same("1 all are done by its ack", net.server(0, 2), 0);
        same("1 each is answered", net.onTheWay(), 59);
        same("1 by CLASH", net.way(58, 1), 5);
        net.tick(1);
        same("2 each is a conflict", net.told(0, 3), 59);
        same("2 and each is sent again", net.onTheWay(), 59);
    }

    private static void rowOfManyAhead() {
        IronbridgeCache net = rowNet(60);
        same("25 conflicts of all", net.conflictsIn(0, 21), 59);
        same("25 none before the ack", net.conflictsIn(0, 20), 0);
        same("25 it was 61 long, and still is", net.server(0, 2), 61);
        same("24 content", net.contentIn(0, 18), 9);
        same("24 content before", net.contentIn(0, 17), 0);
    }

    private static void rowsOfEachFile() {
        IronbridgeCache net = netOf(0, 0);
        net.setRoom(6);
        readAll(net, 0, 11, 5);
        net.cut(1, true);
        for (int file : new int[] {11, 5, 0}) {
            net.write(0, file, 1);
        }
        net.flush(0);
        net.tick(1);
        for (int file = 0; file < 12; file++) {
            same("1 a row of file " + file, net.server(file, 2), file == 0 || file == 5 || file == 11 ? 1 : 0);
        }
    }

    private static void manyOnTheWay() {
        IronbridgeCache net = new IronbridgeCache();
        for (int client = 0; client < 4; client++) {
            net.addClient(8, 0);
        }
        for (int turn = 0; turn < 5; turn++) {
            for (int client = 0; client < 4; client++) {
                net.cut(client, true);
                net.cut(client, false);
                for (int file = 0; file < 12; file++) {
                    net.read(client, file);
                }
            }
        }
        same("1 240 on their way", net.onTheWay(), 240);
        same("1 the last one's client", net.way(239, 0), 3);
        same("1 the last one's file", net.way(239, 2), 11);
        same("1 one in the midst", net.way(12 * 4 * 2 + 12 + 7, 2), 7);
        same("1 and its client", net.way(12 * 4 * 2 + 12 + 7, 0), 1);
        failsIndex("1 no more", net, () -> net.way(240, 0));
        same("23 calm as all came and went", net.calmIn(16), 16);
        same("9 each is answered", net.tick(8), 240);
        same("9 and then there is nothing", net.tick(8), 0);
    }

    // ---- 2 clients: what is on its way, and lost

    private static void sentOrderAtOneClock() {
        IronbridgeCache net = new IronbridgeCache();
        net.addClient(1, 0);
        net.addClient(8, 0);
        net.addClient(4, 0);
        net.read(1, 5);
        net.tick(4);
        net.read(2, 6);
        net.tick(3);
        net.read(0, 7);
        int[] clients = {1, 2, 0};
        for (int place = 0; place < 3; place++) {
            same("2 all come at 8", net.way(place, 3), 8);
            same("2 by when they were sent", net.way(place, 0), clients[place]);
        }
    }

    private static void lostFetchAndGive() {
        IronbridgeCache net = netOf(0);
        net.read(0, 0);
        net.cut(0, true);
        net.tick(1);
        same("2 FETCH is lost", net.told(0, 5), 1);
        same("2 the server gave nothing", net.server(0, 3), 0);
        net.cut(0, false);
        net.read(0, 0);
        net.tick(1);
        net.cut(0, true);
        net.tick(1);
        same("2 GIVE is lost", net.told(0, 5), 2);
        same("2 so it has nothing", net.told(0, 0), 0);
        same("2 the server's lease stands", net.server(0, 3), 1);
    }

    private static void lostStoreAndStored() {
        IronbridgeCache net = netOf(0);
        readAll(net, 0);
        net.write(0, 0, 4);
        net.flush(0);
        net.cut(0, true);
        net.tick(1);
        same("2 STORE is lost", net.told(0, 5), 1);
        same("2 nothing is stored", net.server(0, 1), 0);
        same("2 nor waits", net.server(0, 2), 0);
        same("2 mended, it is sent again", net.cut(0, false), 1);
        net.tick(1);
        net.cut(0, true);
        net.tick(1);
        same("2 STORED is lost", net.told(0, 5), 2);
        same("2 it was stored", net.server(0, 1), 1);
        same("2 dirty still", net.has(0, 0, 2), 1);
        same("2 with the version of before", net.has(0, 0, 1), 0);
        same("2 mended, it is sent again", net.cut(0, false), 1);
        net.tick(2);
        same("2 which is a conflict with itself", net.told(0, 3), 1);
    }

    private static void lostCallAndAck() {
        IronbridgeCache net = netOf(0, 0);
        readAll(net, 0);
        net.write(0, 0, 4);
        net.flush(0);
        net.tick(2);
        same("2 CALL came", net.told(1, 4), 1);
        same("2 ack is on its way", net.way(0, 1), 2);
        net.cut(1, true);
        net.tick(1);
        same("2 ACK is lost", net.told(1, 5), 1);
        same("2 so its lease stands", net.lease(0, 1), 21);
        same("1 and the store waits", net.server(0, 1), 0);
        net.tick(16);
        same("1 at 21 it is over", net.server(0, 1), 1);
        lostCall();
    }

    private static void lostCall() {
        IronbridgeCache net = waitingNet();
        net.tick(1);
        same("2 CALL is lost", net.told(1, 5), 1);
        same("2 it did not come", net.told(1, 4), 0);
        same("2 no ack is sent", net.onTheWay(), 0);
        same("2 it has it still", net.has(1, 0, 0), 0);
    }

    private static void lostClash() {
        IronbridgeCache net = clashSent(2);
        net.cut(1, true);
        net.tick(1);
        same("2 CLASH is lost", net.told(1, 5), 1);
        same("2 no conflict", net.told(1, 3), 0);
        same("2 its content stays", net.has(1, 0, 0), 7);
        same("2 and dirty", net.has(1, 0, 2), 1);
        failsIndex("2 nothing aside", net, () -> net.aside(1, 0, true));
    }

    /** Client 0 has stored 5, and CLASH is on its way to client 1 (of some HABIT), which wrote 7. */
    private static IronbridgeCache clashSent(int habit) {
        IronbridgeCache net = netOf(0, habit);
        readAll(net, 0);
        net.write(0, 0, 5);
        net.write(1, 0, 7);
        net.flush(0);
        net.flush(1);
        net.tick(5);
        same("2 clash is on its way", net.way(0, 1), 5);
        return net;
    }

    private static void cutAndMendedBetween() {
        IronbridgeCache net = new IronbridgeCache();
        net.addClient(2, 0);
        net.read(0, 0);
        net.cut(0, true);
        net.cut(0, false);
        net.tick(1);
        net.cut(0, true);
        net.cut(0, false);
        net.tick(1);
        same("2 mended as it was sent and as it comes: not lost", net.told(0, 5), 0);
        same("2 it came", net.lease(0, 0), 22);
        net.tick(1);
        net.cut(0, true);
        net.tick(1);
        same("2 cut as it comes: lost", net.told(0, 5), 1);
    }

    /** CALL is sent to a client that is cut, which is mended before that comes; the other way round, too. */
    private static void cutAtItsClock() {
        IronbridgeCache net = waitingNet();
        net.cut(1, false);
        net.tick(1);
        same("2 sent while cut: lost, though mended", net.told(1, 5), 1);
        same("2 on its own line alone", net.told(0, 5), 0);
        IronbridgeCache sooner = netOf(0, 0);
        readAll(sooner, 0);
        sooner.cut(1, true);
        sooner.write(0, 0, 9);
        sooner.flush(0);
        sooner.cut(1, false);
        sooner.tick(2);
        same("2 mended as it is sent: it comes", sooner.told(1, 4), 1);
        same("2 nothing is lost", sooner.told(1, 5), 0);
    }

    // ---- 2 clients: room

    private static void roomIsNotForWhatItHas() {
        IronbridgeCache net = netOf(0);
        net.setRoom(6);
        net.setTerm(3, 5);
        readAll(net, 0, 1, 2, 3, 4, 5);
        net.tick(2);
        net.setRoom(2);
        net.read(0, 3);
        net.tick(2);
        same("2 given what it has: nothing goes", net.told(0, 0), 6);
        same("2 it is used", net.used(0, 0), 3);
        same("2 the others as before", net.used(0, 1), 5);
        same("2 the oldest, too", net.used(0, 5), 0);
        same("2 it has a lease", net.has(0, 3, 4), 1);
    }

    private static void roomForSeveral() {
        IronbridgeCache net = netOf(0);
        net.setRoom(6);
        net.setTerm(60, 20);
        readAll(net, 0, 1, 2, 3, 4, 5);
        net.read(0, 0);
        net.write(0, 1, 1);
        net.setRoom(3);
        readAll(net, 6);
        same("2 just as many go as must", net.told(0, 0), 3);
        same("2 what came", net.used(0, 0), 6);
        same("2 the dirty one stays", net.used(0, 1), 1);
        same("2 and what was used last", net.used(0, 2), 0);
        for (int file = 2; file <= 5; file++) {
            same("2 it went " + file, net.has(0, file, 0), -1);
            same("2 without a version " + file, net.has(0, file, 1), -1);
            same("2 without a lease " + file, net.has(0, file, 3), -1);
            same("2 without trust " + file, net.has(0, file, 4), 0);
        }
    }

    private static void roomForNone() {
        IronbridgeCache net = netOf(0);
        net.setTerm(60, 20);
        readAll(net, 0, 1, 2);
        net.write(0, 0, 1);
        net.write(0, 2, 1);
        net.setRoom(2);
        readAll(net, 11);
        same("2 it does not come", net.has(0, 11, 0), -1);
        same("2 it is not used", net.used(0, 0), 2);
        same("2 the clean one stays away", net.has(0, 1, 0), -1);
        same("2 the dirty ones stay", net.told(0, 0), 2);
        same("2 it does not ask any more", net.has(0, 11, 5), 0);
        same("2 so it asks again", net.read(0, 11), -1);
        same("2 by a fetch", net.onTheWay(), 1);
        net.tick(2);
        same("2 and again it does not come", net.has(0, 11, 0), -1);
        net.setRoom(3);
        readAll(net, 11);
        same("2 it comes as there is room", net.has(0, 11, 0), 0);
    }

    // ---- 2 clients: what comes

    /** It asks for a file that STORED gives a lease of: so it can be written before GIVE comes. */
    private static void givenToDirty() {
        IronbridgeCache net = new IronbridgeCache();
        net.addClient(2, 1);
        net.setTerm(20, 20);
        net.read(0, 0);
        net.tick(4);
        net.write(0, 0, 3);
        net.setTerm(2, 20);
        net.flush(0);
        net.cut(0, true);
        net.cut(0, false);
        net.tick(4);
        net.setTerm(20, 20);
        net.read(0, 1);
        net.tick(1);
        same("2 clock 9: sent again, but not trusted", net.read(0, 0), -1);
        same("2 asks and sends", net.has(0, 0, 5), 3);
        net.tick(3);
        same("2 clock 12: stored, and asks still", net.has(0, 0, 5), 1);
        same("2 by a lease of that it is written", net.write(0, 0, 8), true);
        net.read(0, 1);
        net.tick(1);
        same("2 given: it asks no more", net.has(0, 0, 5), 0);
        same("2 content stays", net.has(0, 0, 0), 8);
        same("2 dirty stays", net.has(0, 0, 2), 1);
        same("2 the lease is that of STORED", net.has(0, 0, 3), 30);
        same("2 the server knows that of FETCH", net.lease(0, 0), 31);
        same("2 it is not used by that", net.used(0, 0), 1);
    }

    private static void asksOnce() {
        IronbridgeCache net = new IronbridgeCache();
        net.addClient(2, 0);
        net.read(0, 0);
        net.read(0, 0);
        net.write(0, 0, 1);
        same("3 one fetch", net.onTheWay(), 1);
        same("3 three misses", net.told(0, 2), 3);
        net.tick(2);
        net.read(0, 0);
        same("3 it asks till something comes of it", net.onTheWay(), 1);
        net.tick(2);
        same("3 given, it asks no more", net.has(0, 0, 5), 0);
    }

    /** A second store of the same BASE is in conflict, as the file has gone for what else was given. */
    private static IronbridgeCache goesBeforeClash(int habit) {
        IronbridgeCache net = netOf(habit);
        net.setRoom(2);
        readAll(net, 1);
        net.write(0, 1, 3);
        net.flush(0);
        net.tick(1);
        net.read(0, 4);
        net.read(0, 5);
        net.cut(0, true);
        net.cut(0, false);
        return net;
    }

    private static void wentWhileSent() {
        for (int habit = 0; habit <= 2; habit++) {
            IronbridgeCache net = goesBeforeClash(habit);
            same("2 sends it", net.has(0, 1, 5), 2);
            net.tick(2);
            same("2 it went", net.has(0, 1, 0), -1);
            same("2 no version", net.has(0, 1, 1), -1);
            same("2 not dirty", net.has(0, 1, 2), 0);
            same("2 no lease", net.has(0, 1, 3), -1);
            same("2 no trust", net.has(0, 1, 4), 0);
            same("2 sends it no more", net.has(0, 1, 5), 0);
            same("2 a conflict is noted", net.told(0, 3), 1);
            same("2 nothing is sent", net.onTheWay(), 0);
            same("2 nothing comes", net.told(0, 0), 2);
            failsIndex("2 nothing is kept aside", net, () -> net.aside(0, 0, true));
        }
    }

    /** OURS is sent again by a first CLASH; then the file goes, and a second CLASH comes. */
    private static void wentWhileSentAgain() {
        IronbridgeCache net = netOf(1);
        net.setRoom(2);
        readAll(net, 1);
        net.write(0, 1, 3);
        net.flush(0);
        net.cut(0, true);
        net.cut(0, false);
        net.read(0, 4);
        net.read(0, 5);
        net.cut(0, true);
        net.cut(0, false);
        net.tick(2);
        same("2 it went", net.has(0, 1, 0), -1);
        same("2 two conflicts", net.told(0, 3), 2);
        same("2 sent again by the first alone", net.onTheWay(), 1);
        same("2 by the second it sends it no more", net.has(0, 1, 5), 0);
        net.tick(2);
        same("2 STORED changes nothing of it", net.has(0, 1, 0), -1);
        same("2 though it was stored", net.server(1, 1), 2);
    }

    private static void cleanClash() {
        int[][] due = {{3, 1, 0, -1, 0, 0}, {3, 1, 0, 23, 1, 2}, {3, 1, 0, -1, 0, 0}};
        for (int habit = 0; habit <= 2; habit++) {
            IronbridgeCache net = netOf(habit);
            readAll(net, 1);
            net.write(0, 1, 3);
            net.flush(0);
            net.cut(0, true);
            net.cut(0, false);
            net.tick(2);
            for (int what = 0; what <= 5; what++) {
                same("2 clean, habit " + habit + " " + what, net.has(0, 1, what), due[habit][what]);
            }
            same("2 clean: a conflict", net.told(0, 3), 1);
            same("2 clean: only OURS sends", net.onTheWay(), habit == 1 ? 1 : 0);
            if (habit == 2) {
                same("2 clean: aside, too", net.aside(0, 0, true), 3);
                same("2 clean: its file", net.aside(0, 0, false), 1);
            } else {
                failsIndex("2 clean: nothing aside", net, () -> net.aside(0, 0, true));
            }
        }
    }

    // ---- 3 dirty, LAG, lines cut and mended

    /** Dirty since 2, written again at 4; stored, and dirty again since a later clock. */
    private static void dirtySince() {
        IronbridgeCache net = netOf(0);
        readAll(net, 0, 1);
        net.write(0, 0, 1);
        net.tick(2);
        net.write(0, 0, 2);
        same("3 clock 6: not yet", net.tick(2), 0);
        same("3 clock 7: LAG ticks since the first time", net.tick(1), 1);
        net.tick(1);
        net.write(0, 1, 5);
        net.tick(1);
        same("3 clock 9: stored, clean", net.has(0, 0, 2), 0);
        net.write(0, 0, 3);
        net.cut(0, true);
        same("3 both are dirty", net.cut(0, false), 2);
        same("3 the one that is so since 8 first", net.way(0, 2), 1);
        same("3 the one that is so anew since 9 then", net.way(1, 2), 0);
        dirtySinceThoughStored();
    }

    private static void dirtySinceThoughStored() {
        IronbridgeCache net = netOf(0);
        readAll(net, 0);
        net.write(0, 0, 1);
        net.flush(0);
        net.tick(1);
        net.write(0, 0, 2);
        same("3 clock 6: not yet", net.tick(3), 0);
        same("3 not stored with its content, it stays dirty", net.has(0, 0, 2), 1);
        same("3 clock 7: sent again", net.tick(1), 1);
        same("3 with what was written then", net.tick(1), 1);
        same("3 stored", net.server(0, 0), 2);
    }

    private static void dirtyLongerThanLag() {
        IronbridgeCache net = netOf(0);
        net.setTerm(60, 20);
        readAll(net, 0);
        net.write(0, 0, 1);
        same("3 clock 21: 19 ticks", net.tick(19), 0);
        net.setTerm(60, 3);
        same("3 nothing is sent by setting", net.onTheWay(), 0);
        same("3 dirty for more than LAG", net.tick(1), 1);
    }

    private static void notSentTwiceByLag() {
        IronbridgeCache net = new IronbridgeCache();
        net.addClient(8, 0);
        net.setTerm(60, 0);
        net.read(0, 0);
        net.tick(16);
        net.write(0, 0, 1);
        for (int clock = 17; clock <= 32; clock++) {
            same("3 it sends it already, clock " + clock, net.tick(1), 1);
            net.write(0, 0, clock);
        }
        same("3 clock 33: stored with other content, and sent at once", net.tick(1), 1);
        same("3 a store", net.way(0, 1), 1);
        same("3 of this clock", net.way(0, 3), 41);
    }

    private static void lagWhileCut() {
        IronbridgeCache net = netOf(0, 0);
        readAll(net, 0);
        net.cut(0, true);
        net.write(0, 0, 1);
        for (int i = 0; i < 30; i++) {
            same("3 nothing is sent while cut", net.tick(1), 0);
        }
        same("3 mended: sent", net.cut(0, false), 1);
        same("3 and not once more by LAG", net.tick(1), 1);
        same("3 STORED", net.way(0, 1), 4);
    }

    private static void cutTwice() {
        IronbridgeCache net = netOf(0);
        readAll(net, 0);
        net.write(0, 0, 1);
        net.read(0, 1);
        same("3 cut", net.cut(0, true), 0);
        same("3 asks nothing", net.has(0, 1, 5), 0);
        long before = net.digest();
        same("3 cut twice", net.cut(0, true), 0);
        same("3 nothing is another thing by that", net.digest(), before);
        same("3 it has it", net.read(0, 0), 1);
        same("3 one mending is enough", net.cut(0, false), 1);
        same("3 mended", net.told(0, 6), 0);
    }

    private static void mendedTwice() {
        IronbridgeCache net = netOf(0);
        readAll(net, 0, 1);
        net.write(0, 0, 1);
        long before = net.digest();
        same("3 mended at first", net.cut(0, false), 0);
        same("3 nothing is another thing by that", net.digest(), before);
        same("3 its leases are not over", net.has(0, 1, 3), 21);
        net.cut(0, true);
        same("3 mended", net.cut(0, false), 1);
        same("3 its leases are over", net.has(0, 1, 3), -1);
        same("3 that of the dirty one, too", net.has(0, 0, 3), -1);
        net.tick(2);
        same("3 a lease of STORED", net.has(0, 0, 3), 23);
        net.write(0, 0, 2);
        same("3 mended twice", net.cut(0, false), 0);
        same("3 nothing is sent", net.onTheWay(), 0);
        same("3 the lease is not over", net.has(0, 0, 3), 23);
    }

    private static void missIsNoUse() {
        IronbridgeCache net = netOf(0);
        net.setTerm(2, 5);
        readAll(net, 0, 1);
        same("2 given last", net.used(0, 0), 1);
        same("2 a hit", net.read(0, 0), 0);
        same("2 used by reading", net.used(0, 0), 0);
        same("2 written", net.write(0, 1, 1), true);
        same("2 used by writing", net.used(0, 0), 1);
        net.tick(1);
        same("2 its lease is over", net.read(0, 0), -1);
        same("2 a miss is no use", net.used(0, 0), 1);
        same("2 nor one of writing", net.write(0, 0, 1), false);
        same("2 so it is the older one", net.used(0, 1), 0);
    }

    // ---- 4 a tick

    /** At 21 the stores of files 9 and 2 wait no more, and what was written at 16 is dirty for LAG ticks. */
    private static void filesThenClients() {
        IronbridgeCache net = netOf(0, 0, 0);
        readAll(net, 9, 2, 4, 0);
        net.cut(1, true);
        net.write(0, 9, 1);
        net.flush(0);
        net.write(0, 2, 1);
        net.flush(0);
        net.tick(14);
        net.write(2, 4, 1);
        net.write(0, 4, 1);
        net.write(0, 0, 1);
        same("4 nothing before 21", net.tick(4), 0);
        same("4 five things at 21", net.tick(1), 5);
        int[][] due = {{0, 4, 2, 22}, {0, 4, 9, 22}, {0, 1, 0, 22}, {0, 1, 4, 22}, {2, 1, 4, 22}};
        for (int place = 0; place < 5; place++) {
            for (int what = 0; what <= 3; what++) {
                same("4 sent " + place + " " + what, net.way(place, what), due[place][what]);
            }
        }
    }

    // ---- what would be, from what is

    private static void aheadOfARow() {
        IronbridgeCache called = waitingNet();
        called.tick(1);
        called.cut(1, false);
        same("24 it was called already: not again", called.contentIn(0, 16), 0);
        same("24 stored as the lease is over", called.contentIn(0, 17), 9);
        for (int file : new int[] {0, 11}) {
            IronbridgeCache net = netOf(0, 0);
            readAll(net, file);
            net.cut(1, true);
            net.write(0, file, 9);
            net.flush(0);
            net.tick(2);
            net.cut(0, true);
            same("23 nothing is on its way", net.onTheWay(), 0);
            same("23 but a request is in a row: stored at 21, lost at 22", net.calmIn(100), 18);
            same("23 not within 17", net.calmIn(17), -1);
        }
    }

    private static void aheadAsFilesGo() {
        IronbridgeCache net = goesBeforeClash(1);
        same("23 what went is not sent again", net.calmIn(100), 2);
        net.setRoom(3);
        same("23 with more room it stays, and is", net.calmIn(100), 4);
    }
}
