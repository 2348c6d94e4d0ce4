/** What would be, asked of nets in which it hangs on a single thing: promises 23 to 25. */
final class AheadTest extends Check {
    public static void main(String[] args) {
        aheadAsItIsSet();
        aheadOfCleanFile();
        eachFileDirty();
        eachClientDirty();
        eachFileWaits();
        usedLongestAgo();
        conflictsOfEach();
        close("AheadTest");
    }

    /** The lease that client 0 is given by its store lasts TERM: so long client 1 waits for CLASH. */
    private static void aheadAsItIsSet() {
        IronbridgeCache net = new IronbridgeCache();
        net.addClient(8, 0);
        net.addClient(1, 0);
        net.setTerm(60, 20);
        net.read(0, 0);
        net.tick(14);
        net.read(1, 0);
        net.tick(2);
        net.write(0, 0, 1);
        net.write(1, 0, 2);
        net.flush(0);
        net.tick(7);
        net.flush(1);
        net.setTerm(3, 20);
        same("25 with the TERM that is set: 30", net.conflictsIn(1, 7), 1);
        same("25 not at 29", net.conflictsIn(1, 6), 0);
        net.setTerm(15, 20);
        same("25 with a longer one: 42", net.conflictsIn(1, 19), 1);
        same("25 not at 41", net.conflictsIn(1, 18), 0);
    }

    /** STORED came, CLASH of the second store with the same BASE is on its way: the file is clean. */
    private static void aheadOfCleanFile() {
        int[] calm = {1, 3, 1};
        for (int habit = 0; habit <= 2; habit++) {
            IronbridgeCache net = netOf(habit);
            readAll(net, 0);
            net.write(0, 0, 3);
            net.flush(0);
            net.tick(1);
            net.cut(0, true);
            net.cut(0, false);
            net.tick(1);
            same("2 clean, habit " + habit, net.has(0, 0, 2), 0);
            same("2 CLASH is on its way", net.way(0, 1), 5);
            same("25 a conflict", net.conflictsIn(0, 1), 1);
            same("25 and no more", net.conflictsIn(0, 100), 1);
            same("23 only OURS is sent again", net.calmIn(100), calm[habit]);
            net.tick(1);
            same("2 as it was said", net.onTheWay(), habit == 1 ? 1 : 0);
        }
    }

    /** Nothing is on its way, no row has a request: it hangs on the one file alone. */
    private static void eachFileDirty() {
        for (int file = 0; file < 12; file++) {
            IronbridgeCache net = netOf(0, 0);
            net.read(1, file);
            net.tick(2);
            net.write(1, file, 7);
            same("23 file " + file + " is dirty: sent at 7, stored at 9", net.calmIn(100), 7);
            same("24 file " + file + " is stored", net.contentIn(file, 6), 7);
            net.cut(1, true);
            same("23 file " + file + " is dirty behind a cut line", net.calmIn(100), 0);
        }
    }

    private static void eachClientDirty() {
        for (int client = 0; client < 4; client++) {
            IronbridgeCache net = netOf(0, 0, 0, 0);
            net.read(client, 3);
            net.tick(2);
            net.write(client, 3, 7);
            same("23 client " + client + " has something dirty", net.calmIn(100), 7);
            net.cut(client, true);
            same("23 client " + client + " has it behind a cut line", net.calmIn(100), 0);
        }
    }

    /** Both lines are cut: it hangs on the row of the file alone, till the lease is over at 21. */
    private static void eachFileWaits() {
        for (int file = 0; file < 12; file++) {
            IronbridgeCache net = netOf(0, 0);
            readAll(net, file);
            net.cut(1, true);
            net.write(0, file, 7);
            net.flush(0);
            net.tick(2);
            net.cut(0, true);
            same("23 nothing is on its way", net.onTheWay(), 0);
            same("23 file " + file + ": done at 21, and STORED is lost at 22", net.calmIn(100), 18);
        }
    }

    /** As GIVE comes, file 1 goes or file 2, by which was used before: OURS is sent of what is had alone. */
    private static void usedLongestAgo() {
        for (int last = 1; last <= 2; last++) {
            IronbridgeCache net = netOf(1);
            net.setRoom(2);
            readAll(net, 1, 2);
            net.write(0, 1, 3);
            net.flush(0);
            for (int hit = 0; hit < 5; hit++) {
                net.read(0, last);
            }
            net.tick(1);
            net.read(0, 4);
            net.cut(0, true);
            net.cut(0, false);
            same("23 used last: file " + last, net.calmIn(100), last == 1 ? 4 : 2);
            same("25 a conflict in any case", net.conflictsIn(0, 100), 1);
            net.tick(2);
            same("2 file 1", net.has(0, 1, 0), last == 1 ? 3 : -1);
            same("2 file 2", net.has(0, 2, 0), last == 1 ? -1 : 0);
        }
    }

    /** Client k had k conflicts before; each but the first is to have one more. */
    private static void conflictsOfEach() {
        IronbridgeCache net = netOf(0, 0, 0, 0);
        net.setTerm(20, 20);
        for (int turn = 1; turn <= 3; turn++) {
            conflictsFrom(net, turn);
            net.tick(20);
        }
        for (int client = 0; client < 4; client++) {
            same("25 conflicts before of client " + client, net.told(client, 3), client);
            same("25 none to come of client " + client, net.conflictsIn(client, 100), 0);
        }
        conflictsFrom(net, 1);
        for (int client = 0; client < 4; client++) {
            same("25 one more of client " + client, net.conflictsIn(client, 100), client == 0 ? 0 : 1);
            same("25 nothing is changed", net.told(client, 3), client);
        }
    }

    /** Client 0 stores, and behind it the clients from that one on send what they wrote of the same version. */
    private static void conflictsFrom(IronbridgeCache net, int first) {
        readAll(net, 5);
        net.write(0, 5, 1);
        net.flush(0);
        for (int client = first; client < 4; client++) {
            net.write(client, 5, 2);
            net.flush(client);
        }
    }
}
