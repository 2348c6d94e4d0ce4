/** The least and the greatest of what each call takes, and what it answers without any, 1 to 26. */
final class LimitsTest extends Check {
    public static void main(String[] args) {
        newObject();
        addClient();
        addClientDelays();
        setTerm();
        setTermLag();
        setRoom();
        cutSixDirty();
        cutWithoutAny();
        readAndWriteFiles();
        writeContents();
        flush();
        tick();
        clients();
        server();
        lease();
        request();
        onTheWay();
        way();
        has();
        used();
        told();
        aside();
        luck();
        stale();
        staleOfMany();
        aheadWithoutAny();
        aheadOne();
        aheadHundred();
        digest();
        close("LimitsTest");
    }

    // ---- what is set

    private static void newObject() {
        IronbridgeCache net = new IronbridgeCache();
        same("1 clock", net.clock(), 0);
        same("1 no clients", net.clients(), 0);
        same("1 nothing on the way", net.onTheWay(), 0);
        same("1 nothing stale", net.stale(), 0);
        same("1 ROOM is 4", net.setRoom(4), 4);
        same("1 TERM is 20", net.setTerm(20, 5), 20);
        same("1 first number", net.addClient(1, 0), 0);
        same("1 two objects are two", new IronbridgeCache().clients(), 0);
    }

    private static void addClient() {
        IronbridgeCache net = new IronbridgeCache();
        same("2 least delay, least habit", net.addClient(1, 0), 0);
        same("2 greatest delay, greatest habit", net.addClient(8, 2), 1);
        same("2 habit 1", net.addClient(8, 1), 2);
        same("2 the fourth", net.addClient(1, 2), 3);
        failsState("2 no fifth", net, () -> net.addClient(1, 2));
        failsIndex("2 so there is no client 4", net, () -> net.told(4, 0));
        same("2 four", net.clients(), 4);
        for (int client = 0; client < 4; client++) {
            same("2 has nothing", net.told(client, 0), 0);
            same("2 its line is mended at first", net.told(client, 6), 0);
            same("2 mending it sends nothing", net.cut(client, false), 0);
        }
    }

    private static void addClientDelays() {
        for (int delay = 1; delay <= 8; delay++) {
            IronbridgeCache net = new IronbridgeCache();
            net.addClient(delay, 0);
            net.read(0, 0);
            same("2 fetch comes DELAY later", net.way(0, 3), delay);
            if (delay > 1) {
                same("2 not sooner", net.tick(delay - 1), 1);
                same("2 the server knows nothing yet", net.server(0, 3), 0);
            }
            net.tick(1);
            same("2 the server gave a lease", net.server(0, 3), 1);
            same("2 give comes DELAY later", net.way(0, 3), 2 * delay);
            net.tick(delay);
            same("2 it came", net.has(0, 0, 0), 0);
        }
    }

    private static void setTerm() {
        for (int term : new int[] {1, 2, 59, 60}) {
            IronbridgeCache net = netOf(0);
            same("3 TERM before", net.setTerm(term, 5), 20);
            same("3 TERM now", net.setTerm(term, 5), term);
            net.read(0, 0);
            net.tick(1);
            same("3 lease of TERM " + term, net.lease(0, 0), 1 + term);
            if (term > 1) {
                net.tick(term - 1);
                same("3 not over one tick before", net.server(0, 3), 1);
            }
            net.tick(1);
            same("3 over", net.server(0, 3), 0);
        }
    }

    private static void setTermLag() {
        for (int lag : new int[] {0, 1, 5, 19, 20}) {
            IronbridgeCache net = netOf(0);
            net.setTerm(60, lag);
            readAll(net, 0);
            net.write(0, 0, 1);
            if (lag > 1) {
                same("3 LAG " + lag + ": not before", net.tick(lag - 1), 0);
            }
            // With a LAG of 0 it is sent in the next tick as well: only ticks send by LAG.
            same("3 LAG " + lag + ": nothing without a tick", net.onTheWay(), 0);
            same("3 LAG " + lag + ": then", net.tick(1), 1);
            same("3 LAG " + lag + ": a store", net.way(0, 1), 1);
        }
    }

    private static void setRoom() {
        for (int room = 2; room <= 6; room++) {
            IronbridgeCache net = netOf(0);
            same("4 ROOM before", net.setRoom(room), 4);
            same("4 ROOM now", net.setRoom(room), room);
            for (int file = 0; file < room; file++) {
                readAll(net, file);
            }
            same("4 ROOM " + room + " is full", net.told(0, 0), room);
            same("4 nothing went yet", net.has(0, 0, 0), 0);
            readAll(net, 11);
            same("4 not more than ROOM " + room, net.told(0, 0), room);
            same("4 the first one went", net.has(0, 0, 0), -1);
            same("4 only the first one", net.has(0, 1, 0), 0);
            same("4 the new one is there", net.has(0, 11, 0), 0);
        }
    }

    private static void cutSixDirty() {
        IronbridgeCache net = netOf(0);
        net.setRoom(6);
        readAll(net, 11, 0, 3, 4, 5, 6);
        net.cut(0, true);
        for (int file : new int[] {11, 6, 5, 4, 3, 0}) {
            same("5 written while cut", net.write(0, file, 1), true);
        }
        same("5 six stores", net.cut(0, false), 6);
        int[] order = {0, 3, 4, 5, 6, 11};
        for (int place = 0; place < 6; place++) {
            same("5 dirty since the same clock: by numbers", net.way(place, 2), order[place]);
        }
    }

    private static void cutWithoutAny() {
        IronbridgeCache net = netOf(0);
        same("5 mended at first", net.cut(0, false), 0);
        same("5 cut", net.cut(0, true), 0);
        same("5 mended, nothing had", net.cut(0, false), 0);
        readAll(net, 0);
        net.cut(0, true);
        same("5 mended, nothing dirty", net.cut(0, false), 0);
        same("5 nothing is sent", net.onTheWay(), 0);
    }

    // ---- reading, writing, time

    private static void readAndWriteFiles() {
        IronbridgeCache net = netOf(0);
        for (int file : new int[] {0, 11}) {
            same("6 miss of file " + file, net.read(0, file), -1);
            same("6 fetch of file " + file, net.way(net.onTheWay() - 1, 2), file);
        }
        net.tick(2);
        for (int file : new int[] {0, 11}) {
            same("6 content 0 is a hit", net.read(0, file), 0);
            same("7 written", net.write(0, file, 9999 - file), true);
            same("6 what was written", net.read(0, file), 9999 - file);
        }
    }

    private static void writeContents() {
        IronbridgeCache net = netOf(0);
        readAll(net, 0);
        for (int content : new int[] {9999, 0, 1, 9998, 9999}) {
            same("7 content " + content, net.write(0, 0, content), true);
            same("7 it has it", net.has(0, 0, 0), content);
        }
        net.flush(0);
        net.tick(1);
        same("7 the greatest is stored", net.server(0, 0), 9999);
        net.tick(1);
        net.write(0, 0, 0);
        net.flush(0);
        net.tick(1);
        same("7 the least is stored", net.server(0, 0), 0);
        same("7 as another version", net.server(0, 1), 2);
        IronbridgeCache empty = netOf(0);
        same("7 what is not had is a miss", empty.write(0, 0, 0), false);
        same("7 and nothing is had by it", empty.has(0, 0, 0), -1);
    }

    private static void flush() {
        IronbridgeCache net = netOf(0);
        same("8 nothing had", net.flush(0), 0);
        readAll(net, 0, 11);
        same("8 nothing dirty", net.flush(0), 0);
        IronbridgeCache six = sixDirty();
        same("8 six", six.flush(0), 6);
        int[] order = {0, 3, 4, 5, 6, 11};
        for (int place = 0; place < 6; place++) {
            same("8 by numbers, not by time", six.way(place, 2), order[place]);
        }
        same("8 all are sent already", six.flush(0), 0);
        six.cut(0, true);
        same("8 cut", six.flush(0), 0);
        same("8 cut: sends none", six.has(0, 0, 5), 0);
    }

    private static IronbridgeCache sixDirty() {
        IronbridgeCache net = netOf(0);
        net.setRoom(6);
        net.setTerm(60, 20);
        readAll(net, 0, 11, 3, 4, 5, 6);
        for (int file : new int[] {11, 6, 5, 4, 3, 0}) {
            net.write(0, file, 1);
            net.tick(1);
        }
        return net;
    }

    private static void tick() {
        IronbridgeCache net = new IronbridgeCache();
        same("9 least, without clients", net.tick(1), 0);
        same("9 clock", net.clock(), 1);
        same("9 greatest", net.tick(60), 0);
        same("10 clock", net.clock(), 61);
        net.addClient(8, 0);
        net.read(0, 0);
        same("9 on its way", net.tick(7), 1);
        same("9 comes, and give is on its way", net.tick(1), 1);
        same("9 sixty", net.tick(60), 0);
        same("10 clock 129", net.clock(), 129);
    }

    // ---- the server, asked

    private static void clients() {
        IronbridgeCache net = new IronbridgeCache();
        same("11 none", net.clients(), 0);
        for (int count = 1; count <= 4; count++) {
            net.addClient(count, 0);
            same("11 so many", net.clients(), count);
        }
    }

    private static void server() {
        IronbridgeCache net = netOf(0, 0, 0, 0);
        for (int file : new int[] {0, 11}) {
            for (int what = 0; what <= 3; what++) {
                same("12 nothing yet", net.server(file, what), 0);
            }
            readAll(net, file);
            same("12 the set of all four", net.server(file, 3), 15);
        }
        net.cut(0, true);
        net.write(3, 0, 9999);
        net.flush(3);
        net.tick(1);
        same("12 a row of one", net.server(0, 2), 1);
        same("12 the set as they are called", net.server(0, 3), 15);
        net.tick(2);
        same("12 the set of those that sent no ack", net.server(0, 3), 9);
        net.tick(16);
        same("12 greatest content", net.server(0, 0), 9999);
        same("12 version", net.server(0, 1), 1);
        same("12 the set of the one that stored", net.server(0, 3), 8);
    }

    private static void lease() {
        IronbridgeCache net = netOf(0, 0, 0, 0);
        net.setTerm(60, 5);
        for (int client : new int[] {0, 3}) {
            for (int file : new int[] {0, 11}) {
                same("13 none", net.lease(file, client), -1);
                net.read(client, file);
            }
        }
        net.tick(1);
        for (int client : new int[] {0, 3}) {
            for (int file : new int[] {0, 11}) {
                same("13 until 61", net.lease(file, client), 61);
            }
            same("13 none of file 5", net.lease(5, client), -1);
            same("13 none of client 1", net.lease(11, 1), -1);
        }
        net.tick(59);
        same("13 clock 60: not over", net.lease(11, 3), 61);
        net.tick(1);
        same("13 clock 61: over", net.lease(11, 3), -1);
    }

    private static void request() {
        IronbridgeCache net = netOf(0, 0, 0, 0);
        readAll(net, 0, 11);
        net.cut(3, true);
        int[] stored = {9999, 0};
        for (int client = 0; client < 2; client++) {
            net.write(client, 11, stored[client]);
            net.flush(client);
        }
        net.cut(2, true);
        net.cut(2, false);
        net.read(2, 11);
        net.tick(1);
        int[][] due = {{0, 1, 9999, 0}, {1, 1, 0, 0}, {2, 0, 0, 0}};
        for (int place = 0; place < 3; place++) {
            for (int what = 0; what < 4; what++) {
                same("14 place " + place + " what " + what, net.request(11, place, what), due[place][what]);
            }
        }
        failsIndex("14 there is no more", net, () -> net.request(11, 3, 0));
        failsIndex("14 none of another file", net, () -> net.request(0, 0, 0));
    }

    private static void onTheWay() {
        IronbridgeCache net = new IronbridgeCache();
        same("15 none", net.onTheWay(), 0);
        net.addClient(8, 0);
        same("15 none of a client", net.onTheWay(), 0);
        for (int file = 0; file < 12; file++) {
            net.read(0, file);
            same("15 one more", net.onTheWay(), file + 1);
        }
        net.tick(7);
        same("15 all still", net.onTheWay(), 12);
        net.cut(0, true);
        net.tick(1);
        same("15 none as they are lost", net.onTheWay(), 0);
    }

    private static void way() {
        IronbridgeCache net = new IronbridgeCache();
        net.addClient(8, 0);
        net.addClient(1, 0);
        net.addClient(1, 0);
        net.addClient(8, 0);
        net.tick(1);
        net.read(3, 11);
        net.read(0, 0);
        net.read(2, 11);
        net.read(1, 0);
        int[][] due = {{2, 0, 11, 2}, {1, 0, 0, 2}, {3, 0, 11, 9}, {0, 0, 0, 9}};
        for (int place = 0; place < 4; place++) {
            for (int what = 0; what < 4; what++) {
                same("16 place " + place + " what " + what, net.way(place, what), due[place][what]);
            }
        }
        failsIndex("16 there is no more", net, () -> net.way(4, 0));
    }

    // ---- clients, asked

    private static void has() {
        IronbridgeCache net = netOf(0, 0, 0, 0);
        int[] without = {-1, -1, 0, -1, 0, 0};
        for (int client : new int[] {0, 3}) {
            for (int file : new int[] {0, 11}) {
                for (int what = 0; what <= 5; what++) {
                    same("17 without " + what, net.has(client, file, what), without[what]);
                }
            }
        }
        readAll(net, 0, 11);
        net.write(3, 11, 9999);
        int[] dirty = {9999, 0, 1, 21, 1, 0};
        int[] clean = {0, 0, 0, 21, 1, 0};
        for (int what = 0; what <= 5; what++) {
            same("17 dirty " + what, net.has(3, 11, what), dirty[what]);
            same("17 clean " + what, net.has(0, 0, what), clean[what]);
        }
        net.tick(19);
        same("17 clock 21: a dirty one is trusted", net.has(3, 11, 4), 1);
        same("17 clock 21: the lease is over", net.has(0, 0, 3), -1);
        same("17 clock 21: a clean one is not trusted", net.has(0, 0, 4), 0);
        same("17 the content stays", net.has(0, 0, 0), 0);
        hasAsksAndSends();
    }

    /** A clean file is sent by OURS, and asked for as its lease is over: both at once. */
    private static void hasAsksAndSends() {
        IronbridgeCache net = netOf(1);
        net.setTerm(1, 20);
        readAll(net, 0);
        net.cut(0, true);
        net.write(0, 0, 3);
        net.cut(0, false);
        net.cut(0, true);
        net.cut(0, false);
        net.tick(2);
        same("17 sent again, clean", net.has(0, 0, 2), 0);
        same("17 sends", net.has(0, 0, 5), 2);
        same("17 its lease is over", net.read(0, 0), -1);
        same("17 asks and sends", net.has(0, 0, 5), 3);
    }

    private static void used() {
        IronbridgeCache net = netOf(0, 0, 0, 0);
        failsIndex("18 nothing had", net, () -> net.used(3, 0));
        net.setRoom(6);
        for (int file : new int[] {11, 0, 5, 4, 3, 2}) {
            net.read(3, file);
        }
        net.tick(2);
        int[] due = {2, 3, 4, 5, 0, 11};
        for (int place = 0; place < 6; place++) {
            same("18 place " + place, net.used(3, place), due[place]);
        }
        failsIndex("18 a seventh", net, () -> net.used(3, 6));
        failsIndex("18 of another one nothing", net, () -> net.used(0, 0));
    }

    private static void told() {
        IronbridgeCache net = netOf(0, 0, 0, 0);
        for (int client : new int[] {0, 3}) {
            for (int what = 0; what <= 6; what++) {
                same("19 at first " + what, net.told(client, what), 0);
            }
        }
        net.cut(3, true);
        same("19 cut", net.told(3, 6), 1);
        net.read(3, 11);
        same("19 a miss while cut", net.told(3, 2), 1);
        same("19 no hit", net.told(3, 1), 0);
        same("19 nothing of the others", net.told(2, 2), 0);
    }

    private static void aside() {
        IronbridgeCache net = netOf(0, 2);
        for (int kept = 1; kept <= 13; kept++) {
            conflict(net, kept % 2 * 11, 100 + kept);
            int known = Math.min(kept, 10);
            same("20 the latest of " + kept, net.aside(1, 0, true), 100 + kept);
            same("20 its file", net.aside(1, 0, false), kept % 2 * 11);
            same("20 the last of " + kept, net.aside(1, known - 1, true), 101 + kept - known);
            same("20 the file of that", net.aside(1, known - 1, false), (1 + kept - known) % 2 * 11);
            failsIndex("20 no more of " + kept, net, () -> net.aside(1, known, true));
            failsIndex("20 no file of more of " + kept, net, () -> net.aside(1, known, false));
        }
        for (int back = 0; back < 10; back++) {
            same("20 all ten " + back, net.aside(1, back, true), 113 - back);
        }
    }

    private static void luck() {
        IronbridgeCache net = netOf(0, 0, 0, 0);
        sameDouble("21 without any", net.luck(3), 0.0);
        net.read(3, 0);
        sameDouble("21 none of one", net.luck(3), 0.0);
        net.tick(2);
        net.read(3, 0);
        net.write(3, 0, 1);
        sameDouble("21 two of three, not rounded", net.luck(3), 2.0 / 3.0);
        for (int i = 0; i < 4; i++) {
            net.read(3, 0);
        }
        sameDouble("21 six of seven", net.luck(3), 6.0 / 7.0);
        sameDouble("21 of another one without any", net.luck(0), 0.0);
    }

    // ---- what would be

    private static void stale() {
        IronbridgeCache net = netOf(0, 0);
        same("22 nothing had", net.stale(), 0);
        readAll(net, 0);
        same("22 the same version", net.stale(), 0);
        net.cut(0, true);
        net.write(1, 0, 1);
        net.flush(1);
        net.tick(19);
        same("22 stored as the lease is over, trusted as it is cut", net.stale(), 1);
        net.cut(0, false);
        same("22 not trusted any more", net.stale(), 0);
        net.cut(0, true);
        same("22 trusted again", net.stale(), 1);
        net.write(0, 0, 1);
        same("22 dirty", net.stale(), 0);
    }

    private static void staleOfMany() {
        IronbridgeCache net = netOf(0, 0, 0, 0);
        readAll(net, 0, 5, 6, 11);
        for (int client = 0; client < 3; client++) {
            net.cut(client, true);
        }
        for (int file : new int[] {0, 5, 6, 11}) {
            net.write(3, file, 0);
        }
        net.flush(3);
        net.tick(18);
        same("22 not yet", net.stale(), 0);
        net.tick(1);
        same("22 at three clients, four each; the one that stored knows it not yet, but is dirty", net.stale(), 12);
        net.tick(1);
        same("22 nor as it knows it", net.stale(), 12);
        net.cut(0, false);
        same("22 without the first one", net.stale(), 8);
    }

    private static void aheadWithoutAny() {
        IronbridgeCache net = new IronbridgeCache();
        same("23 calm now, least", net.calmIn(1), 0);
        same("23 calm now, greatest", net.calmIn(100), 0);
        for (int file : new int[] {0, 11}) {
            same("24 least", net.contentIn(file, 1), 0);
            same("24 greatest", net.contentIn(file, 100), 0);
        }
        for (int client = 0; client < 4; client++) {
            net.addClient(1, 0);
        }
        for (int client : new int[] {0, 3}) {
            same("25 least", net.conflictsIn(client, 1), 0);
            same("25 greatest", net.conflictsIn(client, 100), 0);
        }
    }

    /**
     * Clients 0 and 2 are cut with leases of file 0 until 61; client 1 (OURS) waits with its store
     * behind that of client 0, whose own lease lasts from 61 to 121. Then client 1 is in conflict:
     * CLASH comes at 122, its store at 123, and STORED at 124.
     */
    private static IronbridgeCache longNet(int clock) {
        IronbridgeCache net = netOf(0, 1, 0);
        net.setTerm(60, 20);
        readAll(net, 0);
        net.write(0, 0, 10);
        net.write(1, 0, 20);
        net.flush(0);
        net.flush(1);
        net.tick(1);
        net.cut(0, true);
        net.cut(2, true);
        while (net.clock() < clock) {
            net.tick(Math.min(60, clock - net.clock()));
        }
        return net;
    }

    private static void aheadOne() {
        same("25 one tick: CLASH comes", longNet(121).conflictsIn(1, 1), 1);
        same("25 it came", longNet(122).conflictsIn(1, 1), 0);
        same("24 one tick: the store comes", longNet(122).contentIn(0, 1), 20);
        same("24 not yet", longNet(121).contentIn(0, 1), 10);
        same("23 one tick: STORED comes", longNet(123).calmIn(1), 1);
        same("23 not within one", longNet(122).calmIn(1), -1);
        same("23 calm now", longNet(124).calmIn(1), 0);
    }

    private static void aheadHundred() {
        same("25 in 100", longNet(22).conflictsIn(1, 100), 1);
        same("25 in 99", longNet(22).conflictsIn(1, 99), 0);
        same("24 in 100", longNet(23).contentIn(0, 100), 20);
        same("24 in 99", longNet(23).contentIn(0, 99), 10);
        same("23 in 100", longNet(24).calmIn(100), 100);
        same("23 not within 99", longNet(24).calmIn(99), -1);
        same("23 not within 100", longNet(23).calmIn(100), -1);
    }

    private static void digest() {
        same("26 new: beyond 64 bits from the start", new IronbridgeCache().digest(), digestOf(new IronbridgeCache()));
        // Of a new object all 52 numbers are 0.
        same("26 new, as a number", new IronbridgeCache().digest(), power(58077L, 52));
        IronbridgeCache net = netOf(0);
        net.read(0, 11);
        net.tick(1);
        same("26 with a thing on its way", net.digest(), digestOf(net));
        same("26 asked twice", net.digest(), net.digest());
    }

    private static long power(long start, int times) {
        long d = start;
        for (int i = 0; i < times; i++) {
            d *= 31;
        }
        return d;
    }
}
