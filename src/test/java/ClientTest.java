/** Promises 17 to 21: clients, asked. */
final class ClientTest extends Check {
    public static void main(String[] args) {
        has();
        hasAsks();
        used();
        told();
        aside();
        asideOfMany();
        luck();
        close("ClientTest");
    }

    private static void has() {
        IronbridgeCache net = netOf(0, 0);
        failsIndex("17 no client", net, () -> net.has(2, 0, 0));
        failsIndex("17 no file 12", net, () -> net.has(0, 12, 0));
        failsIndex("17 no file -1", net, () -> net.has(0, -1, 0));
        failsArgument("17 what 6", net, () -> net.has(0, 0, 6));
        failsArgument("17 what -1", net, () -> net.has(0, 0, -1));
        failsIndex("17 no client comes before what", net, () -> net.has(2, 0, 6));
        failsIndex("17 no file comes before what", net, () -> net.has(0, 12, 6));
        hasRow("17 nothing", net, 0, -1, -1, 0, -1, 0, 0);
        net.read(0, 3);
        hasRow("17 asks", net, 0, -1, -1, 0, -1, 0, 1);
        net.tick(2);
        hasRow("17 given", net, 0, 0, 0, 0, 21, 1, 0);
        net.write(0, 3, 50);
        hasRow("17 dirty", net, 0, 50, 0, 1, 21, 1, 0);
        net.flush(0);
        hasRow("17 sends", net, 0, 50, 0, 1, 21, 1, 2);
        net.tick(2);
        hasRow("17 stored", net, 0, 50, 1, 0, 23, 1, 0);
        net.tick(18);
        hasRow("17 last tick of the lease", net, 0, 50, 1, 0, 23, 1, 0);
        net.tick(1);
        hasRow("17 lease over", net, 0, 50, 1, 0, -1, 0, 0);
        net.cut(0, true);
        hasRow("17 cut", net, 0, 50, 1, 0, -1, 1, 0);
        net.write(0, 3, 51);
        net.cut(0, false);
        hasRow("17 dirty without a lease", net, 0, 51, 1, 1, -1, 1, 2);
        hasRow("17 the other one", net, 1, -1, -1, 0, -1, 0, 0);
    }

    private static void hasRow(String what, IronbridgeCache net, int client, int... due) {
        for (int i = 0; i < due.length; i++) {
            same(what + " " + i, net.has(client, 3, i), due[i]);
        }
    }

    private static void hasAsks() {
        IronbridgeCache net = netOf(1, 0);
        readAll(net, 3);
        net.tick(20);
        net.read(0, 3);
        net.cut(0, true);
        net.cut(0, false);
        same("17 a fetch of before the cut is not asked for", net.has(0, 3, 5), 0);
        net.read(0, 3);
        same("17 so it asks again", net.onTheWay(), 2);
        net.cut(0, true);
        net.write(0, 3, 5);
        net.cut(0, false);
        same("17 dirty and sent, not asked for", net.has(0, 3, 5), 2);
        net.tick(2);
        same("17 gives change nothing of a dirty one", net.has(0, 3, 0), 5);
        hasGivenWhileDirty();
    }

    private static void hasGivenWhileDirty() {
        IronbridgeCache net = new IronbridgeCache();
        net.addClient(2, 0);
        net.read(0, 3);
        net.tick(22);
        net.read(0, 3);
        net.tick(1);
        net.cut(0, true);
        net.write(0, 3, 5);
        net.cut(0, false);
        same("17 give, then store", net.tick(1), 2);
        same("17 give is on its way", net.way(1, 1), 3);
        net.tick(2);
        hasRow("17 give of a dirty one", net, 0, 5, 0, 1, -1, 1, 2);
        net.tick(1);
        hasRow("17 stored", net, 0, 5, 1, 0, 45, 1, 0);
    }

    private static void used() {
        IronbridgeCache net = netOf(0);
        failsIndex("18 no client", net, () -> net.used(1, 0));
        failsIndex("18 no client -1", net, () -> net.used(-1, 0));
        failsIndex("18 no client 4", net, () -> net.used(4, 0));
        failsIndex("18 nothing", net, () -> net.used(0, 0));
        readAll(net, 4, 2, 7);
        usedRow("18 given", net, 7, 2, 4);
        failsIndex("18 place 3", net, () -> net.used(0, 3));
        failsIndex("18 place -1", net, () -> net.used(0, -1));
        net.read(0, 4);
        usedRow("18 read", net, 4, 7, 2);
        net.write(0, 2, 1);
        usedRow("18 written", net, 2, 4, 7);
        net.write(0, 7, 1);
        net.read(0, 2);
        net.flush(0);
        net.tick(2);
        usedRow("18 not used as it is stored", net, 2, 7, 4);
        net.tick(20);
        net.read(0, 4);
        usedRow("18 a miss is no use", net, 2, 7, 4);
        net.tick(2);
        usedRow("18 given again", net, 4, 2, 7);
        usedOneGone();
        usedEachGone();
    }

    private static void usedOneGone() {
        IronbridgeCache net = netOf(0, 0);
        readAll(net, 4, 2, 7);
        net.write(1, 2, 1);
        net.flush(1);
        net.tick(2);
        usedRow("18 called, the middle one went", net, 7, 4);
        failsIndex("18 place 2", net, () -> net.used(0, 2));
    }

    /** Of six files one goes, from each place: the others stay in their order, with their leases. */
    private static void usedEachGone() {
        int[] order = {9, 2, 0, 11, 4, 7};
        for (int gone = 0; gone < 6; gone++) {
            IronbridgeCache net = netOf(0, 0);
            net.setRoom(6);
            readAll(net, 7, 4, 11, 0, 2, 9);
            net.write(1, order[gone], 1);
            net.flush(1);
            net.tick(2);
            int place = 0;
            for (int i = 0; i < 6; i++) {
                boolean isThere = i != gone;
                same("18 lease of file " + order[i], net.has(0, order[i], 3), isThere ? 21 : -1);
                same("18 content of file " + order[i], net.has(0, order[i], 0), isThere ? 0 : -1);
                if (isThere) {
                    same("18 place " + place + " without " + order[gone], net.used(0, place), order[i]);
                    place++;
                }
            }
            same("18 five are left", net.told(0, 0), 5);
        }
    }

    private static void usedRow(String what, IronbridgeCache net, int... due) {
        same(what + " how many", net.told(0, 0), due.length);
        for (int place = 0; place < due.length; place++) {
            same(what + " " + place, net.used(0, place), due[place]);
        }
    }

    private static void told() {
        IronbridgeCache net = netOf(0, 0);
        failsIndex("19 no client", net, () -> net.told(2, 0));
        failsIndex("19 no client -1", net, () -> net.told(-1, 0));
        failsArgument("19 what 7", net, () -> net.told(0, 7));
        failsArgument("19 what -1", net, () -> net.told(0, -1));
        failsIndex("19 no client comes before what", net, () -> net.told(2, 7));
        readAll(net, 0, 1);
        net.read(1, 0);
        net.write(1, 0, 5);
        net.write(0, 0, 6);
        net.flush(0);
        net.flush(1);
        net.tick(6);
        toldRow("19 in conflict", net, 2, 2, 2, 1, 1, 0, 0);
        net.write(0, 1, 6);
        net.flush(0);
        net.cut(1, true);
        net.tick(2);
        toldRow("19 a call is lost", net, 2, 2, 2, 1, 1, 1, 1);
    }

    private static void toldRow(String what, IronbridgeCache net, int... due) {
        for (int i = 0; i < due.length; i++) {
            same(what + " " + i, net.told(1, i), due[i]);
        }
    }

    private static void aside() {
        IronbridgeCache net = netOf(0, 2);
        failsIndex("20 no client", net, () -> net.aside(2, 0, true));
        failsIndex("20 no client -1", net, () -> net.aside(-1, 0, false));
        failsIndex("20 no client 4", net, () -> net.aside(4, 0, false));
        failsIndex("20 nothing", net, () -> net.aside(1, 0, true));
        readAll(net, 0, 9);
        conflict(net, 9, 70);
        same("20 one conflict", net.told(1, 3), 1);
        same("20 content", net.aside(1, 0, true), 70);
        same("20 file", net.aside(1, 0, false), 9);
        failsIndex("20 back 1", net, () -> net.aside(1, 1, true));
        failsIndex("20 back -1", net, () -> net.aside(1, -1, false));
        conflict(net, 0, 80);
        same("20 the latest", net.aside(1, 0, true), 80);
        same("20 its file", net.aside(1, 0, false), 0);
        same("20 the one before", net.aside(1, 1, true), 70);
        failsIndex("20 not of theirs", net, () -> net.aside(0, 0, true));
    }

    private static void asideOfMany() {
        IronbridgeCache net = netOf(0, 2);
        for (int i = 0; i < 12; i++) {
            conflict(net, i % 3, 100 + i);
        }
        same("20 twelve conflicts", net.told(1, 3), 12);
        for (int back = 0; back < 10; back++) {
            same("20 back " + back, net.aside(1, back, true), 111 - back);
            same("20 file back " + back, net.aside(1, back, false), (11 - back) % 3);
        }
        failsIndex("20 at most ten", net, () -> net.aside(1, 10, true));
    }

    private static void luck() {
        IronbridgeCache net = netOf(0, 0);
        failsIndex("21 no client", net, () -> net.luck(2));
        failsIndex("21 no client -1", net, () -> net.luck(-1));
        sameDouble("21 without any", net.luck(0), 0.0);
        net.read(0, 0);
        sameDouble("21 only misses", net.luck(0), 0.0);
        net.tick(2);
        net.read(0, 0);
        sameDouble("21 half", net.luck(0), 0.5);
        net.write(0, 1, 1);
        sameDouble("21 a third", net.luck(0), 1.0 / 3.0);
        net.write(0, 0, 1);
        net.cut(0, true);
        net.read(0, 0);
        sameDouble("21 while cut, too", net.luck(0), 3.0 / 5.0);
        sameDouble("21 the other", net.luck(1), 0.0);
    }
}
