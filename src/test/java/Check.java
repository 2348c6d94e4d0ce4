/** What the tests share: counting of what is due, and nets that stand in a known state. */
class Check {
    interface Call {
        void run();
    }

    private static int passed;
    private static int failed;

    static void same(String what, long got, long due) {
        if (got == due) {
            passed++;
            return;
        }
        failed++;
        System.out.println(what + " answered " + got + ", due is " + due);
    }

    static void same(String what, boolean got, boolean due) {
        same(what, got ? 1 : 0, due ? 1 : 0);
    }

    static void sameDouble(String what, double got, double due) {
        if (got == due) {
            passed++;
            return;
        }
        failed++;
        System.out.println(what + " answered " + got + ", due is " + due);
    }

    /** The call throws just this exception, and changes nothing. */
    private static void fails(String what, IronbridgeCache net, String due, Call call) {
        long before = net.digest();
        String got = "nothing";
        try {
            call.run();
        } catch (RuntimeException e) {
            got = e.getClass().getSimpleName();
        }
        if (got.equals(due) && net.digest() == before) {
            passed++;
            return;
        }
        failed++;
        System.out.println(what + " threw " + got + ", due is " + due
                + (net.digest() == before ? "" : ", and it changed something"));
    }

    static void failsIndex(String what, IronbridgeCache net, Call call) {
        fails(what, net, "IndexOutOfBoundsException", call);
    }

    static void failsArgument(String what, IronbridgeCache net, Call call) {
        fails(what, net, "IllegalArgumentException", call);
    }

    static void failsState(String what, IronbridgeCache net, Call call) {
        fails(what, net, "IllegalStateException", call);
    }

    /** Prints the count, and ends with exit code 1 if something was not as due. */
    static void close(String name) {
        System.out.println(name + ": " + passed + " answers as due, " + failed + " not");
        if (failed > 0 || passed == 0) {
            System.exit(1);
        }
    }

    /** A net with clients of these habits, each with a delay of 1. */
    static IronbridgeCache netOf(int... habits) {
        IronbridgeCache net = new IronbridgeCache();
        for (int habit : habits) {
            net.addClient(1, habit);
        }
        return net;
    }

    /** All clients, of a delay of 1, read these files, and have them two ticks later. */
    static void readAll(IronbridgeCache net, int... files) {
        for (int client = 0; client < net.clients(); client++) {
            for (int file : files) {
                net.read(client, file);
            }
        }
        net.tick(2);
    }

    /** The digest as the document tells it, of what the other calls answer. */
    static long digestOf(IronbridgeCache net) {
        long d = 58077;
        long[] start = {net.clock(), net.clients(), net.onTheWay(), net.stale()};
        for (long v : start) {
            d = d * 31 + v;
        }
        for (int file = 0; file < 12; file++) {
            for (int what = 0; what < 4; what++) {
                d = d * 31 + net.server(file, what);
            }
        }
        for (int client = 0; client < net.clients(); client++) {
            for (int what = 0; what < 7; what++) {
                d = d * 31 + net.told(client, what);
            }
            for (int place = 0; place < net.told(client, 0); place++) {
                d = d * 31 + net.used(client, place);
            }
            for (int file = 0; file < 12; file++) {
                for (int what = 0; what < 6; what++) {
                    d = d * 31 + net.has(client, file, what);
                }
            }
        }
        for (int place = 0; place < net.onTheWay(); place++) {
            for (int what = 0; what < 4; what++) {
                d = d * 31 + net.way(place, what);
            }
        }
        return d;
    }
}
