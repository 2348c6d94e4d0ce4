import java.math.BigInteger;
import java.util.ArrayList;
import java.util.List;

/** What the tests share: counting of what is due, and nets that stand in a known state. */
class Check {
    interface Call {
        void run();
    }

    private static int passed;
    private static int failed;

    static void same(String what, long got, long due) {
        if (got == due) {
            passed++;
            return;
        }
        failed++;
        System.out.println(what + " answered " + got + ", due is " + due);
    }

    static void same(String what, boolean got, boolean due) {
        same(what, got ? 1 : 0, due ? 1 : 0);
    }

    static void sameDouble(String what, double got, double due) {
        if (got == due) {
            passed++;
            return;
        }
        failed++;
        System.out.println(what + " answered " + got + ", due is " + due);
    }

    static void sameText(String what, String got, String due) {
        if (got.equals(due)) {
            passed++;
            return;
        }
        failed++;
        System.out.println(what + " answered " + got + ", due is " + due);
    }

    /** The call throws just this exception, and changes nothing. */
    private static void fails(String what, IronbridgeCache net, String due, Call call) {
        long before = net.digest();
        String got = "nothing";
        try {
            call.run();
        } catch (RuntimeException e) {
            got = e.getClass().getSimpleName();
        }
        if (got.equals(due) && net.digest() == before) {
            passed++;
            return;
        }
        failed++;
        System.out.println(what + " threw " + got + ", due is " + due
                + (net.digest() == before ? "" : ", and it changed something"));
    }

    static void failsIndex(String what, IronbridgeCache net, Call call) {
        fails(what, net, "IndexOutOfBoundsException", call);
    }

    static void failsArgument(String what, IronbridgeCache net, Call call) {
        fails(what, net, "IllegalArgumentException", call);
    }

    static void failsState(String what, IronbridgeCache net, Call call) {
        fails(what, net, "IllegalStateException", call);
    }

    /** Prints the count, and ends with exit code 1 if something was not as due. */
    static void close(String name) {
        System.out.println(name + ": " + passed + " answers as due, " + failed + " not");
        if (failed > 0 || passed == 0) {
            System.exit(1);
        }
    }

    /** A net with clients of these habits, each with a delay of 1. */
    static IronbridgeCache netOf(int... habits) {
        IronbridgeCache net = new IronbridgeCache();
        for (int habit : habits) {
            net.addClient(1, habit);
        }
        return net;
    }

    /** All clients, of a delay of 1, read these files, and have them two ticks later. */
    static void readAll(IronbridgeCache net, int... files) {
        for (int client = 0; client < net.clients(); client++) {
            for (int file : files) {
                net.read(client, file);
            }
        }
        net.tick(2);
    }

    /** Client 0 stores first, what client 1 has written of the same file is in conflict. */
    static void conflict(IronbridgeCache net, int file, int content) {
        net.read(0, file);
        net.read(1, file);
        net.tick(2);
        net.write(0, file, content + 1);
        net.write(1, file, content);
        net.flush(0);
        net.flush(1);
        net.tick(6);
    }

    /** Requests in rows, things on their way, dirty files of all habits, and one line that is cut. */
    static IronbridgeCache busyNet() {
        IronbridgeCache net = new IronbridgeCache();
        net.addClient(1, 1);
        net.addClient(3, 0);
        net.addClient(2, 2);
        net.addClient(4, 1);
        net.setTerm(12, 2);
        net.setRoom(3);
        for (int client = 0; client < 4; client++) {
            for (int file = 0; file < 4; file++) {
                net.read(client, file);
            }
        }
        net.tick(9);
        for (int client = 0; client < 4; client++) {
            for (int file = 1; file < 4; file++) {
                net.write(client, file, 10 * client + file);
            }
        }
        net.cut(2, true);
        net.tick(4);
        net.write(0, 1, 500);
        net.write(2, 2, 600);
        net.read(3, 7);
        return net;
    }

    /** The digest as the document tells it, of what the other calls answer. */
    static long digestOf(IronbridgeCache net) {
        List<Integer> numbers = new ArrayList<>();
        int clients = net.clients();
        int things = net.onTheWay();
        numbers.addAll(List.of(net.clock(), clients, things, net.stale()));
        for (int file = 0; file < 12; file++) {
            for (int what = 0; what < 4; what++) {
                numbers.add(net.server(file, what));
            }
        }
        for (int client = 0; client < clients; client++) {
            addClientNumbers(net, client, numbers);
        }
        for (int place = 0; place < things; place++) {
            for (int what = 0; what < 4; what++) {
                numbers.add(net.way(place, what));
            }
        }
        return wrapped(numbers);
    }

    private static void addClientNumbers(IronbridgeCache net, int client, List<Integer> numbers) {
        int files = net.told(client, 0);
        numbers.add(files);
        for (int what = 1; what < 7; what++) {
            numbers.add(net.told(client, what));
        }
        for (int place = 0; place < files; place++) {
            numbers.add(net.used(client, place));
        }
        for (int file = 0; file < 12; file++) {
            for (int what = 0; what < 6; what++) {
                numbers.add(net.has(client, file, what));
            }
        }
    }

    /** Reckoned without any bound, and cut to 64 bits only in the end. */
    static long wrapped(List<Integer> numbers) {
        BigInteger d = BigInteger.valueOf(58077);
        for (int v : numbers) {
            d = d.multiply(BigInteger.valueOf(31)).add(BigInteger.valueOf(v));
        }
        return d.longValue();
    }
}
