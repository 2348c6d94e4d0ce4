/**
 * Every call that the document refuses: what it throws, which comes first where two apply, and that
 * nothing is changed. A twin net that was not asked wrongly has to answer all that follows alike.
 */
final class RefusedTest extends Check {
    private interface Refused {
        void callOn(IronbridgeCache net);
    }

    private static final String ARGUMENT = "IllegalArgumentException";
    private static final String STATE = "IllegalStateException";
    private static final String INDEX = "IndexOutOfBoundsException";

    // One beyond on either side comes first, then what is farther away.
    private static final int[] NO_FILES = {-1, 12, 13, Integer.MIN_VALUE, Integer.MAX_VALUE};
    private static final int[] NO_CONTENTS = {-1, 10000, Integer.MIN_VALUE, Integer.MAX_VALUE};
    private static final int[] NO_TICKS = {0, 61, -1, Integer.MIN_VALUE, Integer.MAX_VALUE};
    private static final int[] NO_TICKS_AHEAD = {0, 101, -1, Integer.MIN_VALUE, Integer.MAX_VALUE};

    private static final int BUSY = 4;
    private static final int WITH_ASIDE = 5;

    public static void main(String[] args) {
        addClient();
        addClientToFour();
        setTerm();
        setRoom();
        for (int clients : new int[] {0, 1, 2, 3, BUSY}) {
            noSuchClients(clients);
        }
        for (int file : NO_FILES) {
            noSuchFile(file);
        }
        contents();
        ticks();
        whats();
        requestPlaces();
        wayPlaces();
        usedPlaces();
        asidePlaces();
        close("RefusedTest");
    }

    // ---- the twin nets

    /** A net of so many clients; the one of four is busy, and there is one that has something aside. */
    private static IronbridgeCache netIn(int state) {
        if (state == BUSY) {
            return busyNet();
        }
        IronbridgeCache net = new IronbridgeCache();
        if (state == WITH_ASIDE) {
            net.addClient(1, 0);
            net.addClient(1, 2);
            readAll(net, 3);
            net.write(0, 3, 8);
            net.write(1, 3, 9);
            net.flush(0);
            net.flush(1);
            net.tick(6);
            return net;
        }
        net.setTerm(9, 3);
        net.setRoom(5);
        for (int client = 0; client < state; client++) {
            net.addClient(2 + client, client);
            net.read(client, 1);
            net.read(client, 11);
        }
        net.tick(7);
        for (int client = 0; client < state; client++) {
            net.write(client, 1, 70 + client);
        }
        return net;
    }

    private static void refuse(String what, int state, String due, Refused call) {
        IronbridgeCache net = netIn(state);
        String thrown = "nothing";
        try {
            call.callOn(net);
        } catch (RuntimeException e) {
            thrown = e.getClass().getSimpleName();
        }
        sameText(what + " throws", thrown, due);
        sameText(what + " changes nothing", traceOf(net), traceOf(netIn(state)));
    }

    /** All that a refused call could have changed: what can be asked now, and what comes of it later. */
    private static String traceOf(IronbridgeCache net) {
        StringBuilder trace = new StringBuilder();
        trace.append(net.digest());
        int clients = net.clients();
        for (int file = 0; file < 12; file++) {
            traceFile(net, file, clients, trace);
        }
        for (int client = 0; client < clients; client++) {
            trace.append(' ').append(net.luck(client));
        }
        if (clients < 4) {
            trace.append(" joins as ").append(net.addClient(1, 0));
        }
        for (int step = 0; step < 40; step++) {
            int client = step % net.clients();
            trace.append(' ').append(net.read(client, step * 5 % 12));
            trace.append(' ').append(net.write(client, step % 3, step));
            trace.append(' ').append(net.tick(1)).append(' ').append(net.digest());
        }
        traceAside(net, trace);
        return trace.append(" room ").append(net.setRoom(4)).append(" term ").append(net.setTerm(20, 5)).toString();
    }

    private static void traceFile(IronbridgeCache net, int file, int clients, StringBuilder trace) {
        for (int client = 0; client < clients; client++) {
            trace.append(' ').append(net.lease(file, client));
        }
        int requests = net.server(file, 2);
        for (int place = 0; place < requests; place++) {
            for (int what = 0; what < 4; what++) {
                trace.append(' ').append(net.request(file, place, what));
            }
        }
    }

    private static void traceAside(IronbridgeCache net, StringBuilder trace) {
        for (int client = 0; client < net.clients(); client++) {
            for (int back = 0; back < 10; back++) {
                try {
                    trace.append(' ').append(net.aside(client, back, false));
                    trace.append(' ').append(net.aside(client, back, true));
                } catch (IndexOutOfBoundsException e) {
                    break;
                }
            }
        }
    }

    // ---- what is set

    private static void addClient() {
        for (int state : new int[] {0, 2, 3}) {
            for (int delay : new int[] {0, 9, -1, Integer.MIN_VALUE, Integer.MAX_VALUE}) {
                refuse("2 delay " + delay, state, ARGUMENT, net -> net.addClient(delay, 1));
            }
            for (int habit : new int[] {-1, 3, Integer.MIN_VALUE, Integer.MAX_VALUE}) {
                refuse("2 habit " + habit, state, ARGUMENT, net -> net.addClient(7, habit));
            }
            refuse("2 delay and habit", state, ARGUMENT, net -> net.addClient(0, 3));
        }
    }

    private static void addClientToFour() {
        refuse("2 a fifth one", BUSY, STATE, net -> net.addClient(1, 0));
        refuse("2 a fifth one, greatest", BUSY, STATE, net -> net.addClient(8, 2));
        refuse("2 delay 0 comes before there are 4", BUSY, ARGUMENT, net -> net.addClient(0, 0));
        refuse("2 delay 9 comes before there are 4", BUSY, ARGUMENT, net -> net.addClient(9, 0));
        refuse("2 habit -1 comes before there are 4", BUSY, ARGUMENT, net -> net.addClient(1, -1));
        refuse("2 habit 3 comes before there are 4", BUSY, ARGUMENT, net -> net.addClient(1, 3));
    }

    private static void setTerm() {
        for (int state : new int[] {0, 3, BUSY}) {
            for (int term : new int[] {0, 61, -1, Integer.MIN_VALUE, Integer.MAX_VALUE}) {
                refuse("3 term " + term, state, ARGUMENT, net -> net.setTerm(term, 0));
            }
            for (int lag : new int[] {-1, 21, Integer.MIN_VALUE, Integer.MAX_VALUE}) {
                refuse("3 lag " + lag, state, ARGUMENT, net -> net.setTerm(40, lag));
            }
            refuse("3 term and lag", state, ARGUMENT, net -> net.setTerm(0, 21));
        }
    }

    private static void setRoom() {
        for (int state : new int[] {0, 3, BUSY}) {
            for (int room : new int[] {1, 7, 0, -1, Integer.MIN_VALUE, Integer.MAX_VALUE}) {
                refuse("4 room " + room, state, ARGUMENT, net -> net.setRoom(room));
            }
        }
    }

    // ---- no such client, no such file: named first, whatever else is wrong

    private static void noSuchClients(int clients) {
        int[] numbers = {-1, clients, 4, Integer.MIN_VALUE, Integer.MAX_VALUE};
        for (int client : numbers) {
            noSuchClient(client, clients);
            noSuchClientAsked(client, clients);
        }
    }

    private static void noSuchClient(int client, int state) {
        String of = " client " + client + " of " + state;
        refuse("5 cut" + of, state, INDEX, net -> net.cut(client, true));
        refuse("5 mend" + of, state, INDEX, net -> net.cut(client, false));
        refuse("6 read" + of, state, INDEX, net -> net.read(client, 1));
        refuse("6 read, no file" + of, state, INDEX, net -> net.read(client, 12));
        refuse("7 write" + of, state, INDEX, net -> net.write(client, 1, 5));
        refuse("7 write, no file" + of, state, INDEX, net -> net.write(client, -1, 5));
        refuse("7 write, content" + of, state, INDEX, net -> net.write(client, 1, 10000));
        refuse("8 flush" + of, state, INDEX, net -> net.flush(client));
    }

    private static void noSuchClientAsked(int client, int state) {
        String of = " client " + client + " of " + state;
        refuse("13 lease" + of, state, INDEX, net -> net.lease(1, client));
        refuse("17 has" + of, state, INDEX, net -> net.has(client, 1, 0));
        refuse("17 has, what" + of, state, INDEX, net -> net.has(client, 1, 6));
        refuse("18 used" + of, state, INDEX, net -> net.used(client, 0));
        refuse("19 told" + of, state, INDEX, net -> net.told(client, 0));
        refuse("19 told, what" + of, state, INDEX, net -> net.told(client, 7));
        refuse("20 aside content" + of, state, INDEX, net -> net.aside(client, 0, true));
        refuse("20 aside file" + of, state, INDEX, net -> net.aside(client, 0, false));
        refuse("21 luck" + of, state, INDEX, net -> net.luck(client));
        refuse("25 conflictsIn" + of, state, INDEX, net -> net.conflictsIn(client, 1));
        refuse("25 conflictsIn, ticks" + of, state, INDEX, net -> net.conflictsIn(client, 0));
    }

    private static void noSuchFile(int file) {
        String of = " file " + file;
        refuse("6 read" + of, BUSY, INDEX, net -> net.read(0, file));
        refuse("7 write" + of, BUSY, INDEX, net -> net.write(0, file, 5));
        refuse("7 write, content -1" + of, BUSY, INDEX, net -> net.write(0, file, -1));
        refuse("7 write, content 10000" + of, BUSY, INDEX, net -> net.write(0, file, 10000));
        refuse("12 server" + of, BUSY, INDEX, net -> net.server(file, 0));
        refuse("12 server, what" + of, BUSY, INDEX, net -> net.server(file, 4));
        refuse("13 lease" + of, BUSY, INDEX, net -> net.lease(file, 0));
        refuse("13 lease, no client" + of, BUSY, INDEX, net -> net.lease(file, 4));
        refuse("14 request" + of, BUSY, INDEX, net -> net.request(file, 0, 0));
        refuse("14 request, what" + of, BUSY, INDEX, net -> net.request(file, 0, -1));
        refuse("17 has" + of, BUSY, INDEX, net -> net.has(0, file, 0));
        refuse("17 has, what" + of, BUSY, INDEX, net -> net.has(0, file, -1));
        refuse("24 contentIn" + of, BUSY, INDEX, net -> net.contentIn(file, 1));
        refuse("24 contentIn, ticks" + of, BUSY, INDEX, net -> net.contentIn(file, 101));
    }

    // ---- wrong arguments

    private static void contents() {
        for (int content : NO_CONTENTS) {
            refuse("7 content of a hit " + content, BUSY, ARGUMENT, net -> net.write(0, 1, content));
            refuse("7 content of a miss " + content, BUSY, ARGUMENT, net -> net.write(0, 9, content));
            refuse("7 content while cut " + content, BUSY, ARGUMENT, net -> net.write(2, 3, content));
        }
    }

    private static void ticks() {
        for (int ticks : NO_TICKS) {
            refuse("9 ticks " + ticks, BUSY, ARGUMENT, net -> net.tick(ticks));
            refuse("9 ticks without clients " + ticks, 0, ARGUMENT, net -> net.tick(ticks));
        }
        for (int ticks : NO_TICKS_AHEAD) {
            refuse("23 ticks " + ticks, BUSY, ARGUMENT, net -> net.calmIn(ticks));
            refuse("23 ticks, as it is calm " + ticks, 0, ARGUMENT, net -> net.calmIn(ticks));
            refuse("24 ticks " + ticks, BUSY, ARGUMENT, net -> net.contentIn(1, ticks));
            refuse("25 ticks " + ticks, BUSY, ARGUMENT, net -> net.conflictsIn(3, ticks));
            refuse("25 ticks while cut " + ticks, BUSY, ARGUMENT, net -> net.conflictsIn(2, ticks));
        }
    }

    private static void whats() {
        for (int what : new int[] {-1, 4, Integer.MIN_VALUE, Integer.MAX_VALUE}) {
            refuse("12 what " + what, BUSY, ARGUMENT, net -> net.server(1, what));
            refuse("14 what " + what, BUSY, ARGUMENT, net -> net.request(1, 0, what));
            refuse("16 what " + what, BUSY, ARGUMENT, net -> net.way(0, what));
        }
        for (int what : new int[] {-1, 6, Integer.MIN_VALUE, Integer.MAX_VALUE}) {
            refuse("17 what " + what, BUSY, ARGUMENT, net -> net.has(0, 1, what));
            refuse("17 what of a file that it has not " + what, BUSY, ARGUMENT, net -> net.has(0, 11, what));
        }
        for (int what : new int[] {-1, 7, Integer.MIN_VALUE, Integer.MAX_VALUE}) {
            refuse("19 what " + what, BUSY, ARGUMENT, net -> net.told(0, what));
        }
    }

    // ---- no such place

    private static void requestPlaces() {
        for (int place : new int[] {-1, 1, 2, Integer.MIN_VALUE, Integer.MAX_VALUE}) {
            refuse("14 place " + place + " of one", BUSY, INDEX, net -> net.request(1, place, 0));
            refuse("14 place " + place + " of one, what", BUSY, INDEX, net -> net.request(1, place, 4));
        }
        refuse("14 place 0 of none", BUSY, INDEX, net -> net.request(11, 0, 0));
        refuse("14 place 0 of none, what", BUSY, INDEX, net -> net.request(11, 0, -1));
        refuse("14 place 0 of none, without clients", 0, INDEX, net -> net.request(0, 0, 0));
    }

    private static void wayPlaces() {
        int things = busyNet().onTheWay();
        for (int place : new int[] {-1, things, things + 1, Integer.MIN_VALUE, Integer.MAX_VALUE}) {
            refuse("16 place " + place, BUSY, INDEX, net -> net.way(place, 0));
            refuse("16 place " + place + ", what", BUSY, INDEX, net -> net.way(place, 4));
        }
        refuse("16 place 0 of none", 0, INDEX, net -> net.way(0, 0));
        refuse("16 place 0 of none, what", 0, INDEX, net -> net.way(0, -1));
    }

    private static void usedPlaces() {
        for (int client = 0; client < 4; client++) {
            int number = client;
            int files = busyNet().told(client, 0);
            for (int place : new int[] {-1, files, 6, 12, Integer.MIN_VALUE, Integer.MAX_VALUE}) {
                refuse("18 place " + place + " of " + files, BUSY, INDEX, net -> net.used(number, place));
            }
        }
    }

    private static void asidePlaces() {
        for (boolean isContent : new boolean[] {true, false}) {
            refuse("20 back 0 of none", BUSY, INDEX, net -> net.aside(2, 0, isContent));
            for (int back : new int[] {-1, 1, 9, 10, Integer.MIN_VALUE, Integer.MAX_VALUE}) {
                refuse("20 back " + back + " of one", WITH_ASIDE, INDEX, net -> net.aside(1, back, isContent));
            }
        }
        same("20 it has one aside", netIn(WITH_ASIDE).aside(1, 0, true), 9);
    }
}
