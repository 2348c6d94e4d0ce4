import java.util.LinkedList;
import java.util.Random;

/** Runs of calls by chance (always the same ones), each answer held against the plain model's. */
final class ModelTest extends Check {
    private static final int RUNS = 1500;
    // What an object answers after so many calls is free.
    private static final int MOST_CALLS = 512;
    // A step asks for no more than this: a change, the digest, and one question of up to four calls.
    private static final int CALLS_OF_A_STEP = 6;

    public static void main(String[] args) {
        for (int run = 0; run < RUNS; run++) {
            new ModelTest(run).play();
        }
        close("ModelTest");
    }

    private final IronbridgeCache net = new IronbridgeCache();
    private final Model model = new Model();
    private final Random random;
    private final int run;
    // Few files bring many conflicts; many bring many that go for want of room.
    private final int files;
    private final int mostTicks;
    private final int mostDelay;
    private final int clients;
    private int calls;

    private ModelTest(int run) {
        this.run = run;
        random = new Random(run);
        files = 1 + random.nextInt(12);
        mostTicks = 1 + random.nextInt(run % 5 == 0 ? 60 : 6);
        mostDelay = 1 + random.nextInt(8);
        clients = 1 + random.nextInt(4);
    }

    private void play() {
        join();
        while (calls <= MOST_CALLS - CALLS_OF_A_STEP) {
            if (model.clients.size() < clients && random.nextInt(4) == 0) {
                join();
            } else {
                change();
            }
            due("digest", net.digest(), model.digest());
            ask();
        }
    }

    // ---- what changes something

    private void join() {
        Model.Client client = new Model.Client();
        client.delay = 1 + random.nextInt(mostDelay);
        client.habit = random.nextInt(3);
        model.clients.add(client);
        due("addClient", net.addClient(client.delay, client.habit), model.clients.size() - 1);
    }

    private void change() {
        int client = random.nextInt(model.clients.size());
        int file = random.nextInt(files);
        switch (random.nextInt(12)) {
            case 0, 1, 2:
                int held = model.has(client, file, 0);
                due("read", net.read(client, file), model.use(client, file) ? held : -1);
                break;
            case 3, 4, 5:
                int content = random.nextInt(4);
                due("write", net.write(client, file, content) ? 1 : 0, model.write(client, file, content) ? 1 : 0);
                break;
            case 6:
                due("flush", net.flush(client), model.flush(client, 0));
                break;
            case 7:
                boolean isCut = random.nextInt(3) == 0;
                due("cut", net.cut(client, isCut), model.cut(client, isCut));
                break;
            case 8:
                set();
                break;
            default:
                tick();
                break;
        }
    }

    private void tick() {
        int ticks = 1 + random.nextInt(mostTicks);
        for (int i = 0; i < ticks; i++) {
            model.tick();
        }
        due("tick", net.tick(ticks), model.way.size());
    }

    private void set() {
        if (random.nextBoolean()) {
            int before = model.room;
            model.room = 2 + random.nextInt(5);
            due("setRoom", net.setRoom(model.room), before);
            return;
        }
        int before = model.term;
        model.term = 1 + random.nextInt(random.nextBoolean() ? 60 : 8);
        model.lag = random.nextInt(21);
        due("setTerm", net.setTerm(model.term, model.lag), before);
    }

    // ---- what the digest does not tell

    private void ask() {
        int client = random.nextInt(model.clients.size());
        int file = random.nextInt(files);
        int ticks = 1 + random.nextInt(random.nextBoolean() ? 100 : 12);
        switch (random.nextInt(7)) {
            case 0:
                due("lease", net.lease(file, client), model.leased(file, client) ? model.leases[file][client] : -1);
                break;
            case 1:
                askRequest(file);
                break;
            case 2:
                askAside(client);
                break;
            case 3:
                askLuck(client);
                break;
            case 4:
                due("calmIn", net.calmIn(ticks), model.calmIn(ticks));
                break;
            case 5:
                due("contentIn", net.contentIn(file, ticks), model.contentIn(file, ticks));
                break;
            default:
                due("conflictsIn", net.conflictsIn(client, ticks), model.conflictsIn(client, ticks));
                break;
        }
    }

    private void askRequest(int file) {
        LinkedList<Model.Thing> row = model.rows.get(file);
        if (row.isEmpty()) {
            return;
        }
        int place = random.nextInt(row.size());
        Model.Thing request = row.get(place);
        due("request client", net.request(file, place, 0), request.client());
        due("request kind", net.request(file, place, 1), request.kind().ordinal());
        due("request content", net.request(file, place, 2), request.content());
        due("request base", net.request(file, place, 3), request.version());
    }

    private void askAside(int client) {
        Model.Client asked = model.clients.get(client);
        if (asked.aside.isEmpty()) {
            return;
        }
        int back = random.nextInt(asked.aside.size());
        due("aside file", net.aside(client, back, false), asked.aside.get(back)[0]);
        due("aside content", net.aside(client, back, true), asked.aside.get(back)[1]);
    }

    private void askLuck(int client) {
        int[] counts = model.clients.get(client).counts;
        int all = counts[Model.HITS] + counts[Model.MISSES];
        calls++;
        sameDouble("luck", net.luck(client), all == 0 ? 0 : counts[Model.HITS] / (double) all);
    }

    /** Each answer is that of one call. */
    private void due(String what, long got, long due) {
        calls++;
        same("run " + run + ": " + what, got, due);
    }
}
