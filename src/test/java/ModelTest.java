import java.util.Random;

/** Runs of calls by chance (always the same ones), each answer held against the plain model's. */
final class ModelTest extends Check {
    private static final int RUNS = 400;
    private static final int CALLS = 500;

    public static void main(String[] args) {
        for (int run = 0; run < RUNS; run++) {
            new ModelTest(run).play();
        }
        close("ModelTest");
    }

    private final IronbridgeCache net = new IronbridgeCache();
    private final Model model = new Model();
    private final Random random;
    private final int run;
    // Few files bring many conflicts; many bring many that go for want of room.
    private final int files;
    private final int mostTicks;

    private ModelTest(int run) {
        this.run = run;
        random = new Random(run);
        files = 1 + random.nextInt(12);
        mostTicks = 1 + random.nextInt(run % 5 == 0 ? 60 : 6);
    }

    private void play() {
        for (int call = 0; call < CALLS; call++) {
            if (model.clients.isEmpty() || (model.clients.size() < 4 && random.nextInt(20) == 0)) {
                join();
            }
            change(call);
            if (call % 25 == 24) {
                ask(call);
            }
        }
        ask(CALLS);
    }

    private void join() {
        Model.Client client = new Model.Client();
        client.delay = 1 + random.nextInt(8);
        client.habit = random.nextInt(3);
        model.clients.add(client);
        due("addClient", net.addClient(client.delay, client.habit), model.clients.size() - 1);
    }

    private void change(int call) {
        int client = random.nextInt(model.clients.size());
        int file = random.nextInt(files);
        switch (random.nextInt(12)) {
            case 0, 1, 2:
                int held = model.has(client, file, 0);
                due("read", net.read(client, file), model.use(client, file) ? held : -1);
                break;
            case 3, 4, 5:
                int content = random.nextInt(4);
                due("write", net.write(client, file, content) ? 1 : 0, model.write(client, file, content) ? 1 : 0);
                break;
            case 6:
                due("flush", net.flush(client), model.flush(client, 0));
                break;
            case 7:
                boolean isCut = random.nextInt(3) == 0;
                due("cut", net.cut(client, isCut), model.cut(client, isCut));
                break;
            case 8:
                set();
                break;
            default:
                tick();
                break;
        }
        due("stale at " + call, net.stale(), model.stale());
    }

    private void tick() {
        int ticks = 1 + random.nextInt(mostTicks);
        for (int i = 0; i < ticks; i++) {
            model.tick();
        }
        due("tick", net.tick(ticks), model.way.size());
    }

    private void set() {
        if (random.nextBoolean()) {
            int before = model.room;
            model.room = 2 + random.nextInt(5);
            due("setRoom", net.setRoom(model.room), before);
            return;
        }
        int before = model.term;
        model.term = 1 + random.nextInt(random.nextBoolean() ? 60 : 8);
        model.lag = random.nextInt(21);
        due("setTerm", net.setTerm(model.term, model.lag), before);
    }

    private void ask(int call) {
        due("clock", net.clock(), model.clock);
        due("clients", net.clients(), model.clients.size());
        due("onTheWay", net.onTheWay(), model.way.size());
        for (int file = 0; file < 12; file++) {
            askServer(file);
        }
        for (int client = 0; client < model.clients.size(); client++) {
            askClient(client);
        }
        for (int place = 0; place < model.way.size(); place++) {
            Model.Thing thing = model.way.get(place);
            due("way client", net.way(place, 0), thing.client());
            due("way kind", net.way(place, 1), thing.kind().ordinal());
            due("way file", net.way(place, 2), thing.file());
            due("way comes", net.way(place, 3), thing.comes());
        }
        askWhatWouldBe(1 + random.nextInt(100));
    }

    private void askServer(int file) {
        for (int what = 0; what < 4; what++) {
            due("server", net.server(file, what), model.server(file, what));
        }
        for (int client = 0; client < model.clients.size(); client++) {
            due("lease", net.lease(file, client), model.leased(file, client) ? model.leases[file][client] : -1);
        }
        int place = 0;
        for (Model.Thing request : model.rows.get(file)) {
            due("request client", net.request(file, place, 0), request.client());
            due("request kind", net.request(file, place, 1), request.kind().ordinal());
            due("request content", net.request(file, place, 2), request.content());
            due("request base", net.request(file, place, 3), request.version());
            place++;
        }
    }

    private void askClient(int client) {
        Model.Client asked = model.clients.get(client);
        for (int file = 0; file < 12; file++) {
            for (int what = 0; what < 6; what++) {
                due("has " + what, net.has(client, file, what), model.has(client, file, what));
            }
        }
        for (int what = 0; what < 7; what++) {
            due("told " + what, net.told(client, what), model.told(client, what));
        }
        for (int place = 0; place < asked.used.size(); place++) {
            due("used", net.used(client, place), asked.used.get(place));
        }
        for (int back = 0; back < asked.aside.size(); back++) {
            due("aside file", net.aside(client, back, false), asked.aside.get(back)[0]);
            due("aside content", net.aside(client, back, true), asked.aside.get(back)[1]);
        }
        failsIndex("aside of too many", net, () -> net.aside(client, asked.aside.size(), true));
        int all = asked.counts[Model.HITS] + asked.counts[Model.MISSES];
        sameDouble("luck", net.luck(client), all == 0 ? 0 : asked.counts[Model.HITS] / (double) all);
    }

    private void askWhatWouldBe(int ticks) {
        long before = net.digest();
        due("calmIn", net.calmIn(ticks), model.calmIn(ticks));
        for (int file = 0; file < 12; file++) {
            due("contentIn", net.contentIn(file, ticks), model.contentIn(file, ticks));
        }
        for (int client = 0; client < model.clients.size(); client++) {
            due("conflictsIn", net.conflictsIn(client, ticks), model.conflictsIn(client, ticks));
        }
        due("digest", net.digest(), before);
        due("digest of all", before, digestOf(net));
    }

    private void due(String what, long got, long due) {
        same("run " + run + ": " + what, got, due);
    }
}
