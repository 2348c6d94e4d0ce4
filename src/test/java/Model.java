import java.util.ArrayList;
import java.util.Comparator;
import java.util.LinkedList;
import java.util.List;

/** The document once more, written for plainness alone; ModelTest holds the class against it. */
final class Model {
    enum Kind { FETCH, STORE, ACK, GIVE, STORED, CLASH, CALL }

    /** What is on its way, or a request in a row. */
    record Thing(int client, Kind kind, int file, int comes, int content, int version, int until, boolean cut) {
    }

    static final class Copy {
        int content;
        int version;
        int until = -1;
        int dirtySince = -1;

        boolean dirty() {
            return dirtySince >= 0;
        }
    }

    static final class Client {
        int delay;
        int habit;
        boolean cut;
        Copy[] copies = new Copy[12];
        boolean[] asks = new boolean[12];
        boolean[] sends = new boolean[12];
        List<Integer> used = new ArrayList<>();
        List<int[]> aside = new ArrayList<>();
        int[] counts = new int[6];
    }

    static final int HITS = 1;
    static final int MISSES = 2;
    static final int CONFLICTS = 3;
    static final int CALLS = 4;
    static final int LOST = 5;

    int clock;
    int term = 20;
    int lag = 5;
    int room = 4;
    List<Client> clients = new ArrayList<>();
    int[] content = new int[12];
    int[] version = new int[12];
    int[][] leases = new int[12][4];
    List<LinkedList<Thing>> rows = new ArrayList<>();
    boolean[] seen = new boolean[12];
    List<Thing> way = new ArrayList<>();

    Model() {
        for (int file = 0; file < 12; file++) {
            rows.add(new LinkedList<>());
        }
    }

    Model copy() {
        Model other = new Model();
        other.clock = clock;
        other.term = term;
        other.lag = lag;
        other.room = room;
        for (Client client : clients) {
            other.clients.add(copyOf(client));
        }
        other.content = content.clone();
        other.version = version.clone();
        for (int file = 0; file < 12; file++) {
            other.leases[file] = leases[file].clone();
            other.rows.set(file, new LinkedList<>(rows.get(file)));
        }
        other.seen = seen.clone();
        other.way = new ArrayList<>(way);
        return other;
    }

    private static Client copyOf(Client from) {
        Client to = new Client();
        to.delay = from.delay;
        to.habit = from.habit;
        to.cut = from.cut;
        for (int file = 0; file < 12; file++) {
            if (from.copies[file] != null) {
                to.copies[file] = new Copy();
                to.copies[file].content = from.copies[file].content;
                to.copies[file].version = from.copies[file].version;
                to.copies[file].until = from.copies[file].until;
                to.copies[file].dirtySince = from.copies[file].dirtySince;
            }
        }
        to.asks = from.asks.clone();
        to.sends = from.sends.clone();
        to.used = new ArrayList<>(from.used);
        to.aside = new ArrayList<>(from.aside);
        to.counts = from.counts.clone();
        return to;
    }

    void send(int client, Kind kind, int file, int content, int version, int until) {
        Client end = clients.get(client);
        way.add(new Thing(client, kind, file, clock + end.delay, content, version, until, end.cut));
        way.sort(Comparator.comparingInt(Thing::comes));
    }

    boolean trusts(int client, int file) {
        Client asked = clients.get(client);
        Copy copy = asked.copies[file];
        return copy != null && (copy.dirty() || copy.until > clock || asked.cut);
    }

    boolean leased(int file, int client) {
        return leases[file][client] > clock;
    }

    int cut(int number, boolean isCut) {
        Client client = clients.get(number);
        if (client.cut == isCut) {
            return 0;
        }
        client.cut = isCut;
        if (isCut) {
            client.asks = new boolean[12];
            client.sends = new boolean[12];
            return 0;
        }
        List<Integer> dirty = new ArrayList<>();
        for (int file = 0; file < 12; file++) {
            Copy copy = client.copies[file];
            if (copy != null) {
                copy.until = -1;
                if (copy.dirty()) {
                    dirty.add(file);
                }
            }
        }
        dirty.sort(Comparator.comparingInt((Integer file) -> client.copies[file].dirtySince));
        for (int file : dirty) {
            store(number, file);
        }
        return dirty.size();
    }

    void store(int number, int file) {
        Client client = clients.get(number);
        client.sends[file] = true;
        send(number, Kind.STORE, file, client.copies[file].content, client.copies[file].version, 0);
    }

    boolean use(int number, int file) {
        Client client = clients.get(number);
        if (trusts(number, file)) {
            client.counts[HITS]++;
            client.used.remove((Integer) file);
            client.used.add(0, file);
            return true;
        }
        client.counts[MISSES]++;
        if (!client.cut && !client.asks[file]) {
            client.asks[file] = true;
            send(number, Kind.FETCH, file, 0, 0, 0);
        }
        return false;
    }

    boolean write(int number, int file, int written) {
        if (!use(number, file)) {
            return false;
        }
        Copy copy = clients.get(number).copies[file];
        copy.content = written;
        if (!copy.dirty()) {
            copy.dirtySince = clock;
        }
        return true;
    }

    int flush(int number, int age) {
        Client client = clients.get(number);
        int sent = 0;
        for (int file = 0; file < 12 && !client.cut; file++) {
            Copy copy = client.copies[file];
            if (copy != null && copy.dirty() && !client.sends[file] && copy.dirtySince + age <= clock) {
                store(number, file);
                sent++;
            }
        }
        return sent;
    }

    void tick() {
        clock++;
        while (!way.isEmpty() && way.get(0).comes() == clock) {
            come(way.remove(0));
        }
        for (int file = 0; file < 12; file++) {
            look(file);
        }
        for (int client = 0; client < clients.size(); client++) {
            flush(client, lag);
        }
    }

    private void come(Thing thing) {
        Client client = clients.get(thing.client());
        if (client.cut || thing.cut()) {
            client.counts[LOST]++;
            return;
        }
        switch (thing.kind()) {
            case FETCH, STORE -> {
                rows.get(thing.file()).add(thing);
                if (rows.get(thing.file()).size() == 1) {
                    look(thing.file());
                }
            }
            case ACK -> {
                leases[thing.file()][thing.client()] = 0;
                look(thing.file());
            }
            case GIVE -> give(client, thing);
            case STORED -> {
                client.sends[thing.file()] = false;
                Copy copy = client.copies[thing.file()];
                if (copy != null) {
                    copy.version = thing.version();
                    copy.until = thing.until();
                    copy.dirtySince = copy.content == thing.content() ? -1 : copy.dirtySince;
                }
            }
            case CLASH -> clash(client, thing);
            case CALL -> {
                client.counts[CALLS]++;
                Copy copy = client.copies[thing.file()];
                if (copy != null && copy.dirty()) {
                    copy.until = -1;
                } else {
                    drop(client, thing.file());
                }
                send(thing.client(), Kind.ACK, thing.file(), 0, 0, 0);
            }
        }
    }

    private static void drop(Client client, int file) {
        client.copies[file] = null;
        client.used.remove((Integer) file);
    }

    private void give(Client client, Thing thing) {
        int file = thing.file();
        client.asks[file] = false;
        Copy copy = client.copies[file];
        if (copy != null && copy.dirty()) {
            return;
        }
        if (copy == null) {
            while (client.used.size() + 1 > room) {
                int oldest = -1;
                for (int candidate : client.used) {
                    oldest = client.copies[candidate].dirty() ? oldest : candidate;
                }
                if (oldest < 0) {
                    return;
                }
                drop(client, oldest);
            }
            copy = new Copy();
            client.copies[file] = copy;
        }
        copy.content = thing.content();
        copy.version = thing.version();
        copy.until = thing.until();
        client.used.remove((Integer) file);
        client.used.add(0, file);
    }

    private void clash(Client client, Thing thing) {
        int file = thing.file();
        client.sends[file] = false;
        client.counts[CONFLICTS]++;
        Copy copy = client.copies[file];
        if (copy == null) {
            return;
        }
        if (client.habit == 1) {
            copy.version = thing.version();
            store(thing.client(), file);
            return;
        }
        if (client.habit == 2) {
            client.aside.add(0, new int[] {file, copy.content});
            if (client.aside.size() > 10) {
                client.aside.remove(10);
            }
        }
        copy.content = thing.content();
        copy.version = thing.version();
        copy.until = -1;
        copy.dirtySince = -1;
    }

    private void look(int file) {
        LinkedList<Thing> row = rows.get(file);
        while (!row.isEmpty()) {
            Thing first = row.getFirst();
            boolean free = true;
            for (int other = 0; other < clients.size() && first.kind() == Kind.STORE; other++) {
                if (other != first.client() && leased(file, other)) {
                    free = false;
                    if (!seen[file]) {
                        send(other, Kind.CALL, file, 0, 0, 0);
                    }
                }
            }
            seen[file] = !free;
            if (!free) {
                return;
            }
            row.removeFirst();
            finish(first);
        }
    }

    private void finish(Thing first) {
        int file = first.file();
        if (first.kind() == Kind.STORE && first.version() != version[file]) {
            send(first.client(), Kind.CLASH, file, content[file], version[file], 0);
            return;
        }
        leases[file][first.client()] = clock + term;
        if (first.kind() == Kind.STORE) {
            content[file] = first.content();
            version[file]++;
        }
        Kind answer = first.kind() == Kind.STORE ? Kind.STORED : Kind.GIVE;
        send(first.client(), answer, file, content[file], version[file], clock + term);
    }

    int server(int file, int what) {
        int set = 0;
        for (int client = 0; client < 4; client++) {
            set += leased(file, client) ? 1 << client : 0;
        }
        return new int[] {content[file], version[file], rows.get(file).size(), set}[what];
    }

    int has(int number, int file, int what) {
        Client client = clients.get(number);
        Copy copy = client.copies[file];
        int flags = (client.asks[file] ? 1 : 0) + (client.sends[file] ? 2 : 0);
        if (copy == null) {
            return new int[] {-1, -1, 0, -1, 0, flags}[what];
        }
        return new int[] {copy.content, copy.version, copy.dirty() ? 1 : 0,
            copy.until > clock ? copy.until : -1, trusts(number, file) ? 1 : 0, flags}[what];
    }

    int told(int number, int what) {
        Client client = clients.get(number);
        if (what == 0) {
            return client.used.size();
        }
        return what == 6 ? (client.cut ? 1 : 0) : client.counts[what];
    }

    int stale() {
        int pairs = 0;
        for (int client = 0; client < clients.size(); client++) {
            for (int file = 0; file < 12; file++) {
                boolean counts = trusts(client, file) && has(client, file, 2) == 0;
                pairs += counts && has(client, file, 1) != version[file] ? 1 : 0;
            }
        }
        return pairs;
    }

    boolean calm() {
        boolean calm = way.isEmpty();
        for (LinkedList<Thing> row : rows) {
            calm &= row.isEmpty();
        }
        for (Client client : clients) {
            for (Copy copy : client.copies) {
                calm &= client.cut || copy == null || !copy.dirty();
            }
        }
        return calm;
    }

    int calmIn(int ticks) {
        Model trial = copy();
        for (int gone = 0; gone <= ticks; gone++) {
            if (trial.calm()) {
                return gone;
            }
            trial.tick();
        }
        return -1;
    }

    int contentIn(int file, int ticks) {
        Model trial = copy();
        for (int i = 0; i < ticks; i++) {
            trial.tick();
        }
        return trial.content[file];
    }

    int conflictsIn(int client, int ticks) {
        Model trial = copy();
        trial.cut(client, false);
        for (int i = 0; i < ticks; i++) {
            trial.tick();
        }
        return trial.told(client, CONFLICTS) - told(client, CONFLICTS);
    }

    long digest() {
        List<Integer> numbers = new ArrayList<>(List.of(clock, clients.size(), way.size(), stale()));
        for (int file = 0; file < 12; file++) {
            for (int what = 0; what < 4; what++) {
                numbers.add(server(file, what));
            }
        }
        for (int client = 0; client < clients.size(); client++) {
            for (int what = 0; what < 7; what++) {
                numbers.add(told(client, what));
            }
            numbers.addAll(clients.get(client).used);
            for (int file = 0; file < 12; file++) {
                for (int what = 0; what < 6; what++) {
                    numbers.add(has(client, file, what));
                }
            }
        }
        for (Thing thing : way) {
            numbers.addAll(List.of(thing.client(), thing.kind().ordinal(), thing.file(), thing.comes()));
        }
        return Check.wrapped(numbers);
    }
}
