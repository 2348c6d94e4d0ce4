/** A network of files that are cached: one server, and up to four clients that keep files of it. */
public final class IronbridgeCache {
    private static final int FILES = 12;
    private static final int MOST_CLIENTS = 4;
    private static final int MOST_DELAY = 8;
    private static final int MOST_TERM = 60;
    private static final int MOST_LAG = 20;
    private static final int LEAST_ROOM = 2;
    private static final int MOST_ROOM = 6;
    private static final int MOST_CONTENT = 9999;
    private static final int MOST_TICKS = 60;
    private static final int MOST_TICKS_AHEAD = 100;
    private static final int MOST_ASIDE = 10;
    private static final int NONE = -1;
    private static final long DIGEST_START = 58077L;

    private static final int FETCH = 0;
    private static final int STORE = 1;
    private static final int ACK = 2;
    private static final int GIVE = 3;
    private static final int STORED = 4;
    private static final int CLASH = 5;
    private static final int CALL = 6;

    private static final int OURS = 1;
    private static final int BOTH = 2;

    // The columns of a thing on its way: 0 to 3 are numbered as way() asks for them.
    private static final int THING_CLIENT = 0;
    private static final int THING_KIND = 1;
    private static final int THING_FILE = 2;
    private static final int THING_COMES = 3;
    private static final int THING_CONTENT = 4;
    private static final int THING_VERSION = 5;
    private static final int THING_UNTIL = 6;
    private static final int THING_LOST = 7;
    private static final int THING_WIDTH = 8;

    // The columns of a request, numbered as request() asks for them.
    private static final int REQUEST_CLIENT = 0;
    private static final int REQUEST_KIND = 1;
    private static final int REQUEST_CONTENT = 2;
    private static final int REQUEST_BASE = 3;
    private static final int REQUEST_WIDTH = 4;

    private static final int ASIDE_FILE = 0;
    private static final int ASIDE_CONTENT = 1;
    private static final int ASIDE_WIDTH = 2;

    private final Net net;
    // What would be is played here, again and again, so that no question makes a net of its own.
    private final Net trial;

    public IronbridgeCache() {
        net = new Net();
        trial = new Net();
    }

    // ---- what is set

    public int addClient(int delay, int habit) throws IllegalArgumentException, IllegalStateException {
        if (delay < 1 || delay > MOST_DELAY || habit < 0 || habit > BOTH) {
            throw new IllegalArgumentException("delay is 1 to 8, habit 0 to 2");
        }
        if (net.clientCount >= MOST_CLIENTS) {
            throw new IllegalStateException("there are 4 clients");
        }
        return net.join(delay, habit);
    }

    public int setTerm(int term, int lag) throws IllegalArgumentException {
        if (term < 1 || term > MOST_TERM || lag < 0 || lag > MOST_LAG) {
            throw new IllegalArgumentException("term is 1 to 60, lag 0 to 20");
        }
        int before = net.term;
        net.term = term;
        net.lag = lag;
        return before;
    }

    public int setRoom(int room) throws IllegalArgumentException {
        if (room < LEAST_ROOM || room > MOST_ROOM) {
            throw new IllegalArgumentException("room is 2 to 6");
        }
        int before = net.room;
        net.room = room;
        return before;
    }

    public int cut(int client, boolean isCut) throws IndexOutOfBoundsException {
        checkClient(client);
        if (!isCut) {
            return net.mendLine(client);
        }
        net.clients[client].cutLine();
        return 0;
    }

    // ---- reading, writing, time

    public int read(int client, int file) throws IndexOutOfBoundsException {
        checkClient(client);
        checkFile(file);
        return net.reach(client, file) ? net.clients[client].files[file].content : NONE;
    }

    public boolean write(int client, int file, int content)
            throws IndexOutOfBoundsException, IllegalArgumentException {
        checkClient(client);
        checkFile(file);
        if (content < 0 || content > MOST_CONTENT) {
            throw new IllegalArgumentException("content is 0 to 9999");
        }
        if (!net.reach(client, file)) {
            return false;
        }
        net.clients[client].files[file].putContent(content, net.clock);
        return true;
    }

    public int flush(int client) throws IndexOutOfBoundsException {
        checkClient(client);
        return net.sendDirty(client, 0);
    }

    public int tick(int ticks) throws IllegalArgumentException {
        checkTicks(ticks, MOST_TICKS);
        for (int i = 0; i < ticks; i++) {
            net.passTick();
        }
        return net.thingCount();
    }

    public int clock() {
        return net.clock;
    }

    // ---- the server, asked

    public int clients() {
        return net.clientCount;
    }

    public int server(int file, int what) throws IndexOutOfBoundsException, IllegalArgumentException {
        checkFile(file);
        checkWhat(what, 3);
        return net.shelves[file].tell(what, net.clock);
    }

    public int lease(int file, int client) throws IndexOutOfBoundsException {
        checkFile(file);
        checkClient(client);
        Shelf shelf = net.shelves[file];
        return shelf.isLeased(client, net.clock) ? shelf.until[client] : NONE;
    }

    public int request(int file, int place, int what)
            throws IndexOutOfBoundsException, IllegalArgumentException {
        checkFile(file);
        Table requests = net.shelves[file].requests;
        checkPlace(place, requests.rows);
        checkWhat(what, 3);
        return requests.get(place, what);
    }

    public int onTheWay() {
        return net.thingCount();
    }

    public int way(int place, int what) throws IndexOutOfBoundsException, IllegalArgumentException {
        checkPlace(place, net.thingCount());
        checkWhat(what, 3);
        return net.tellThing(place, what);
    }

    // ---- clients, asked

    public int has(int client, int file, int what)
            throws IndexOutOfBoundsException, IllegalArgumentException {
        checkClient(client);
        checkFile(file);
        checkWhat(what, 5);
        Client asked = net.clients[client];
        return asked.files[file].tell(what, net.clock, asked.isCut);
    }

    public int used(int client, int place) throws IndexOutOfBoundsException {
        checkClient(client);
        Client asked = net.clients[client];
        checkPlace(place, asked.count);
        return asked.order[place];
    }

    public int told(int client, int what) throws IndexOutOfBoundsException, IllegalArgumentException {
        checkClient(client);
        checkWhat(what, 6);
        return net.clients[client].tell(what);
    }

    public int aside(int client, int back, boolean isContent) throws IndexOutOfBoundsException {
        checkClient(client);
        Table kept = net.clients[client].kept;
        checkPlace(back, kept.rows);
        return kept.get(kept.rows - 1 - back, isContent ? ASIDE_CONTENT : ASIDE_FILE);
    }

    public double luck(int client) throws IndexOutOfBoundsException {
        checkClient(client);
        Client asked = net.clients[client];
        int all = asked.hits + asked.misses;
        return all == 0 ? 0.0 : (double) asked.hits / all;
    }

    // ---- what would be (nothing is changed)

    public int stale() {
        return net.staleCount();
    }

    public int calmIn(int ticks) throws IllegalArgumentException {
        checkTicks(ticks, MOST_TICKS_AHEAD);
        trial.copyFrom(net);
        int gone = 0;
        while (gone < ticks && !trial.isCalm()) {
            trial.passTick();
            gone++;
        }
        return trial.isCalm() ? gone : NONE;
    }

    public int contentIn(int file, int ticks) throws IndexOutOfBoundsException, IllegalArgumentException {
        checkFile(file);
        checkTicks(ticks, MOST_TICKS_AHEAD);
        trial.copyFrom(net);
        for (int i = 0; i < ticks; i++) {
            trial.passTick();
        }
        return trial.shelves[file].content;
    }

    public int conflictsIn(int client, int ticks) throws IndexOutOfBoundsException, IllegalArgumentException {
        checkClient(client);
        checkTicks(ticks, MOST_TICKS_AHEAD);
        trial.copyFrom(net);
        trial.mendLine(client);
        for (int i = 0; i < ticks; i++) {
            trial.passTick();
        }
        return trial.clients[client].conflicts - net.clients[client].conflicts;
    }

    public long digest() {
        long d = DIGEST_START;
        d = d * 31 + net.clock;
        d = d * 31 + net.clientCount;
        d = d * 31 + net.thingCount();
        d = d * 31 + net.staleCount();
        for (int file = 0; file < FILES; file++) {
            for (int what = 0; what <= 3; what++) {
                d = d * 31 + net.shelves[file].tell(what, net.clock);
            }
        }
        for (int client = 0; client < net.clientCount; client++) {
            d = net.clients[client].addToDigest(d, net.clock);
        }
        return net.addThingsToDigest(d);
    }

    // ---- what is asked wrongly

    private void checkClient(int client) {
        if (!net.isClient(client)) {
            throw new IndexOutOfBoundsException("no such client");
        }
    }

    private static void checkFile(int file) {
        if (!isFile(file)) {
            throw new IndexOutOfBoundsException("no such file");
        }
    }

    private static void checkPlace(int place, int places) {
        if (place < 0 || place >= places) {
            throw new IndexOutOfBoundsException("no such place");
        }
    }

    private static void checkWhat(int what, int most) {
        if (what < 0 || what > most) {
            throw new IllegalArgumentException("no such question");
        }
    }

    private static void checkTicks(int ticks, int most) {
        if (ticks < 1 || ticks > most) {
            throw new IllegalArgumentException("too few or too many ticks");
        }
    }

    private static boolean isFile(int file) {
        return file >= 0 && file < FILES;
    }

    /** Rows of numbers, all of one width; its cells are used again, and grow if they must. */
    private static final class Table {
        private static final int ROWS_AT_FIRST = 8;
        // Far above what 512 calls can bring about: it only keeps later calls from eating all memory.
        private static final int MOST_ROWS = 65536;

        private final int width;
        private int[] cells;
        private int rows;

        Table(int width) {
            this.width = Math.max(width, 1);
            cells = new int[this.width * ROWS_AT_FIRST];
        }

        /** Adds a row whose numbers are still to be put; answers its place, or NONE if it is full. */
        int addRow() {
            if (rows >= MOST_ROWS) {
                return NONE;
            }
            int size = rows * width;
            if (size + width > cells.length) {
                int[] larger = new int[2 * (size + width)];
                System.arraycopy(cells, 0, larger, 0, size);
                cells = larger;
            }
            rows++;
            return rows - 1;
        }

        int get(int row, int column) {
            return isCell(row, column) ? cells[row * width + column] : 0;
        }

        void put(int row, int column, int number) {
            if (isCell(row, column)) {
                cells[row * width + column] = number;
            }
        }

        private boolean isCell(int row, int column) {
            return row >= 0 && row < rows && column >= 0 && column < width;
        }

        void dropFirst(int many) {
            if (many <= 0 || many > rows) {
                return;
            }
            System.arraycopy(cells, many * width, cells, 0, (rows - many) * width);
            rows -= many;
        }

        /** Both have the same width. */
        void copyFrom(Table other) {
            int size = other.rows * other.width;
            if (size > cells.length) {
                cells = new int[other.cells.length];
            }
            System.arraycopy(other.cells, 0, cells, 0, size);
            rows = other.rows;
        }
    }

    /** A file as a client knows it. */
    private static final class Held {
        private boolean isHeld;
        private int content;
        private int version;
        private int until = NONE;
        private boolean isDirty;
        private int dirtySince;
        private boolean asks;
        private boolean sends;

        boolean isTrusted(int clock, boolean isCut) {
            return isHeld && (isDirty || clock < until || isCut);
        }

        void putContent(int written, int clock) {
            content = written;
            if (!isDirty) {
                isDirty = true;
                dirtySince = clock;
            }
        }

        void beGiven(int givenContent, int givenVersion, int givenUntil) {
            isHeld = true;
            content = givenContent;
            version = givenVersion;
            until = givenUntil;
            isDirty = false;
        }

        void beStored(int storedContent, int storedVersion, int storedUntil) {
            sends = false;
            if (!isHeld) {
                return;
            }
            version = storedVersion;
            until = storedUntil;
            if (content == storedContent) {
                isDirty = false;
            }
        }

        int tell(int what, int clock, boolean isCut) {
            switch (what) {
                case 0:
                    return isHeld ? content : NONE;
                case 1:
                    return isHeld ? version : NONE;
                case 2:
                    return isDirty ? 1 : 0;
                case 3:
                    return isHeld && clock < until ? until : NONE;
                case 4:
                    return isTrusted(clock, isCut) ? 1 : 0;
                default:
                    return (asks ? 1 : 0) + (sends ? 2 : 0);
            }
        }

        void copyFrom(Held other) {
            isHeld = other.isHeld;
            content = other.content;
            version = other.version;
            until = other.until;
            isDirty = other.isDirty;
            dirtySince = other.dirtySince;
            asks = other.asks;
            sends = other.sends;
        }
    }

    /** A client with the files that it has. */
    private static final class Client {
        private final Held[] files = new Held[FILES];
        // The files that it has, the one used last first.
        private final int[] order = new int[FILES];
        private int count;
        private final Table kept = new Table(ASIDE_WIDTH);
        private int delay = 1;
        private int habit;
        private boolean isCut;
        private int hits;
        private int misses;
        private int conflicts;
        private int calls;
        private int lost;

        Client() {
            for (int file = 0; file < FILES; file++) {
                files[file] = new Held();
            }
        }

        void cutLine() {
            isCut = true;
            for (int file = 0; file < FILES; file++) {
                files[file].asks = false;
                files[file].sends = false;
            }
        }

        void endLeases() {
            for (int file = 0; file < FILES; file++) {
                files[file].until = NONE;
            }
        }

        /** Brings a file to the front of the order, whether it stood there or not. */
        void use(int file) {
            int place = placeOf(file);
            if (place == NONE) {
                if (count >= FILES) {
                    return;
                }
                place = count;
                count++;
            }
            for (int i = place; i > 0; i--) {
                order[i] = order[i - 1];
            }
            order[0] = file;
        }

        private int placeOf(int file) {
            for (int i = 0; i < count; i++) {
                if (order[i] == file) {
                    return i;
                }
            }
            return NONE;
        }

        void letGo(int file) {
            int place = placeOf(file);
            if (place == NONE) {
                return;
            }
            count--;
            for (int i = place; i < count; i++) {
                order[i] = order[i + 1];
            }
            files[file].isHeld = false;
            files[file].until = NONE;
        }

        void takeGiven(int file, int content, int version, int until, int room) {
            Held held = files[file];
            held.asks = false;
            if (held.isDirty || (!held.isHeld && !makesRoom(room))) {
                return;
            }
            held.beGiven(content, version, until);
            use(file);
        }

        /** Whether one more finds room, now that clean files went for it. */
        private boolean makesRoom(int room) {
            for (int place = count - 1; place >= 0 && count >= room; place--) {
                int file = order[place];
                if (!files[file].isDirty) {
                    letGo(file);
                }
            }
            return count < room;
        }

        void takeCall(int file) {
            calls++;
            if (files[file].isDirty) {
                files[file].until = NONE;
            } else {
                letGo(file);
            }
        }

        /** Answers whether the file is to be sent again. */
        boolean takeClash(int file, int content, int version) {
            Held held = files[file];
            held.sends = false;
            conflicts++;
            if (!held.isHeld) {
                return false;
            }
            if (habit == OURS) {
                held.version = version;
                return true;
            }
            if (habit == BOTH) {
                keepAside(file, held.content);
            }
            held.beGiven(content, version, NONE);
            return false;
        }

        private void keepAside(int file, int content) {
            if (kept.rows >= MOST_ASIDE) {
                kept.dropFirst(1);
            }
            int row = kept.addRow();
            kept.put(row, ASIDE_FILE, file);
            kept.put(row, ASIDE_CONTENT, content);
        }

        /** The file, dirty and not being sent, that is dirty for the longest time; NONE without one. */
        int longestDirty() {
            int found = NONE;
            for (int file = FILES - 1; file >= 0; file--) {
                Held held = files[file];
                if (held.isDirty && !held.sends
                        && (found == NONE || held.dirtySince <= files[found].dirtySince)) {
                    found = file;
                }
            }
            return found;
        }

        boolean isClean() {
            for (int file = 0; file < FILES; file++) {
                if (files[file].isDirty) {
                    return false;
                }
            }
            return true;
        }

        int tell(int what) {
            switch (what) {
                case 0:
                    return count;
                case 1:
                    return hits;
                case 2:
                    return misses;
                case 3:
                    return conflicts;
                case 4:
                    return calls;
                case 5:
                    return lost;
                default:
                    return isCut ? 1 : 0;
            }
        }

        long addToDigest(long start, int clock) {
            long d = start;
            for (int what = 0; what <= 6; what++) {
                d = d * 31 + tell(what);
            }
            for (int place = 0; place < count; place++) {
                d = d * 31 + order[place];
            }
            for (int file = 0; file < FILES; file++) {
                for (int what = 0; what <= 5; what++) {
                    d = d * 31 + files[file].tell(what, clock, isCut);
                }
            }
            return d;
        }

        void copyFrom(Client other) {
            for (int file = 0; file < FILES; file++) {
                files[file].copyFrom(other.files[file]);
                order[file] = other.order[file];
            }
            count = other.count;
            kept.copyFrom(other.kept);
            delay = other.delay;
            habit = other.habit;
            isCut = other.isCut;
            hits = other.hits;
            misses = other.misses;
            conflicts = other.conflicts;
            calls = other.calls;
            lost = other.lost;
        }
    }

    /** A file as the server keeps it, with its leases and its row of requests. */
    private static final class Shelf {
        private int content;
        private int version;
        private final int[] until = new int[MOST_CLIENTS];
        private final Table requests = new Table(REQUEST_WIDTH);
        // Whether the first request was looked at before: its calls are sent only once.
        private boolean isFirstSeen;

        boolean isLeased(int client, int clock) {
            return clock < until[client];
        }

        /** Whether the request is a store, and another client still has a lease. */
        boolean hasToWait(int place, int clock) {
            if (requests.get(place, REQUEST_KIND) == FETCH) {
                return false;
            }
            int client = requests.get(place, REQUEST_CLIENT);
            for (int other = 0; other < MOST_CLIENTS; other++) {
                if (other != client && isLeased(other, clock)) {
                    return true;
                }
            }
            return false;
        }

        /** Answers the place of the request in the row. */
        int addRequest(int client, int kind, int stored, int base) {
            int row = requests.addRow();
            requests.put(row, REQUEST_CLIENT, client);
            requests.put(row, REQUEST_KIND, kind);
            requests.put(row, REQUEST_CONTENT, stored);
            requests.put(row, REQUEST_BASE, base);
            return row;
        }

        private int leasedSet(int clock) {
            int set = 0;
            for (int client = 0; client < MOST_CLIENTS; client++) {
                if (isLeased(client, clock)) {
                    set |= 1 << client;
                }
            }
            return set;
        }

        int tell(int what, int clock) {
            switch (what) {
                case 0:
                    return content;
                case 1:
                    return version;
                case 2:
                    return requests.rows;
                default:
                    return leasedSet(clock);
            }
        }

        void copyFrom(Shelf other) {
            content = other.content;
            version = other.version;
            for (int client = 0; client < MOST_CLIENTS; client++) {
                until[client] = other.until[client];
            }
            requests.copyFrom(other.requests);
            isFirstSeen = other.isFirstSeen;
        }
    }

    /** The server, its clients, and what is on its way between them. */
    private static final class Net {
        // One more than the longest delay: what is sent never joins what comes at this very clock.
        private static final int SLOTS = MOST_DELAY + 1;

        private int clock;
        private int term = 20;
        private int lag = 5;
        private int room = 4;
        private int clientCount;
        private final Client[] clients = new Client[MOST_CLIENTS];
        private final Shelf[] shelves = new Shelf[FILES];
        // What comes at one clock is in one slot, in the order in which it was sent.
        private final Table[] slots = new Table[SLOTS];

        Net() {
            for (int client = 0; client < MOST_CLIENTS; client++) {
                clients[client] = new Client();
            }
            for (int file = 0; file < FILES; file++) {
                shelves[file] = new Shelf();
            }
            for (int slot = 0; slot < SLOTS; slot++) {
                slots[slot] = new Table(THING_WIDTH);
            }
        }

        boolean isClient(int client) {
            return client >= 0 && client < clientCount && client < MOST_CLIENTS;
        }

        int join(int delay, int habit) {
            if (clientCount >= MOST_CLIENTS) {
                return NONE;
            }
            clients[clientCount].delay = delay;
            clients[clientCount].habit = habit;
            clientCount++;
            return clientCount - 1;
        }

        private Table slotAt(int when) {
            return slots[Math.floorMod(when, SLOTS)];
        }

        int thingCount() {
            int things = 0;
            for (int slot = 0; slot < SLOTS; slot++) {
                things += slots[slot].rows;
            }
            return things;
        }

        int tellThing(int place, int what) {
            int left = place;
            for (int later = 1; later <= MOST_DELAY; later++) {
                Table slot = slotAt(clock + later);
                if (left < slot.rows) {
                    return slot.get(left, what);
                }
                left -= slot.rows;
            }
            return 0;
        }

        long addThingsToDigest(long start) {
            long d = start;
            for (int later = 1; later <= MOST_DELAY; later++) {
                Table slot = slotAt(clock + later);
                for (int row = 0; row < slot.rows; row++) {
                    for (int what = 0; what <= 3; what++) {
                        d = d * 31 + slot.get(row, what);
                    }
                }
            }
            return d;
        }

        private void send(int kind, int client, int file, int content, int version, int until) {
            int comes = clock + clients[client].delay;
            Table slot = slotAt(comes);
            int row = slot.addRow();
            slot.put(row, THING_CLIENT, client);
            slot.put(row, THING_KIND, kind);
            slot.put(row, THING_FILE, file);
            slot.put(row, THING_COMES, comes);
            slot.put(row, THING_CONTENT, content);
            slot.put(row, THING_VERSION, version);
            slot.put(row, THING_UNTIL, until);
            slot.put(row, THING_LOST, clients[client].isCut ? 1 : 0);
        }

        private void sendStore(int client, int file) {
            Held held = clients[client].files[file];
            held.sends = true;
            send(STORE, client, file, held.content, held.version, 0);
        }

        /** What reading and writing share: answers whether it is a hit, and fetches what is missed. */
        boolean reach(int client, int file) {
            Client reader = clients[client];
            Held held = reader.files[file];
            if (held.isTrusted(clock, reader.isCut)) {
                reader.hits++;
                reader.use(file);
                return true;
            }
            reader.misses++;
            if (!reader.isCut && !held.asks) {
                held.asks = true;
                send(FETCH, client, file, 0, 0, 0);
            }
            return false;
        }

        /** Answers how many stores are sent. */
        int mendLine(int client) {
            Client mended = clients[client];
            if (!mended.isCut) {
                return 0;
            }
            mended.isCut = false;
            mended.endLeases();
            int stores = 0;
            for (int i = 0; i < FILES; i++) {
                int file = mended.longestDirty();
                if (file == NONE) {
                    break;
                }
                sendStore(client, file);
                stores++;
            }
            return stores;
        }

        /** Sends what is dirty for some ticks or more, and answers how many stores that are. */
        int sendDirty(int client, int ticks) {
            Client sender = clients[client];
            if (sender.isCut) {
                return 0;
            }
            int stores = 0;
            for (int file = 0; file < FILES; file++) {
                Held held = sender.files[file];
                if (held.isDirty && !held.sends && clock - held.dirtySince >= ticks) {
                    sendStore(client, file);
                    stores++;
                }
            }
            return stores;
        }

        void passTick() {
            clock++;
            Table coming = slotAt(clock);
            int things = coming.rows;
            for (int row = 0; row < things; row++) {
                bring(coming, row);
            }
            coming.rows = 0;
            for (int file = 0; file < FILES; file++) {
                lookAtFirst(file);
            }
            for (int client = 0; client < clientCount; client++) {
                sendDirty(client, lag);
            }
        }

        private void bring(Table coming, int row) {
            int number = coming.get(row, THING_CLIENT);
            int file = coming.get(row, THING_FILE);
            if (!isClient(number) || !isFile(file)) {
                return;
            }
            Client client = clients[number];
            if (client.isCut || coming.get(row, THING_LOST) == 1) {
                client.lost++;
                return;
            }
            int kind = coming.get(row, THING_KIND);
            int content = coming.get(row, THING_CONTENT);
            int version = coming.get(row, THING_VERSION);
            int until = coming.get(row, THING_UNTIL);
            switch (kind) {
                case FETCH:
                case STORE:
                    if (shelves[file].addRequest(number, kind, content, version) == 0) {
                        lookAtFirst(file);
                    }
                    break;
                case ACK:
                    shelves[file].until[number] = NONE;
                    lookAtFirst(file);
                    break;
                case GIVE:
                    client.takeGiven(file, content, version, until, room);
                    break;
                case STORED:
                    client.files[file].beStored(content, version, until);
                    break;
                case CLASH:
                    if (client.takeClash(file, content, version)) {
                        sendStore(number, file);
                    }
                    break;
                case CALL:
                    client.takeCall(file);
                    send(ACK, number, file, 0, 0, 0);
                    break;
                default:
                    break;
            }
        }

        /** Does the first request, and those behind it, until one has to wait. */
        private void lookAtFirst(int file) {
            Shelf shelf = shelves[file];
            int waiting = shelf.requests.rows;
            int done = 0;
            while (done < waiting) {
                callOthers(file, done);
                if (shelf.hasToWait(done, clock)) {
                    break;
                }
                answer(file, done);
                shelf.isFirstSeen = false;
                done++;
            }
            shelf.requests.dropFirst(done);
        }

        /** Sends the calls for a store that is looked at for the first time. */
        private void callOthers(int file, int place) {
            Shelf shelf = shelves[file];
            if (shelf.isFirstSeen || shelf.requests.get(place, REQUEST_KIND) == FETCH) {
                return;
            }
            shelf.isFirstSeen = true;
            int client = shelf.requests.get(place, REQUEST_CLIENT);
            for (int other = 0; other < clientCount; other++) {
                if (other != client && shelf.isLeased(other, clock)) {
                    send(CALL, other, file, 0, 0, 0);
                }
            }
        }

        private void answer(int file, int place) {
            Shelf shelf = shelves[file];
            int client = shelf.requests.get(place, REQUEST_CLIENT);
            if (!isClient(client)) {
                return;
            }
            boolean isFetch = shelf.requests.get(place, REQUEST_KIND) == FETCH;
            if (!isFetch && shelf.requests.get(place, REQUEST_BASE) != shelf.version) {
                send(CLASH, client, file, shelf.content, shelf.version, NONE);
                return;
            }
            if (!isFetch) {
                shelf.content = shelf.requests.get(place, REQUEST_CONTENT);
                shelf.version++;
            }
            shelf.until[client] = clock + term;
            send(isFetch ? GIVE : STORED, client, file, shelf.content, shelf.version, clock + term);
        }

        boolean isCalm() {
            for (int file = 0; file < FILES; file++) {
                if (shelves[file].requests.rows > 0) {
                    return false;
                }
            }
            for (int client = 0; client < clientCount; client++) {
                if (!clients[client].isCut && !clients[client].isClean()) {
                    return false;
                }
            }
            return thingCount() == 0;
        }

        int staleCount() {
            int pairs = 0;
            for (int client = 0; client < clientCount; client++) {
                for (int file = 0; file < FILES; file++) {
                    Held held = clients[client].files[file];
                    if (held.isTrusted(clock, clients[client].isCut) && !held.isDirty
                            && held.version != shelves[file].version) {
                        pairs++;
                    }
                }
            }
            return pairs;
        }

        void copyFrom(Net other) {
            clock = other.clock;
            term = other.term;
            lag = other.lag;
            room = other.room;
            clientCount = other.clientCount;
            for (int client = 0; client < MOST_CLIENTS; client++) {
                clients[client].copyFrom(other.clients[client]);
            }
            for (int file = 0; file < FILES; file++) {
                shelves[file].copyFrom(other.shelves[file]);
            }
            for (int slot = 0; slot < SLOTS; slot++) {
                slots[slot].copyFrom(other.slots[slot]);
            }
        }
    }
}
