import java.util.ArrayList;
import java.util.NoSuchElementException;

public final class EdgeHouse {
    public static final int NONE = -1;

    private static final int PATHS = 32;
    private static final int KEYS = 8;
    private static final int FIRST_PARENT = 1;
    private static final int LAST_PARENT = 2;
    private static final int FIRST_EDGE = 3;
    private static final int LAST_EDGE = 6;
    private static final int POINTS_PER_NODE = 4;
    private static final int MOST_REQUESTS = 300;
    private static final int MOST_MESSAGES = 100;
    private static final int MOST_SETTLED = 500;
    private static final int MOST_PURGES = 60;
    private static final int MOST_TICKS = 100;
    private static final int LEAST_BUDGET = 32;
    private static final int MOST_BUDGET = 2000;
    private static final int FETCH_TICKS = 10;

    private static final int FETCH = 0;
    private static final int FILL = 1;
    private static final int PURGE = 2;
    private static final int ACK = 3;

    private static final int MISSED = 0;
    private static final int HIT = 1;
    private static final int STALE = 2;

    private final Reader reader = new Reader();
    private final Told[] things = new Told[PATHS];
    private final int[] versions = new int[PATHS];
    private final Node[] nodes = new Node[LAST_EDGE + 1];
    private final int[] points = new int[(LAST_EDGE + 1) * POINTS_PER_NODE];
    private final int[] purgedBy = new int[MOST_PURGES + 1];
    private final int[] purgedWhich = new int[MOST_PURGES + 1];
    private final ArrayList<Message> post = new ArrayList<>();
    private final ArrayList<Reply> replies = new ArrayList<>();
    private final StringBuilder page = new StringBuilder();
    private int answered;
    private int lost;
    private int acks;
    private int order;
    private int clock;

    public EdgeHouse() {
        for (int n = 0; n <= LAST_EDGE; n++) {
            nodes[n] = new Node(n);
            for (int j = 0; j < POINTS_PER_NODE; j++) {
                points[n * POINTS_PER_NODE + j] = hash(n, j);
            }
        }
    }

    public boolean type(long word, int n) {
        return reader.write(word, n);
    }

    public int update() throws IllegalArgumentException {
        Told told = reader.readThing();
        reader.empty();
        if (told == null || !isPath(told.path)) {
            throw new IllegalArgumentException("the tape is no thing");
        }
        versions[told.path]++;
        told.version = versions[told.path];
        things[told.path] = told;
        return told.version;
    }

    public boolean drop(int path) {
        if (!isPath(path) || things[path] == null) {
            return false;
        }
        things[path] = null;
        return true;
    }

    public int ask() {
        int number = replies.size();
        if (number >= MOST_REQUESTS) {
            return NONE;
        }
        Request request = reader.readRequest();
        reader.empty();
        Reply reply = new Reply();
        replies.add(reply);
        if (request == null) {
            close(reply, 400);
            return number;
        }
        request.reply = reply;
        int edge = ringNode(FIRST_EDGE, LAST_EDGE, request.path, request.variant, null);
        if (edge == NONE) {
            close(reply, 503);
            return number;
        }
        reply.edge = edge;
        look(nodes[edge], request);
        return number;
    }

    public int fault() {
        return reader.fault;
    }

    public boolean deliver(int k) {
        if (k < 0 || k >= post.size()) {
            return false;
        }
        carry(post.remove(k));
        return true;
    }

    public boolean lose(int k) {
        if (k < 0 || k >= post.size()) {
            return false;
        }
        post.remove(k);
        lost++;
        return true;
    }

    public int settle() {
        int count = 0;
        while (count < MOST_SETTLED && !post.isEmpty()) {
            carry(post.remove(0));
            count++;
        }
        return count;
    }

    public int purge(int by, int which) {
        boolean known = by == 0 && isPath(which) || by == 1 && which >= 0 && which < KEYS;
        if (!known || order >= MOST_PURGES) {
            return NONE;
        }
        order++;
        acks = 0;
        purgedBy[order] = by;
        purgedWhich[order] = which;
        for (int n = FIRST_PARENT; n <= LAST_EDGE; n++) {
            if (nodes[n].up) {
                Message message = new Message(PURGE, 0, n, order);
                message.path = which;
                message.variant = by;
                send(message);
            }
        }
        return order;
    }

    public int tick(int n) throws IllegalArgumentException {
        if (n < 1 || n > MOST_TICKS) {
            throw new IllegalArgumentException("ticks are 1 to 100");
        }
        for (int i = 0; i < n; i++) {
            clock++;
            for (int k = FIRST_PARENT; k <= LAST_EDGE; k++) {
                endOverdue(nodes[k]);
            }
        }
        return clock;
    }

    public boolean fail(int node) {
        if (!isNode(node) || !nodes[node].up) {
            return false;
        }
        ArrayList<Fetch> fetches = nodes[node].fetches;
        for (int i = 0; i < fetches.size(); i++) {
            for (Request r = fetches.get(i).head; r != null; r = r.behind) {
                if (r.reply != null) {
                    close(r.reply, 502);
                }
            }
        }
        nodes[node].goDown();
        return true;
    }

    public boolean back(int node) {
        if (!isNode(node) || nodes[node].up) {
            return false;
        }
        nodes[node].up = true;
        nodes[node].seen = order;
        for (int n = FIRST_EDGE; n <= LAST_EDGE; n++) {
            nodes[n].trust(node);
        }
        return true;
    }

    public boolean budget(int node, int bytes) {
        if (!isNode(node) || bytes < LEAST_BUDGET || bytes > MOST_BUDGET) {
            return false;
        }
        nodes[node].store.budget = bytes;
        nodes[node].store.balance();
        return true;
    }

    public int answer(int r, int what) throws NoSuchElementException, IndexOutOfBoundsException {
        if (r < 0 || r >= replies.size()) {
            throw new NoSuchElementException("no such request");
        }
        if (what < 0 || what > 8) {
            throw new IndexOutOfBoundsException("what is 0 to 8");
        }
        Reply reply = replies.get(r);
        if (what == 5) {
            return textOf(reply).length();
        }
        return reply.tell(what);
    }

    public int letter(int r, int i) {
        if (r < 0 || r >= replies.size()) {
            return NONE;
        }
        String text = textOf(replies.get(r));
        if (i < 0 || i >= text.length()) {
            return NONE;
        }
        return text.charAt(i);
    }

    public int node(int n, int what) {
        if (!isNode(n) || what < 0 || what > 12) {
            return NONE;
        }
        return nodes[n].tell(what, clock);
    }

    public int entry(int n, int path, int variant, int which, int what) {
        if (!isNode(n)) {
            return NONE;
        }
        Store store = nodes[n].store;
        Entry entry = store.find(path, variant, which);
        if (entry == null) {
            return NONE;
        }
        if (what == 5) {
            return store.placeOf(entry);
        }
        return entry.tell(what, clock);
    }

    public int message(int k, int what) {
        if (k < 0 || k >= post.size()) {
            return NONE;
        }
        return post.get(k).tell(what);
    }

    public int total(int what) {
        switch (what) {
            case 0:
                return post.size();
            case 1:
                return order;
            case 2:
                return replies.size();
            case 3:
                return answered;
            case 4:
                return lost;
            case 5:
                return acks;
            case 6:
                return clock;
            default:
                return NONE;
        }
    }

    private static boolean isPath(int path) {
        return path >= 0 && path < PATHS;
    }

    private static boolean isNode(int n) {
        return n >= FIRST_PARENT && n <= LAST_EDGE;
    }

    private static boolean isEdge(int n) {
        return n >= FIRST_EDGE && n <= LAST_EDGE;
    }

    private static int hash(int a, int b) {
        int h = a * -1640531535 + b * -2048144789;
        h ^= h >>> 15;
        h *= 739982445;
        h ^= h >>> 12;
        return h >>> 16;
    }

    /** The node of a KEY among first .. last; those that asker (may be null) shuns come behind all others. */
    private int ringNode(int first, int last, int path, int variant, Node asker) {
        int spot = hash(64 + path, variant);
        int best = NONE;
        int bestWay = 0;
        for (int n = first; n <= last; n++) {
            if (!nodes[n].up) {
                continue;
            }
            int detour = asker != null && asker.shuns(n, clock) ? 0x10000 : 0;
            for (int j = 0; j < POINTS_PER_NODE; j++) {
                // the way round the ring from the spot puts points below it behind all the others
                int way = (points[n * POINTS_PER_NODE + j] - spot & 0xFFFF) + detour;
                if (best == NONE || way < bestWay) {
                    best = n;
                    bestWay = way;
                }
            }
        }
        return best;
    }

    private void send(Message message) {
        if (post.size() >= MOST_MESSAGES) {
            lost++;
            return;
        }
        message.sent = clock;
        post.add(message);
    }

    private void carry(Message message) {
        if (message.to == 0) {
            takeAtOrigin(message);
            return;
        }
        if (!isNode(message.to) || !nodes[message.to].up) {
            return;
        }
        Node node = nodes[message.to];
        if (message.kind == PURGE) {
            takePurge(node, message);
            return;
        }
        boolean again = message.kind == FILL;
        Request next = again ? takeFill(node, message) : new Request(message);
        while (next != null) {
            Request r = next;
            // a request that is looked at may come into another chain
            next = r.behind;
            r.behind = null;
            r.again = again;
            look(node, r);
        }
    }

    private void takeAtOrigin(Message message) {
        if (message.kind == ACK) {
            if (message.number == order) {
                acks++;
            }
            return;
        }
        Request request = new Request(message);
        Told told = isPath(message.path) ? things[message.path] : null;
        if (told == null) {
            sendStatus(0, request, 404);
            return;
        }
        Entry whole = new Entry(request.path, request.variant, told, told.whichFor(request.language, request.form));
        whole.mark = order;
        whole.came = clock;
        whole.blocks = told.blocks(0, 15);
        sendFill(0, request, whole);
    }

    private void takePurge(Node node, Message message) {
        node.learn(message.number);
        node.store.removePurged(message.variant, message.path);
        send(new Message(ACK, node.id, 0, message.number));
    }

    /** Takes a FILL in; answers the chain of those that are to be LOOKED AT again. */
    private Request takeFill(Node node, Message fill) {
        Fetch fetch = node.takeFetch(fill.number);
        if (fetch == null) {
            return null;
        }
        if (fill.status == 504) {
            failAll(node, fetch.head);
            return null;
        }
        node.trust(fill.from);
        if (fill.status == 404 || fill.told == null) {
            node.store.removeKey(fetch.path, fetch.variant);
            endAll(node, fetch.head, 404);
            return null;
        }
        if (isRefused(node, fetch, fill)) {
            if (!sendFetch(node, fetch)) {
                failAll(node, fetch.head);
            }
            return null;
        }
        Entry entry = takeIn(node, fetch, fill);
        if (!fill.told.noStore) {
            node.store.place(entry);
        }
        Request first = fetch.head;
        if (first == null || !entry.isEnoughFor(first)) {
            return first;
        }
        serve(node, first, entry, MISSED);
        return first.behind;
    }

    private boolean isRefused(Node node, Fetch fetch, Message fill) {
        if (fill.mark < fetch.least) {
            return true;
        }
        for (int number = fill.mark + 1; number <= order; number++) {
            if (node.knows(number) && isOf(number, fill.told)) {
                return true;
            }
        }
        if (fill.status != 304) {
            return false;
        }
        int which = fill.told.whichFor(fetch.language, fetch.form);
        Entry entry = node.store.find(fetch.path, fetch.variant, which);
        return entry == null || entry.told.version != fill.told.version;
    }

    private boolean isOf(int number, Told told) {
        if (number < 1 || number > MOST_PURGES) {
            return false;
        }
        return told.isPurgedBy(purgedBy[number], purgedWhich[number]);
    }

    /** The ENTRY that a FILL makes; what it comes in place of goes. */
    private Entry takeIn(Node node, Fetch fetch, Message fill) {
        Told told = fill.told;
        Entry entry = new Entry(fetch.path, fetch.variant, told, told.whichFor(fetch.language, fetch.form));
        entry.mark = fill.mark;
        entry.age = fill.age + clock - fill.sent;
        entry.came = clock;
        entry.blocks = fill.blocks;
        node.store.removeOtherVary(entry);
        Entry old = node.store.find(entry.path, entry.variant, entry.which);
        if (old != null && old.told.version == told.version) {
            entry.blocks |= old.blocks;
        }
        if (old != null) {
            node.store.remove(old);
        }
        entry.kept = old != null && old.kept;
        return entry;
    }

    private void look(Node node, Request r) {
        Entry entry = node.store.suiting(r);
        int age = entry == null ? 0 : entry.ageAt(clock);
        boolean usable = entry != null && !r.forced && entry.mark >= r.least;
        int missing = usable ? r.missingIn(entry) : 0;
        boolean fresh = usable && r.takesFresh(entry.told, age);
        if (fresh && missing == 0) {
            node.hits++;
            node.store.use(entry);
            serve(node, r, entry, HIT);
        } else if (usable && missing == 0 && r.takesStale(entry.told, age)) {
            serve(node, r, entry, STALE);
            if (node.fetchOf(r.path, r.variant) == null) {
                sendFetch(node, new Fetch(r));
            }
        } else if (r.onlyIfCached) {
            endAll(node, r, 504);
        } else {
            Fetch fetch = letWait(node, r, fresh && !r.again ? missing : 0);
            if (fetch != null && !sendFetch(node, fetch)) {
                failAll(node, r);
            }
        }
    }

    /** Puts the request behind the FETCH that is out, or else behind a new one, which is answered to be sent. */
    private Fetch letWait(Node node, Request r, int missing) {
        Fetch out = node.fetchOf(r.path, r.variant);
        if (out != null) {
            out.join(r);
            return null;
        }
        node.misses++;
        Fetch fetch = new Fetch(r);
        if (missing != 0) {
            fetch.first = Integer.numberOfTrailingZeros(missing);
            fetch.last = 31 - Integer.numberOfLeadingZeros(missing);
        }
        fetch.join(r);
        return fetch;
    }

    /** Makes the fetch go out with the next number; false if there is no node to ask. */
    private boolean sendFetch(Node node, Fetch fetch) {
        int to = 0;
        if (isEdge(node.id)) {
            to = ringNode(FIRST_PARENT, LAST_PARENT, fetch.path, fetch.variant, node);
        }
        if (to == NONE) {
            return false;
        }
        node.lastNumber++;
        fetch.number = node.lastNumber;
        fetch.to = to;
        fetch.least = node.seen;
        fetch.since = clock;
        node.fetches.add(fetch);
        Message message = new Message(FETCH, node.id, to, fetch.number);
        message.copyFetch(fetch);
        message.has = node.store.versionHad(fetch);
        send(message);
        return true;
    }

    private void endOverdue(Node node) {
        // fetches stand by their numbers, and so by the ticks at which they went out
        while (!node.fetches.isEmpty() && clock - node.fetches.get(0).since >= FETCH_TICKS) {
            Fetch fetch = node.fetches.remove(0);
            if (isEdge(node.id)) {
                node.strike(fetch.to, clock);
            }
            failAll(node, fetch.head);
        }
    }

    private void failAll(Node node, Request chain) {
        for (Request r = chain; r != null; r = r.behind) {
            Entry entry = node.store.suiting(r);
            if (entry != null && entry.isEnoughFor(r) && entry.told.helpsOnError(entry.ageAt(clock))) {
                serve(node, r, entry, STALE);
            } else if (r.reply != null) {
                close(r.reply, 504);
            } else {
                sendStatus(node.id, r, 504);
            }
        }
    }

    private void endAll(Node node, Request chain, int status) {
        for (Request r = chain; r != null; r = r.behind) {
            if (r.reply != null) {
                close(r.reply, status);
            } else {
                sendStatus(node.id, r, status);
            }
        }
    }

    private void serve(Node node, Request r, Entry entry, int how) {
        if (r.reply == null || r.conditions == null) {
            sendFill(node.id, r, entry);
            return;
        }
        r.reply.how = how;
        r.reply.age = entry.ageAt(clock);
        r.reply.fillFrom(entry, r.conditions);
        close(r.reply, r.reply.status);
    }

    private void close(Reply reply, int status) {
        reply.status = status;
        reply.tick = clock;
        answered++;
    }

    private void sendFill(int from, Request r, Entry entry) {
        boolean had = r.has == entry.told.version;
        Message fill = new Message(FILL, from, r.edge, r.number);
        fill.path = r.path;
        fill.variant = r.variant;
        fill.status = had ? 304 : 200;
        fill.told = entry.told;
        fill.which = entry.which;
        fill.mark = entry.mark;
        fill.age = entry.ageAt(clock);
        fill.blocks = had ? 0 : entry.blocks & entry.told.blocks(r.first, r.last);
        send(fill);
    }

    private void sendStatus(int from, Request r, int status) {
        Message fill = new Message(FILL, from, r.edge, r.number);
        fill.path = r.path;
        fill.variant = r.variant;
        fill.status = status;
        send(fill);
    }

    private String textOf(Reply reply) {
        if (reply.status != 0 && reply.text.isEmpty()) {
            page.setLength(0);
            reply.render(page);
            reply.text = page.toString();
        }
        return reply.text;
    }

    /** What a THING told, and the VERSION it got. */
    private static final class Told {
        int path;
        int version;
        int length;
        int maxAge;
        int staleIfError;
        int staleWhile;
        boolean noStore;
        boolean noCache;
        int keys;
        int vary;

        int life() {
            return noCache ? 0 : maxAge;
        }

        boolean helpsOnError(int age) {
            return age < life() + staleIfError;
        }

        int whichFor(int language, int form) {
            return ((vary & 1) != 0 ? language : 0) + ((vary & 2) != 0 ? 4 * form : 0);
        }

        /** BLOCKS first .. last as bits, as far as the length goes. */
        int blocks(int first, int last) {
            int count = (length + 15) >> 4;
            int upTo = Math.min(last + 1, count);
            return (1 << upTo) - 1 & -1 << first;
        }

        boolean isPurgedBy(int by, int what) {
            return by == 0 ? path == what : (keys & 1 << what) != 0;
        }
    }

    /** What only a CLIENT's REQUEST tells: the word, its range and its TAGS. */
    private static final class Conditions {
        static final int ALL = 0;
        static final int SPAN = 1;
        static final int TAIL = 2;

        boolean head;
        int range = ALL;
        int first;
        int last;
        boolean anyTag;
        final int[] tags = new int[8];
        int tagCount;
        int ifRange = NONE;

        boolean rangeCounts(int tag) {
            return range != ALL && (ifRange == NONE || ifRange == tag);
        }

        /** The first byte that is wanted, if the range counts or not. */
        int from(boolean counts, int length) {
            if (!counts) {
                return 0;
            }
            return range == SPAN ? first : Math.max(0, length - first);
        }

        /** The last byte that is wanted; it is below the first one if there is none. */
        int to(boolean counts, int length) {
            return counts && range == SPAN ? Math.min(last, length - 1) : length - 1;
        }

        void addTag(int tag) {
            if (tagCount < tags.length) {
                tags[tagCount] = tag;
                tagCount++;
            }
        }

        boolean matches(int tag) {
            for (int i = 0; i < tagCount; i++) {
                if (tags[i] == tag) {
                    return true;
                }
            }
            return anyTag;
        }
    }

    /** A REQUEST at a node: of a CLIENT (then it has conditions and a reply) or by a FETCH. */
    private static final class Request {
        int path;
        int variant;
        int language;
        int form;
        int first;
        int last = 15;
        boolean forced;
        boolean onlyIfCached;
        int maxAge = NONE;
        int minFresh = NONE;
        int maxStale = NONE;
        int least;
        boolean again;
        Conditions conditions;
        Reply reply;
        int edge;
        int number;
        int has;
        Request behind;

        Request() {
        }

        Request(Message fetch) {
            path = fetch.path;
            variant = fetch.variant;
            language = fetch.language;
            form = fetch.form;
            first = fetch.first;
            last = fetch.last;
            forced = fetch.forced;
            least = fetch.mark;
            edge = fetch.from;
            number = fetch.number;
            has = fetch.has;
        }

        /** The BLOCKS of the bytes that are wanted which the entry has not, as bits. */
        int missingIn(Entry entry) {
            Told told = entry.told;
            if (conditions == null) {
                return told.blocks(first, last) & ~entry.blocks;
            }
            boolean counts = conditions.rangeCounts(entry.tag());
            int from = conditions.from(counts, told.length);
            int to = conditions.to(counts, told.length);
            return from > to ? 0 : told.blocks(from >> 4, to >> 4) & ~entry.blocks;
        }

        void chooseBlocks() {
            if (conditions != null && conditions.range == Conditions.SPAN && conditions.ifRange == NONE) {
                first = Math.min(conditions.first, 255) >> 4;
                last = Math.min(conditions.last, 255) >> 4;
            }
        }

        boolean takesFresh(Told told, int age) {
            boolean young = maxAge == NONE || age <= maxAge;
            return young && age + Math.max(minFresh, 0) < told.life();
        }

        boolean takesStale(Told told, int age) {
            if (maxStale != NONE && age < told.life() + maxStale) {
                return true;
            }
            return maxAge == NONE && minFresh == NONE && age < told.life() + told.staleWhile;
        }
    }

    /** What is kept of a CLIENT's REQUEST: its answer, and where it went. */
    private static final class Reply {
        int edge;
        int status;
        boolean head;
        int version;
        int which;
        int vary;
        int age;
        int how;
        int length;
        int from;
        int count;
        int seed;
        int tick;
        String text = "";

        void fillFrom(Entry entry, Conditions asked) {
            int tag = entry.tag();
            head = asked.head;
            version = entry.told.version;
            which = entry.which;
            vary = entry.told.vary;
            length = entry.told.length;
            seed = 31 * entry.path + 17 * entry.variant + 5 * which + 13 * version;
            boolean part = asked.rangeCounts(tag);
            from = asked.from(part, length);
            int bytes = Math.max(0, asked.to(part, length) - from + 1);
            if (asked.matches(tag)) {
                status = 304;
            } else if (part && bytes == 0) {
                status = 416;
            } else {
                status = part ? 206 : 200;
                count = bytes;
            }
        }

        int tell(int what) {
            switch (what) {
                case 0:
                    return status;
                case 1:
                    return version;
                case 2:
                    return age;
                case 3:
                    return count;
                case 4:
                    return how;
                case 6:
                    return tick;
                case 7:
                    return edge;
                case 8:
                    return which;
                default:
                    return NONE;
            }
        }

        void render(StringBuilder out) {
            out.append(status).append(' ').append(words()).append('\n');
            if (version != 0) {
                renderLines(out);
            }
            out.append('\n');
            for (int i = from; i < from + count && !head; i++) {
                out.append((char) (seed + 7 * i + (i >> 4) & 255));
            }
        }

        void renderLines(StringBuilder out) {
            out.append("etag: \"").append(8 * version + which).append("\"\n");
            out.append("age: ").append(age).append('\n');
            out.append("cache: ").append(how == HIT ? "hit" : how == STALE ? "stale" : "miss").append('\n');
            if (vary != 0) {
                out.append("vary: ").append((vary & 1) != 0 ? "accept-language" : "");
                out.append(vary == 3 ? ", " : "").append((vary & 2) != 0 ? "accept-encoding" : "").append('\n');
            }
            if (status == 206) {
                out.append("content-range: bytes ").append(from).append('-').append(from + count - 1);
                out.append('/').append(length).append('\n');
            }
            if (status == 416) {
                out.append("content-range: bytes */").append(length).append('\n');
            }
            if (status == 200 || status == 206) {
                out.append("length: ").append(count).append('\n');
            }
        }

        String words() {
            switch (status) {
                case 200:
                    return "OK";
                case 206:
                    return "Partial Content";
                case 304:
                    return "Not Modified";
                case 400:
                    return "Bad Request";
                case 404:
                    return "Not Found";
                case 416:
                    return "Range Not Satisfiable";
                case 502:
                    return "Bad Gateway";
                case 503:
                    return "Service Unavailable";
                default:
                    return "Gateway Timeout";
            }
        }
    }

    private static final class Entry {
        final int path;
        final int variant;
        final Told told;
        final int which;
        int mark;
        int age;
        int came;
        int blocks;
        boolean kept;

        Entry(int path, int variant, Told told, int which) {
            this.path = path;
            this.variant = variant;
            this.told = told;
            this.which = which;
        }

        boolean isOf(int aPath, int aVariant) {
            return path == aPath && variant == aVariant;
        }

        boolean suits(Request r) {
            return isOf(r.path, r.variant) && which == told.whichFor(r.language, r.form);
        }

        /** Whether it SUITS and HAS the request, but for FORCED and no-cache. */
        boolean isEnoughFor(Request r) {
            return suits(r) && mark >= r.least && r.missingIn(this) == 0;
        }

        int tag() {
            return 8 * told.version + which;
        }

        int ageAt(int now) {
            return age + now - came;
        }

        int size() {
            return 16 + 16 * Integer.bitCount(blocks);
        }

        int tell(int what, int now) {
            if (what >= 16 && what < 32) {
                return blocks >> what - 16 & 1;
            }
            switch (what) {
                case 0:
                    return told.version;
                case 1:
                    return ageAt(now);
                case 2:
                    return Integer.bitCount(blocks);
                case 3:
                    return mark;
                case 4:
                    return kept ? 1 : 0;
                case 6:
                    return told.vary;
                default:
                    return NONE;
            }
        }
    }

    /** The ENTRIES of a node, NEW and KEPT, each the oldest first. */
    private static final class Store {
        final ArrayList<Entry> fresh = new ArrayList<>();
        final ArrayList<Entry> held = new ArrayList<>();
        int budget = 1000;

        int count() {
            return fresh.size() + held.size();
        }

        /** Entry i of all, those of NEW first; null if there is none such. */
        Entry at(int i) {
            if (i < 0 || i >= count()) {
                return null;
            }
            return i < fresh.size() ? fresh.get(i) : held.get(i - fresh.size());
        }

        void removeAt(int i) {
            if (i >= 0 && i < fresh.size()) {
                fresh.remove(i);
            } else if (i >= fresh.size() && i < count()) {
                held.remove(i - fresh.size());
            }
        }

        Entry find(int path, int variant, int which) {
            for (int i = 0; i < count(); i++) {
                Entry entry = at(i);
                if (entry != null && entry.isOf(path, variant) && entry.which == which) {
                    return entry;
                }
            }
            return null;
        }

        Entry suiting(Request r) {
            for (int i = 0; i < count(); i++) {
                Entry entry = at(i);
                if (entry != null && entry.suits(r)) {
                    return entry;
                }
            }
            return null;
        }

        /** The VERSION that a FETCH may tell as had; 0 if there is none. */
        int versionHad(Fetch fetch) {
            for (int i = 0; i < count(); i++) {
                Entry entry = at(i);
                if (entry != null && fetch.isHadWith(entry)) {
                    return entry.told.version;
                }
            }
            return 0;
        }

        int placeOf(Entry entry) {
            ArrayList<Entry> part = entry.kept ? held : fresh;
            for (int i = 0; i < part.size(); i++) {
                if (part.get(i) == entry) {
                    return i;
                }
            }
            return NONE;
        }

        void remove(Entry entry) {
            int i = placeOf(entry);
            if (i == NONE) {
                return;
            }
            if (entry.kept) {
                held.remove(i);
            } else {
                fresh.remove(i);
            }
        }

        void removeKey(int path, int variant) {
            for (int i = count() - 1; i >= 0; i--) {
                Entry entry = at(i);
                if (entry != null && entry.isOf(path, variant)) {
                    removeAt(i);
                }
            }
        }

        void removeOtherVary(Entry coming) {
            for (int i = count() - 1; i >= 0; i--) {
                Entry entry = at(i);
                if (entry != null && entry.isOf(coming.path, coming.variant) && entry.told.vary != coming.told.vary) {
                    removeAt(i);
                }
            }
        }

        void removePurged(int by, int what) {
            for (int i = count() - 1; i >= 0; i--) {
                Entry entry = at(i);
                if (entry != null && entry.told.isPurgedBy(by, what)) {
                    removeAt(i);
                }
            }
        }

        void place(Entry entry) {
            if (entry.kept) {
                held.add(entry);
            } else {
                fresh.add(entry);
            }
            balance();
        }

        void use(Entry entry) {
            remove(entry);
            entry.kept = true;
            held.add(entry);
            balance();
        }

        int sizeOf(ArrayList<Entry> part) {
            int sum = 0;
            for (int i = 0; i < part.size(); i++) {
                sum += part.get(i).size();
            }
            return sum;
        }

        void balance() {
            int inHeld = sizeOf(held);
            int all = inHeld + sizeOf(fresh);
            while (!held.isEmpty() && inHeld > budget >> 1) {
                Entry entry = held.remove(0);
                inHeld -= entry.size();
                entry.kept = false;
                fresh.add(entry);
            }
            while (count() > 0 && all > budget) {
                Entry entry = fresh.isEmpty() ? held.remove(0) : fresh.remove(0);
                all -= entry.size();
            }
        }

        void clear() {
            fresh.clear();
            held.clear();
        }
    }

    /** A FETCH that is out at a node, with the chain of those that WAIT for it. */
    private static final class Fetch {
        final int path;
        final int variant;
        final int language;
        final int form;
        final boolean forced;
        int first;
        int last;
        int number;
        int to;
        int least;
        int since;
        int waiting;
        Request head;
        Request tail;

        Fetch(Request r) {
            path = r.path;
            variant = r.variant;
            language = r.language;
            form = r.form;
            forced = r.forced;
            first = r.first;
            last = r.last;
        }

        void join(Request r) {
            r.behind = null;
            if (tail == null) {
                head = r;
            } else {
                tail.behind = r;
            }
            tail = r;
            waiting++;
        }

        boolean isHadWith(Entry entry) {
            if (!entry.isOf(path, variant) || entry.which != entry.told.whichFor(language, form)) {
                return false;
            }
            return entry.mark >= least && (entry.told.blocks(first, last) & ~entry.blocks) == 0;
        }
    }

    private static final class Node {
        final int id;
        final Store store = new Store();
        final ArrayList<Fetch> fetches = new ArrayList<>();
        final boolean[] known = new boolean[MOST_PURGES + 1];
        final int[] strikes = new int[LAST_PARENT + 1];
        final int[] shunUntil = new int[LAST_PARENT + 1];
        boolean up = true;
        int seen;
        int hits;
        int misses;
        int lastNumber;

        Node(int id) {
            this.id = id;
        }

        Fetch fetchOf(int path, int variant) {
            for (int i = 0; i < fetches.size(); i++) {
                Fetch fetch = fetches.get(i);
                if (fetch.path == path && fetch.variant == variant) {
                    return fetch;
                }
            }
            return null;
        }

        Fetch takeFetch(int number) {
            for (int i = 0; i < fetches.size(); i++) {
                if (fetches.get(i).number == number) {
                    return fetches.remove(i);
                }
            }
            return null;
        }

        void learn(int purge) {
            if (purge >= 1 && purge < known.length) {
                known[purge] = true;
            }
            seen = Math.max(seen, purge);
        }

        boolean knows(int purge) {
            return purge >= 1 && purge < known.length && known[purge];
        }

        void strike(int parent, int now) {
            if (parent < FIRST_PARENT || parent > LAST_PARENT) {
                return;
            }
            strikes[parent]++;
            if (strikes[parent] == 2) {
                strikes[parent] = 0;
                shunUntil[parent] = now + 20;
            }
        }

        void trust(int parent) {
            if (parent >= FIRST_PARENT && parent <= LAST_PARENT) {
                strikes[parent] = 0;
                shunUntil[parent] = 0;
            }
        }

        boolean shuns(int parent, int now) {
            return parent >= FIRST_PARENT && parent <= LAST_PARENT && now < shunUntil[parent];
        }

        void goDown() {
            up = false;
            seen = 0;
            store.clear();
            fetches.clear();
            for (int i = 0; i < known.length; i++) {
                known[i] = false;
            }
            for (int parent = FIRST_PARENT; parent <= LAST_PARENT; parent++) {
                trust(parent);
            }
        }

        int waiting() {
            int sum = 0;
            for (int i = 0; i < fetches.size(); i++) {
                sum += fetches.get(i).waiting;
            }
            return sum;
        }

        int tell(int what, int now) {
            switch (what) {
                case 0:
                    return up ? 1 : 0;
                case 1:
                    return store.count();
                case 2:
                    return store.sizeOf(store.fresh) + store.sizeOf(store.held);
                case 3:
                    return store.held.size();
                case 4:
                    return hits;
                case 5:
                    return misses;
                case 6:
                    return fetches.size();
                case 7:
                    return waiting();
                case 8:
                    return seen;
                case 9:
                case 10:
                    return strikes[what - 8];
                case 11:
                case 12:
                    return shuns(what - 10, now) ? shunUntil[what - 10] : 0;
                default:
                    return NONE;
            }
        }
    }

    private static final class Message {
        final int kind;
        final int from;
        final int to;
        final int number;
        int path;
        int variant;
        int language;
        int form;
        int first;
        int last;
        boolean forced;
        int has;
        int status;
        int mark;
        int which;
        Told told;
        int age;
        int blocks;
        int sent;

        Message(int kind, int from, int to, int number) {
            this.kind = kind;
            this.from = from;
            this.to = to;
            this.number = number;
        }

        void copyFetch(Fetch fetch) {
            path = fetch.path;
            variant = fetch.variant;
            language = fetch.language;
            form = fetch.form;
            first = fetch.first;
            last = fetch.last;
            forced = fetch.forced;
            mark = fetch.least;
        }

        int version() {
            return told == null ? 0 : told.version;
        }

        int tell(int what) {
            switch (what) {
                case 0:
                    return kind;
                case 1:
                    return from;
                case 2:
                    return to;
                case 3:
                    return number;
                case 4:
                    return path;
                case 5:
                    return variant;
                case 6:
                    return kind == FILL ? status : first;
                case 7:
                    return kind == FILL ? version() : last;
                case 8:
                    return mark;
                case 9:
                    return forced ? 1 : 0;
                case 10:
                    return has;
                case 11:
                    return kind == FILL ? which : language + 4 * form;
                default:
                    return NONE;
            }
        }
    }

    /** The tape, and what reads TEXTS from it; a reading that fails leaves its place in fault. */
    private static final class Reader {
        static final int MOST_TAPE = 300;
        static final int MOST_NAME = 20;
        static final int MOST_WORD = 30;
        static final int MOST_NUMBER = 99999;
        static final int ANY_AGE = 1000000;
        static final char END = 0;

        static final int LANGUAGES = 0;
        static final int FORMS = 1;
        static final int ASKED = 2;
        static final int KEEPING = 3;
        static final int VARYING = 4;

        final char[] tape = new char[MOST_TAPE];
        int length;
        int at;
        int fault = NONE;
        final int[] names = new int[MOST_TAPE];
        int nameCount;
        int wordStart;
        int wordEnd;
        boolean bare;
        int number;
        int path;
        int variant;
        final int[] weights = new int[4];
        Request request;
        Conditions conditions;
        Told told;

        boolean write(long word, int n) {
            if (n < 1 || n > 8 || length + n > MOST_TAPE) {
                return false;
            }
            for (int i = 0; i < n; i++) {
                int c = (int) (word >>> 8 * i & 255);
                if (c != 10 && (c < 32 || c > 126)) {
                    return false;
                }
            }
            for (int i = n - 1; i >= 0; i--) {
                tape[length] = (char) (word >>> 8 * i & 255);
                length++;
            }
            return true;
        }

        void empty() {
            length = 0;
        }

        Told readThing() {
            begin();
            told = new Told();
            boolean good = expectText("PUT ") && readTarget(false);
            for (int i = 0; i < MOST_TAPE && good && here() != '\n'; i++) {
                good = readName() && readToldValue() && expect('\n');
            }
            if (!good || !readEnd()) {
                return null;
            }
            told.path = path;
            return told;
        }

        Request readRequest() {
            begin();
            request = new Request();
            conditions = new Conditions();
            conditions.head = here() == 'H';
            boolean good = expectText(conditions.head ? "HEAD " : "GET ") && readTarget(true);
            for (int i = 0; i < MOST_TAPE && good && here() != '\n'; i++) {
                good = readName() && readAskedValue() && expect('\n');
            }
            if (!good || !readEnd()) {
                return null;
            }
            request.path = path;
            request.variant = variant;
            request.language = heaviestLanguage();
            request.conditions = conditions;
            request.chooseBlocks();
            return request;
        }

        void begin() {
            at = 0;
            fault = NONE;
            nameCount = 0;
            for (int i = 0; i < weights.length; i++) {
                weights[i] = 0;
            }
        }

        int heaviestLanguage() {
            int best = 0;
            for (int i = 1; i < 4; i++) {
                if (weights[i] > weights[best]) {
                    best = i;
                }
            }
            return best;
        }

        char here() {
            return at >= 0 && at < length && at < tape.length ? tape[at] : END;
        }

        boolean no(int where) {
            fault = where;
            return false;
        }

        boolean expect(char c) {
            if (here() != c) {
                return no(at);
            }
            at++;
            return true;
        }

        boolean expectText(String text) {
            for (int i = 0; i < text.length(); i++) {
                if (!expect(text.charAt(i))) {
                    return false;
                }
            }
            return true;
        }

        static boolean isDigit(char c) {
            return c >= '0' && c <= '9';
        }

        boolean readNumber(int most) {
            int start = at;
            number = 0;
            for (int i = 0; i < 5 && isDigit(here()); i++) {
                number = 10 * number + (here() - '0');
                at++;
            }
            if (at == start) {
                return no(at);
            }
            if (number > most) {
                return no(start);
            }
            return !isDigit(here()) || no(at);
        }

        boolean readTarget(boolean withVariant) {
            if (!expect('/') || !readNumber(31)) {
                return false;
            }
            path = number;
            variant = 0;
            if (withVariant && here() == '/') {
                at++;
                if (!readNumber(3)) {
                    return false;
                }
                variant = number;
            }
            return expect('\n');
        }

        boolean readEnd() {
            return expect('\n') && (at == length || no(at));
        }

        void skipLetters() {
            while (at < length && (here() == '-' || here() >= 'a' && here() <= 'z')) {
                at++;
            }
        }

        boolean readName() {
            wordStart = at;
            skipLetters();
            wordEnd = at;
            if (at == wordStart) {
                return no(at);
            }
            if (at - wordStart > MOST_NAME) {
                return no(wordStart);
            }
            if (here() != ':') {
                return no(at);
            }
            if (wasThere() || nameCount >= names.length) {
                return no(wordStart);
            }
            names[nameCount] = wordStart;
            nameCount++;
            at++;
            if (here() == ' ') {
                at++;
            }
            return true;
        }

        boolean wasThere() {
            for (int i = 0; i < nameCount; i++) {
                if (isSame(names[i], wordStart, wordEnd - wordStart)) {
                    return true;
                }
            }
            return false;
        }

        /** Whether count characters and the : behind them are the same at both places. */
        boolean isSame(int one, int other, int count) {
            for (int i = 0; i <= count; i++) {
                if (one + i >= length || other + i >= length || tape[one + i] != tape[other + i]) {
                    return false;
                }
            }
            return true;
        }

        /** Whether the word that was read last is this one. */
        boolean isWord(String word) {
            if (wordEnd - wordStart != word.length() || wordStart < 0 || wordEnd > tape.length) {
                return false;
            }
            for (int i = 0; i < word.length(); i++) {
                if (tape[wordStart + i] != word.charAt(i)) {
                    return false;
                }
            }
            return true;
        }

        boolean readToldValue() {
            if (isWord("length")) {
                boolean good = readNumber(255);
                told.length = number;
                return good;
            }
            if (isWord("cache-control")) {
                return readList(KEEPING);
            }
            if (isWord("vary")) {
                return readList(VARYING);
            }
            if (isWord("keys")) {
                return readKeys();
            }
            return skipValue();
        }

        boolean readAskedValue() {
            if (isWord("range")) {
                return readRange();
            }
            if (isWord("if-none-match")) {
                return readMatch();
            }
            if (isWord("if-range")) {
                boolean good = expect('"') && readNumber(MOST_NUMBER) && expect('"');
                conditions.ifRange = number;
                return good;
            }
            if (isWord("accept-language")) {
                return readList(LANGUAGES);
            }
            if (isWord("accept-encoding")) {
                return readList(FORMS);
            }
            if (isWord("cache-control")) {
                return readList(ASKED);
            }
            return skipValue();
        }

        boolean skipValue() {
            while (at < length && here() != '\n') {
                at++;
            }
            return true;
        }

        boolean readKeys() {
            for (int i = 0; i < KEYS; i++) {
                char c = here();
                if (c < 'a' || c > 'h') {
                    return no(at);
                }
                told.keys |= 1 << c - 'a';
                at++;
                if (i == KEYS - 1 || here() != ' ') {
                    break;
                }
                at++;
            }
            return true;
        }

        boolean readRange() {
            if (!expectText("bytes=")) {
                return false;
            }
            if (here() == '-') {
                at++;
                conditions.range = Conditions.TAIL;
                boolean good = readNumber(MOST_NUMBER);
                conditions.first = number;
                return good;
            }
            if (!readNumber(MOST_NUMBER)) {
                return false;
            }
            int first = number;
            int last = MOST_NUMBER;
            if (!expect('-')) {
                return false;
            }
            if (isDigit(here())) {
                if (!readNumber(MOST_NUMBER)) {
                    return false;
                }
                last = number;
            }
            if (first <= last) {
                conditions.range = Conditions.SPAN;
                conditions.first = first;
                conditions.last = last;
            }
            return true;
        }

        boolean readMatch() {
            if (here() == '*') {
                at++;
                conditions.anyTag = true;
                return true;
            }
            for (int i = 0; i < conditions.tags.length; i++) {
                if (!expect('"') || !readNumber(MOST_NUMBER) || !expect('"')) {
                    return false;
                }
                conditions.addTag(number);
                if (i == conditions.tags.length - 1 || here() != ',') {
                    break;
                }
                at++;
                if (!expect(' ')) {
                    return false;
                }
            }
            return true;
        }

        boolean readList(int kind) {
            for (int i = 0; i < MOST_TAPE; i++) {
                if (!readWord()) {
                    return false;
                }
                if (kind == LANGUAGES) {
                    weighLanguage();
                } else if (kind == FORMS) {
                    weighForm();
                } else if (kind == ASKED) {
                    countAsked();
                } else if (kind == KEEPING) {
                    countKeeping();
                } else {
                    countVarying();
                }
                if (here() != ',') {
                    return true;
                }
                at++;
                if (!expect(' ')) {
                    return false;
                }
            }
            return no(at);
        }

        boolean readWord() {
            wordStart = at;
            skipLetters();
            wordEnd = at;
            if (at == wordStart) {
                return no(at);
            }
            if (at - wordStart > MOST_WORD) {
                return no(wordStart);
            }
            bare = here() != '=';
            if (bare) {
                return true;
            }
            at++;
            return readNumber(MOST_NUMBER);
        }

        void weighLanguage() {
            int weight = bare ? 9 : number;
            if (isWord("en")) {
                weights[0] = weight;
            } else if (isWord("de")) {
                weights[1] = weight;
            } else if (isWord("fr")) {
                weights[2] = weight;
            } else if (isWord("it")) {
                weights[3] = weight;
            }
        }

        void weighForm() {
            if (isWord("gzip")) {
                request.form = bare || number > 0 ? 1 : 0;
            }
        }

        void countAsked() {
            if (isWord("max-stale")) {
                request.maxStale = bare ? ANY_AGE : number;
            } else if (bare && isWord("no-cache")) {
                request.forced = true;
            } else if (bare && isWord("only-if-cached")) {
                request.onlyIfCached = true;
            } else if (!bare && isWord("max-age")) {
                request.maxAge = number;
            } else if (!bare && isWord("min-fresh")) {
                request.minFresh = number;
            }
        }

        void countKeeping() {
            if (bare && isWord("no-store")) {
                told.noStore = true;
            } else if (bare && isWord("no-cache")) {
                told.noCache = true;
            } else if (!bare && isWord("max-age")) {
                told.maxAge = number;
            } else if (!bare && isWord("stale-if-error")) {
                told.staleIfError = number;
            } else if (!bare && isWord("stale-while-revalidate")) {
                told.staleWhile = number;
            }
        }

        void countVarying() {
            if (bare && isWord("accept-language")) {
                told.vary |= 1;
            } else if (bare && isWord("accept-encoding")) {
                told.vary |= 2;
            }
        }
    }
}
