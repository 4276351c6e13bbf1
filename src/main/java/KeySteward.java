import java.util.Arrays;
import java.util.NoSuchElementException;

/** A server of keys that answers requests of four connections and logs every change ahead of its answer. */
public final class KeySteward {
    public static final int NONE = -1;

    private static final int CONNECTIONS = 4;
    private static final int TAPE_MOST = 65540;
    private static final int INPUT_MOST = 65536;
    private static final int LOG_MOST = 1 << 26;
    private static final int TURNS_MOST = 1 << 20;
    private static final int REWRITE_WORDS = 1000;
    private static final long CLOCK_MOST = 1L << 52;
    private static final long NEVER = Long.MAX_VALUE;

    private final Bytes tape = new Bytes(TAPE_MOST);
    private final Bytes mute = new Bytes(0);
    private final Connection[] connections;
    private final Words words;
    private final Request ask;
    private final Keys keys;
    private final Texts texts;
    private final Lists lists;
    private final Members members;
    private final Orders orders;
    private Bytes journal = new Bytes(LOG_MOST);
    private Bytes nextJournal = new Bytes(LOG_MOST);
    private Bytes running = new Bytes(LOG_MOST);
    private boolean runsBlock;
    private boolean notedBlock;
    private int blockPlace;
    private int fuseLeft = NONE;
    private boolean up = true;

    public KeySteward() {
        Connection[] all = new Connection[CONNECTIONS];
        for (int i = 0; i < all.length; i++) {
            all[i] = new Connection();
        }
        Words known = new Words();
        Request request = new Request(known);
        Keys held = new Keys(known, request, all);
        connections = all;
        words = known;
        ask = request;
        keys = held;
        texts = new Texts(request, held);
        lists = new Lists(known, request, held);
        members = new Members(known, request, held);
        orders = new Orders(known, request, held);
    }

    public boolean feed(int a, int b, int c, int d, int e) {
        if (tape.size > TAPE_MOST - 20) {
            return false;
        }
        tape.four(a);
        tape.four(b);
        tape.four(c);
        tape.four(d);
        tape.four(e);
        return true;
    }

    public boolean end(int n) {
        if (n < 0 || n > tape.size) {
            return false;
        }
        tape.cut(n);
        return true;
    }

    public int send(int connection) {
        Connection c = connectionOf(connection);
        if (c == null || !c.live || !up) {
            tape.empty();
            return NONE;
        }
        c.input.append(tape.row, 0, tape.size);
        tape.empty();
        int done = 0;
        int place = 0;
        for (int turn = 0; turn < TURNS_MOST && up && c.live; turn++) {
            int state = ask.read(c.input.row, place, c.input.size);
            if (state == Request.PART) {
                break;
            }
            place = ask.next;
            if (state != Request.WHOLE) {
                c.fail(state);
            } else if (ask.count > 0) {
                done++;
                int before = journal.size;
                int many = admit(c);
                for (int i = 0; i < many; i++) {
                    nextOfBlock();
                    perform(c);
                }
                finish(c, before);
            }
        }
        keepRest(c, place);
        return up ? done : NONE;
    }

    public boolean open(int connection) {
        Connection c = connectionOf(connection);
        if (c == null || !up) {
            return false;
        }
        c.close();
        c.output.empty();
        c.live = true;
        return true;
    }

    public boolean isOpen(int connection) {
        Connection c = connectionOf(connection);
        return c != null && c.live;
    }

    public int out(int connection) {
        Connection c = connectionOf(connection);
        return c == null ? NONE : c.output.size;
    }

    public int outAt(int connection, int i) throws NoSuchElementException {
        Connection c = connectionOf(connection);
        if (c == null || i < 0 || i >= c.output.size) {
            throw new NoSuchElementException();
        }
        return c.output.at(i);
    }

    public boolean take(int connection, int n) {
        Connection c = connectionOf(connection);
        if (c == null || n < 0 || n > c.output.size) {
            return false;
        }
        c.output.drop(n);
        return true;
    }

    public int pass(long thousandths) {
        if (thousandths < 0 || !up || thousandths > CLOCK_MOST - keys.clock) {
            return NONE;
        }
        keys.clock += thousandths;
        int before = journal.size;
        int went = expire();
        burn(before);
        return up ? went : NONE;
    }

    public long now() {
        return keys.clock;
    }

    public void fuse(int bytes) {
        fuseLeft = bytes < 0 ? NONE : bytes;
    }

    public boolean crash() {
        if (!up) {
            return false;
        }
        halt();
        return true;
    }

    public int restart() {
        if (up) {
            return NONE;
        }
        up = true;
        fuseLeft = NONE;
        keys.replaying = true;
        int ran = 0;
        int place = 0;
        int stop = recordEnd(place);
        for (int turn = 0; turn < TURNS_MOST && stop != NONE; turn++) {
            for (int step = 0; step < TURNS_MOST && place < stop; step++) {
                ask.read(journal.row, place, stop);
                ask.begin(mute);
                place = ask.next;
                perform(null);
            }
            ran++;
            stop = recordEnd(place);
        }
        journal.cut(place);
        keys.replaying = false;
        expire();
        return ran;
    }

    public int rewrite() {
        if (!up) {
            return NONE;
        }
        nextJournal.empty();
        for (int i = 0; i < keys.count; i++) {
            tellKey(keys.idAt(i), keys.valueAt(i));
        }
        if (fuseLeft >= 0 && nextJournal.size > fuseLeft) {
            fuseLeft = 0;
            halt();
            return NONE;
        }
        if (fuseLeft >= 0) {
            fuseLeft -= nextJournal.size;
        }
        Bytes old = journal;
        journal = nextJournal;
        nextJournal = old;
        return journal.size;
    }

    public int log() {
        return journal.size;
    }

    public int logAt(int i) throws NoSuchElementException {
        if (i < 0 || i >= journal.size) {
            throw new NoSuchElementException();
        }
        return journal.at(i);
    }

    public boolean tear(int n) {
        if (up || n < 0 || n > journal.size) {
            return false;
        }
        journal.cut(n);
        return true;
    }

    public boolean isUp() {
        return up;
    }

    public int total(int what) {
        if (what < 0 || what > 2) {
            return NONE;
        }
        if (!up) {
            return 0;
        }
        return what == 0 ? keys.count : what == 1 ? keys.memory : keys.timed;
    }

    private Connection connectionOf(int connection) {
        return connection < 0 || connection >= connections.length ? null : connections[connection];
    }

    private void keepRest(Connection c, int place) {
        if (!c.live) {
            return;
        }
        c.input.drop(place);
        if (c.input.size > INPUT_MOST) {
            c.close();
        }
    }

    /** The server is gone with all that is not on the disk. */
    private void halt() {
        up = false;
        runsBlock = false;
        for (Connection c : connections) {
            c.close();
            c.output.empty();
        }
        keys.forget();
        words.forget();
    }

    /** Takes what was logged since then out of the fuse; behind its end nothing reached the disk. */
    private void burn(int before) {
        int written = journal.size - before;
        if (fuseLeft < 0) {
            return;
        }
        if (written <= fuseLeft) {
            fuseLeft -= written;
            return;
        }
        journal.cut(before + fuseLeft);
        fuseLeft = 0;
        halt();
    }

    /** Looks at a request ahead of its command: how many commands are to be run for it now. */
    private int admit(Connection c) {
        ask.begin(c.output);
        Command command = ask.command;
        if (command == null || !command.takes(ask.count - 1)) {
            c.spoilt = c.queues;
            ask.refuse(command == null ? "ERR unknown" : "ERR arity");
            return 0;
        }
        if (c.channelCount > 0 && !command.has(Command.FREE)) {
            ask.refuse("ERR mode");
            return 0;
        }
        if (!c.queues) {
            return 1;
        }
        switch (command) {
            case EXEC:
                return beginBlock(c);
            case DISCARD:
            case MULTI:
            case WATCH:
            case QUIT:
                return 1;
            case SUBSCRIBE:
            case UNSUBSCRIBE:
                c.spoilt = true;
                ask.refuse("ERR mode");
                return 0;
            default:
                c.queue(ask);
                return 0;
        }
    }

    /** EXEC of a connection with a block: how many of its commands are to be run. */
    private int beginBlock(Connection c) {
        int many = 0;
        if (c.spoilt) {
            ask.refuse("EXECABORT");
        } else if (c.dirty) {
            c.output.nilRow();
        } else {
            many = c.queued;
            c.output.rowHead(many);
            // The two rows change places, so that the connection's next block needs no new one.
            Bytes told = c.block;
            c.block = running;
            running = told;
            runsBlock = true;
            notedBlock = false;
            blockPlace = 0;
        }
        c.endBlock();
        return many;
    }

    private void nextOfBlock() {
        if (!runsBlock) {
            return;
        }
        Bytes answer = ask.answer;
        ask.read(running.row, blockPlace, running.size);
        blockPlace = ask.next;
        ask.begin(answer);
    }

    private void perform(Connection c) {
        keys.changed = false;
        ask.form = Request.PLAIN;
        Command command = ask.command;
        if (command == null) {
            return;
        }
        switch (command.group) {
            case Command.TEXTS:
                texts.run(command);
                break;
            case Command.KEYED:
                keys.run(command);
                break;
            case Command.LISTS:
                lists.run(command);
                break;
            case Command.HASHES:
                members.runHash(command);
                break;
            case Command.SETS:
                members.runSet(command);
                break;
            case Command.ORDERS:
                orders.run(command);
                break;
            default:
                runOther(command, c);
                break;
        }
        ask.tellRefusal();
        if (keys.changed && !keys.replaying) {
            note();
        }
    }

    /** What is due behind a request or a whole block. */
    private void finish(Connection c, int before) {
        ask.tellRefusal();
        if (runsBlock && notedBlock) {
            journal.rowHead(1);
            journal.text("EXEC");
        }
        runsBlock = false;
        burn(before);
        if (c.output.burst) {
            c.close();
        }
    }

    /** Logs the command that changed something. */
    private void note() {
        if (runsBlock && !notedBlock) {
            journal.rowHead(1);
            journal.text("MULTI");
            notedBlock = true;
        }
        switch (ask.form) {
            case Request.AS_SET:
                noteSet();
                break;
            case Request.AS_TIME:
                journal.rowHead(3);
                journal.text("PEXPIREAT");
                ask.copyWord(1, journal);
                journal.numberWord(ask.time);
                break;
            case Request.AS_DEL:
                journal.rowHead(2);
                journal.text("DEL");
                ask.copyWord(1, journal);
                break;
            default:
                journal.rowHead(ask.count);
                journal.text(ask.command == null ? "" : ask.command.text);
                for (int i = 1; i < ask.count; i++) {
                    ask.copyWord(i, journal);
                }
                break;
        }
    }

    private void noteSet() {
        boolean timed = ask.time != NEVER;
        journal.rowHead(ask.keeps ? 4 : timed ? 5 : 3);
        journal.text("SET");
        ask.copyWord(1, journal);
        ask.copyWord(ask.valueIndex, journal);
        if (ask.keeps) {
            journal.text("KEEPTTL");
        } else if (timed) {
            journal.text("PXAT");
            journal.numberWord(ask.time);
        }
    }

    /** All keys whose time has come go, rising, and each is logged: how many. */
    private int expire() {
        if (keys.timed == 0) {
            return 0;
        }
        int went = 0;
        int place = 0;
        int all = keys.count;
        for (int i = 0; i < all; i++) {
            Value value = keys.valueAt(place);
            if (value == null || value.ends > keys.clock) {
                place++;
                continue;
            }
            int id = keys.idAt(place);
            journal.rowHead(2);
            journal.text("DEL");
            words.copyWord(id, journal);
            keys.dropAt(place);
            keys.touch(id);
            went++;
        }
        return went;
    }

    /** Where the log's request, or block, that begins at a place ends; NONE when there is no whole one. */
    private int recordEnd(int place) {
        Command first = logged(place);
        if (first == null || first == Command.EXEC) {
            return NONE;
        }
        if (first != Command.MULTI) {
            return ask.next;
        }
        for (int step = 0; step < TURNS_MOST; step++) {
            Command inner = logged(ask.next);
            if (inner == null || inner == Command.MULTI) {
                return NONE;
            }
            if (inner == Command.EXEC) {
                return ask.next;
            }
        }
        return NONE;
    }

    /** The command of the log that begins at a place, or null when there is none. */
    private Command logged(int place) {
        if (place >= journal.size || journal.at(place) != '*'
                || ask.read(journal.row, place, journal.size) != Request.WHOLE || ask.count == 0) {
            return null;
        }
        ask.begin(mute);
        Command command = ask.command;
        boolean fits = command != null && command.has(Command.LOGGED) && command.takes(ask.count - 1);
        return fits ? command : null;
    }

    /** Tells one key to the new log. */
    private void tellKey(int id, Value value) {
        if (value == null) {
            return;
        }
        if (value.kind == Value.TEXT) {
            nextJournal.rowHead(3);
            nextJournal.text("SET");
            words.copyWord(id, nextJournal);
            nextJournal.word(keys.texts, value.start, value.size);
        } else {
            boolean pairs = value.kind == Value.HASH || value.kind == Value.ORDER;
            int part = pairs ? REWRITE_WORDS / 2 : REWRITE_WORDS;
            for (int from = 0; from < value.size; from += part) {
                tellPart(id, value, from, Math.min(value.size, from + part));
            }
        }
        if (value.ends != NEVER) {
            nextJournal.rowHead(3);
            nextJournal.text("PEXPIREAT");
            words.copyWord(id, nextJournal);
            nextJournal.numberWord(value.ends);
        }
    }

    private void tellPart(int id, Value value, int from, int to) {
        boolean pairs = value.kind == Value.HASH || value.kind == Value.ORDER;
        nextJournal.rowHead(2 + (pairs ? 2 : 1) * (to - from));
        nextJournal.text(value.kind == Value.LIST ? "RPUSH" : value.kind == Value.HASH ? "HSET"
                : value.kind == Value.SET ? "SADD" : "ZADD");
        words.copyWord(id, nextJournal);
        for (int i = from; i < to; i++) {
            if (value.kind == Value.ORDER) {
                nextJournal.numberWord(value.lineScoreAt(i));
                words.copyWord(value.otherAt(i), nextJournal);
            } else {
                words.copyWord(value.at(i), nextJournal);
            }
            if (value.kind == Value.HASH) {
                words.copyWord(value.otherAt(i), nextJournal);
            }
        }
    }

    private void runOther(Command command, Connection c) {
        if (c == null) {
            return;
        }
        switch (command) {
            case PING:
                if (ask.count > 1) {
                    ask.copyWord(1, ask.answer);
                } else {
                    ask.answer.line('+', "PONG");
                }
                break;
            case ECHO:
                ask.copyWord(1, ask.answer);
                break;
            case QUIT:
                ask.answer.line('+', "OK");
                c.close();
                break;
            case SUBSCRIBE:
                c.subscribe(ask, words);
                break;
            case UNSUBSCRIBE:
                c.unsubscribe(ask, words);
                break;
            case PUBLISH:
                publish();
                break;
            case TIME:
                ask.answer.rowHead(2);
                ask.answer.numberWord(keys.clock / 1000);
                ask.answer.numberWord(keys.clock % 1000);
                break;
            default:
                runBlockWord(command, c);
                break;
        }
    }

    /** The commands about blocks and watches. */
    private void runBlockWord(Command command, Connection c) {
        if (command == Command.WATCH) {
            c.watch(ask);
        } else if (command == Command.UNWATCH) {
            c.unwatch();
            ask.answer.line('+', "OK");
        } else if (command == Command.MULTI) {
            if (c.queues) {
                ask.refuse("ERR nested");
            } else {
                c.queues = true;
                ask.answer.line('+', "OK");
            }
        } else if (c.queues && command == Command.DISCARD) {
            c.endBlock();
            ask.answer.line('+', "OK");
        } else {
            ask.refuse("ERR none");
        }
    }

    private void publish() {
        int channel = ask.id(1);
        int had = 0;
        for (Connection c : connections) {
            if (words.find(c.channels, c.channelCount, channel) < 0) {
                continue;
            }
            had++;
            c.output.rowHead(3);
            c.output.text("message");
            ask.copyWord(1, c.output);
            ask.copyWord(2, c.output);
            if (c.output.burst) {
                c.close();
            }
        }
        ask.answer.number(had);
    }

    /** A row of bytes that grows up to a limit; what does not fit bursts it: it is empty then and takes no more. */
    private static final class Bytes {
        private static final int FIRST = 64;

        private final int most;
        byte[] row = new byte[FIRST];
        int size;
        boolean burst;

        Bytes(int most) {
            this.most = most;
        }

        void empty() {
            size = 0;
            burst = false;
        }

        /** Whether so many bytes more fit; the row is long enough for them then. */
        boolean room(int more) {
            if (burst) {
                return false;
            }
            if (more < 0 || more > most - size) {
                size = 0;
                burst = true;
                return false;
            }
            int need = size + more;
            if (need > row.length) {
                row = Arrays.copyOf(row, Math.max(need, Math.min(most, 2 * row.length)));
            }
            return true;
        }

        int at(int i) {
            return i < 0 || i >= row.length ? 0 : row[i] & 255;
        }

        void four(int number) {
            if (room(4)) {
                for (int i = 0; i < 4; i++) {
                    row[size + i] = (byte) (number >> 24 - 8 * i);
                }
                size += 4;
            }
        }

        void append(byte[] from, int at, int many) {
            if (at < 0 || many < 0 || many > from.length - at || !room(many)) {
                return;
            }
            System.arraycopy(from, at, row, size, many);
            size += many;
        }

        /** The first ones go. */
        void drop(int many) {
            if (many <= 0) {
                return;
            }
            int left = Math.max(size - many, 0);
            System.arraycopy(row, size - left, row, 0, left);
            size = left;
        }

        /** All behind the first ones go. */
        void cut(int many) {
            if (many >= 0 && many < size) {
                size = many;
            }
        }

        /** A mark, a number and the line's end. */
        void head(int mark, long number) {
            int width = width(number);
            if (room(width + 3)) {
                spellMark(mark);
                spell(number, width);
                spellEnd();
            }
        }

        void digits(long number) {
            int width = width(number);
            if (room(width)) {
                spell(number, width);
            }
        }

        void line(int mark, String text) {
            if (room(text.length() + 3)) {
                spellMark(mark);
                spellText(text);
                spellEnd();
            }
        }

        void word(byte[] from, int at, int many) {
            if (at < 0 || many < 0 || many > from.length - at) {
                return;
            }
            int width = width(many);
            if (room(width + many + 5)) {
                spellMark('$');
                spell(many, width);
                spellEnd();
                System.arraycopy(from, at, row, size, many);
                size += many;
                spellEnd();
            }
        }

        void text(String text) {
            int length = text.length();
            int width = width(length);
            if (room(width + length + 5)) {
                spellMark('$');
                spell(length, width);
                spellEnd();
                spellText(text);
                spellEnd();
            }
        }

        void numberWord(long number) {
            int length = width(number);
            int width = width(length);
            if (room(width + length + 5)) {
                spellMark('$');
                spell(length, width);
                spellEnd();
                spell(number, length);
                spellEnd();
            }
        }

        // What is spelt below has its room already.

        private void spellMark(int mark) {
            if (size < row.length) {
                row[size] = (byte) mark;
                size++;
            }
        }

        private void spellEnd() {
            if (size + 1 < row.length) {
                row[size] = '\r';
                row[size + 1] = '\n';
                size += 2;
            }
        }

        private void spellText(String text) {
            for (int i = 0; i < text.length() && size < row.length; i++) {
                row[size] = (byte) text.charAt(i);
                size++;
            }
        }

        /** The least number has no positive form, so the digits come of the negative one. */
        private void spell(long number, int width) {
            long rest = number < 0 ? number : -number;
            for (int i = size + width - 1; i >= size && i < row.length; i--) {
                row[i] = (byte) ('0' - rest % 10);
                rest /= 10;
            }
            if (number < 0 && size < row.length) {
                row[size] = '-';
            }
            size += width;
        }

        private static int width(long number) {
            int width = number < 0 ? 2 : 1;
            long rest = number / 10;
            for (int i = 0; i < 20 && rest != 0; i++) {
                width++;
                rest /= 10;
            }
            return width;
        }

        void number(long number) {
            head(':', number);
        }

        void nil() {
            head('$', NONE);
        }

        void rowHead(int many) {
            head('*', many);
        }

        void nilRow() {
            head('*', NONE);
        }
    }

    /** All words that keys, members and channels are made of, each held once and known by a number. */
    private static final class Words {
        private static final int HEADS = 1024;

        private byte[] bytes = new byte[1024];
        private int[] starts = new int[128];
        private int[] chain = new int[128];
        /** The number of the last word of each chain, and 1, so that 0 is none. */
        private final int[] heads = new int[HEADS];
        private int count;

        void forget() {
            count = 0;
            Arrays.fill(heads, 0);
        }

        int idOf(byte[] from, int at, int many) {
            int length = at < 0 || many < 0 || many > from.length - at ? 0 : many;
            int mix = length;
            for (int i = 0; i < length; i++) {
                mix = 31 * mix + from[at + i];
            }
            int head = (mix ^ mix >>> 15) & HEADS - 1;
            int id = heads[head] - 1;
            for (int step = 0; step < count && id >= 0 && id < chain.length; step++) {
                if (same(id, from, at, length)) {
                    return id;
                }
                id = chain[id];
            }
            return add(head, from, at, length);
        }

        private boolean same(int id, byte[] from, int at, int length) {
            int start = starts[id];
            if (starts[id + 1] - start != length) {
                return false;
            }
            for (int i = 0; i < length; i++) {
                if (bytes[start + i] != from[at + i]) {
                    return false;
                }
            }
            return true;
        }

        private int add(int head, byte[] from, int at, int length) {
            if (count + 2 > starts.length) {
                starts = Arrays.copyOf(starts, 2 * starts.length);
                chain = Arrays.copyOf(chain, 2 * chain.length);
            }
            int start = starts[count];
            if (length > bytes.length - start) {
                bytes = Arrays.copyOf(bytes, Math.max(start + length, 2 * bytes.length));
            }
            if (length > 0) {
                System.arraycopy(from, at, bytes, start, length);
            }
            chain[count] = heads[head] - 1;
            starts[count + 1] = start + length;
            count++;
            heads[head] = count;
            return count - 1;
        }

        int length(int id) {
            return id < 0 || id >= count ? 0 : starts[id + 1] - starts[id];
        }

        void copyWord(int id, Bytes to) {
            if (id >= 0 && id < count) {
                to.word(bytes, starts[id], starts[id + 1] - starts[id]);
            }
        }

        /** Below 0, 0 or above it as the first word is ahead of, the same as or behind the second one, rising. */
        int compare(int a, int b) {
            if (a == b || a < 0 || b < 0 || a >= count || b >= count) {
                return 0;
            }
            int startA = starts[a];
            int startB = starts[b];
            int lengthA = starts[a + 1] - startA;
            int lengthB = starts[b + 1] - startB;
            int shared = Math.min(lengthA, lengthB);
            for (int i = 0; i < shared; i++) {
                int more = (bytes[startA + i] & 255) - (bytes[startB + i] & 255);
                if (more != 0) {
                    return more;
                }
            }
            return lengthA - lengthB;
        }

        /** A word's place in a rising row; when it isn't there, -1 minus the place that it would have. */
        int find(int[] row, int size, int id) {
            int low = 0;
            int high = Math.min(size, row.length);
            while (low < high) {
                int middle = low + high >>> 1;
                int order = compare(row[middle], id);
                if (order == 0) {
                    return middle;
                }
                if (order < 0) {
                    low = middle + 1;
                } else {
                    high = middle;
                }
            }
            return -1 - low;
        }

        /** Whether a word is an integer, which then stands in the request's number. */
        boolean isInteger(int id, Request ask) {
            return id >= 0 && id < count && ask.parse(bytes, starts[id], starts[id + 1] - starts[id]);
        }

        /** Whether a pattern, bytes from .. to of a row, fits a word. */
        boolean fits(byte[] pattern, int from, int to, int id) {
            if (from < 0 || to > pattern.length || id < 0 || id >= count) {
                return false;
            }
            int at = from;
            int place = starts[id];
            int end = starts[id + 1];
            int star = NONE;
            int behindStar = 0;
            long most = (end - place + 2L) * (to - from + 2L);
            for (long step = 0; step < most && place < end; step++) {
                int next = at >= to ? NONE : pattern[at] == '*' ? at : fitsOne(pattern, at, to, bytes[place] & 255);
                if (at < to && pattern[at] == '*') {
                    star = at;
                    behindStar = place;
                    at++;
                } else if (next >= 0) {
                    at = next;
                    place++;
                } else if (star >= 0) {
                    behindStar++;
                    place = behindStar;
                    at = star + 1;
                } else {
                    return false;
                }
            }
            while (at < to && pattern[at] == '*') {
                at++;
            }
            return place == end && at == to;
        }

        /** Where the pattern goes on behind the part at a place, if that fits one byte; else NONE. */
        private static int fitsOne(byte[] pattern, int at, int to, int b) {
            int mark = pattern[at];
            if (mark == '?') {
                return at + 1;
            }
            if (mark == '[') {
                return fitsClass(pattern, at + 1, to, b);
            }
            int plain = mark == '\\' && at + 1 < to ? at + 1 : at;
            return (pattern[plain] & 255) == b ? plain + 1 : NONE;
        }

        private static int fitsClass(byte[] pattern, int from, int to, int b) {
            boolean negated = from < to && pattern[from] == '^';
            int at = negated ? from + 1 : from;
            boolean found = false;
            while (at < to && pattern[at] != ']') {
                int first = plainAt(pattern, at, to);
                int last = first;
                if (first + 2 < to && pattern[first + 1] == '-' && pattern[first + 2] != ']') {
                    last = plainAt(pattern, first + 2, to);
                }
                found |= (pattern[first] & 255) <= b && b <= (pattern[last] & 255);
                at = last + 1;
            }
            return found == negated ? NONE : Math.min(at + 1, to);
        }

        /** Where the byte stands that a \ makes plain, or that stands there itself. */
        private static int plainAt(byte[] pattern, int at, int to) {
            return pattern[at] == '\\' && at + 1 < to ? at + 1 : at;
        }
    }

    /** The commands, rising by their names so that one is found by halving. */
    private enum Command {
        APPEND("APPEND", 2, 2, Command.TEXTS, Command.FILLS | Command.LOGGED),
        BITCOUNT("BITCOUNT", 1, 3, Command.TEXTS, Command.ODD),
        DBSIZE("DBSIZE", 0, 0, Command.KEYED, 0),
        DECR("DECR", 1, 1, Command.TEXTS, Command.FILLS | Command.LOGGED),
        DECRBY("DECRBY", 2, 2, Command.TEXTS, Command.FILLS | Command.LOGGED),
        DEL("DEL", 1, Command.ANY, Command.KEYED, Command.LOGGED),
        DISCARD("DISCARD", 0, 0, Command.OTHERS, 0),
        ECHO("ECHO", 1, 1, Command.OTHERS, 0),
        EXEC("EXEC", 0, 0, Command.OTHERS, Command.LOGGED),
        EXISTS("EXISTS", 1, Command.ANY, Command.KEYED, 0),
        EXPIRE("EXPIRE", 2, 2, Command.KEYED, 0),
        EXPIREAT("EXPIREAT", 2, 2, Command.KEYED, 0),
        FLUSHALL("FLUSHALL", 0, 0, Command.KEYED, Command.LOGGED),
        GET("GET", 1, 1, Command.TEXTS, 0),
        GETBIT("GETBIT", 2, 2, Command.TEXTS, 0),
        GETDEL("GETDEL", 1, 1, Command.TEXTS, 0),
        GETRANGE("GETRANGE", 3, 3, Command.TEXTS, 0),
        GETSET("GETSET", 2, 2, Command.TEXTS, Command.FILLS),
        HDEL("HDEL", 2, Command.ANY, Command.HASHES, Command.LOGGED),
        HEXISTS("HEXISTS", 2, 2, Command.HASHES, 0),
        HGET("HGET", 2, 2, Command.HASHES, 0),
        HGETALL("HGETALL", 1, 1, Command.HASHES, 0),
        HINCRBY("HINCRBY", 3, 3, Command.HASHES, Command.FILLS | Command.LOGGED),
        HKEYS("HKEYS", 1, 1, Command.HASHES, 0),
        HLEN("HLEN", 1, 1, Command.HASHES, 0),
        HMGET("HMGET", 2, Command.ANY, Command.HASHES, 0),
        HSET("HSET", 3, Command.ANY, Command.HASHES, Command.FILLS | Command.LOGGED | Command.ODD),
        HSETNX("HSETNX", 3, 3, Command.HASHES, Command.FILLS | Command.LOGGED),
        HSTRLEN("HSTRLEN", 2, 2, Command.HASHES, 0),
        HVALS("HVALS", 1, 1, Command.HASHES, 0),
        INCR("INCR", 1, 1, Command.TEXTS, Command.FILLS | Command.LOGGED),
        INCRBY("INCRBY", 2, 2, Command.TEXTS, Command.FILLS | Command.LOGGED),
        KEYS("KEYS", 1, 1, Command.KEYED, 0),
        LINDEX("LINDEX", 2, 2, Command.LISTS, 0),
        LINSERT("LINSERT", 4, 4, Command.LISTS, Command.FILLS | Command.LOGGED),
        LLEN("LLEN", 1, 1, Command.LISTS, 0),
        LMOVE("LMOVE", 4, 4, Command.LISTS, Command.FILLS | Command.LOGGED),
        LPOP("LPOP", 1, 2, Command.LISTS, Command.LOGGED),
        LPUSH("LPUSH", 2, Command.ANY, Command.LISTS, Command.FILLS | Command.LOGGED),
        LPUSHX("LPUSHX", 2, Command.ANY, Command.LISTS, Command.FILLS | Command.LOGGED),
        LRANGE("LRANGE", 3, 3, Command.LISTS, 0),
        LREM("LREM", 3, 3, Command.LISTS, Command.LOGGED),
        LSET("LSET", 3, 3, Command.LISTS, Command.FILLS | Command.LOGGED),
        LTRIM("LTRIM", 3, 3, Command.LISTS, Command.LOGGED),
        MGET("MGET", 1, Command.ANY, Command.TEXTS, 0),
        MSET("MSET", 2, Command.ANY, Command.TEXTS, Command.FILLS | Command.LOGGED | Command.EVEN),
        MSETNX("MSETNX", 2, Command.ANY, Command.TEXTS, Command.FILLS | Command.LOGGED | Command.EVEN),
        MULTI("MULTI", 0, 0, Command.OTHERS, Command.LOGGED),
        PERSIST("PERSIST", 1, 1, Command.KEYED, Command.LOGGED),
        PEXPIRE("PEXPIRE", 2, 2, Command.KEYED, 0),
        PEXPIREAT("PEXPIREAT", 2, 2, Command.KEYED, Command.LOGGED),
        PING("PING", 0, 1, Command.OTHERS, Command.FREE),
        PSETEX("PSETEX", 3, 3, Command.TEXTS, Command.FILLS),
        PTTL("PTTL", 1, 1, Command.KEYED, 0),
        PUBLISH("PUBLISH", 2, 2, Command.OTHERS, 0),
        QUIT("QUIT", 0, 0, Command.OTHERS, Command.FREE),
        RENAME("RENAME", 2, 2, Command.KEYED, Command.LOGGED),
        RENAMENX("RENAMENX", 2, 2, Command.KEYED, Command.LOGGED),
        RPOP("RPOP", 1, 2, Command.LISTS, Command.LOGGED),
        RPOPLPUSH("RPOPLPUSH", 2, 2, Command.LISTS, Command.FILLS | Command.LOGGED),
        RPUSH("RPUSH", 2, Command.ANY, Command.LISTS, Command.FILLS | Command.LOGGED),
        RPUSHX("RPUSHX", 2, Command.ANY, Command.LISTS, Command.FILLS | Command.LOGGED),
        SADD("SADD", 2, Command.ANY, Command.SETS, Command.FILLS | Command.LOGGED),
        SCARD("SCARD", 1, 1, Command.SETS, 0),
        SDIFF("SDIFF", 1, Command.ANY, Command.SETS, 0),
        SDIFFSTORE("SDIFFSTORE", 2, Command.ANY, Command.SETS, Command.FILLS | Command.LOGGED),
        SET("SET", 2, Command.ANY, Command.TEXTS, Command.FILLS | Command.LOGGED),
        SETBIT("SETBIT", 3, 3, Command.TEXTS, Command.FILLS | Command.LOGGED),
        SETEX("SETEX", 3, 3, Command.TEXTS, Command.FILLS),
        SETNX("SETNX", 2, 2, Command.TEXTS, Command.FILLS),
        SETRANGE("SETRANGE", 3, 3, Command.TEXTS, Command.FILLS | Command.LOGGED),
        SINTER("SINTER", 1, Command.ANY, Command.SETS, 0),
        SINTERSTORE("SINTERSTORE", 2, Command.ANY, Command.SETS, Command.FILLS | Command.LOGGED),
        SISMEMBER("SISMEMBER", 2, 2, Command.SETS, 0),
        SMEMBERS("SMEMBERS", 1, 1, Command.SETS, 0),
        SMISMEMBER("SMISMEMBER", 2, Command.ANY, Command.SETS, 0),
        SMOVE("SMOVE", 3, 3, Command.SETS, Command.LOGGED),
        SPOP("SPOP", 1, 1, Command.SETS, Command.LOGGED),
        SREM("SREM", 2, Command.ANY, Command.SETS, Command.LOGGED),
        STRLEN("STRLEN", 1, 1, Command.TEXTS, 0),
        SUBSCRIBE("SUBSCRIBE", 1, Command.ANY, Command.OTHERS, Command.FREE),
        SUNION("SUNION", 1, Command.ANY, Command.SETS, 0),
        SUNIONSTORE("SUNIONSTORE", 2, Command.ANY, Command.SETS, Command.FILLS | Command.LOGGED),
        TIME("TIME", 0, 0, Command.OTHERS, 0),
        TTL("TTL", 1, 1, Command.KEYED, 0),
        TYPE("TYPE", 1, 1, Command.KEYED, 0),
        UNSUBSCRIBE("UNSUBSCRIBE", 0, Command.ANY, Command.OTHERS, Command.FREE),
        UNWATCH("UNWATCH", 0, 0, Command.OTHERS, 0),
        WATCH("WATCH", 1, Command.ANY, Command.OTHERS, 0),
        ZADD("ZADD", 3, Command.ANY, Command.ORDERS, Command.FILLS | Command.LOGGED),
        ZCARD("ZCARD", 1, 1, Command.ORDERS, 0),
        ZCOUNT("ZCOUNT", 3, 3, Command.ORDERS, 0),
        ZINCRBY("ZINCRBY", 3, 3, Command.ORDERS, Command.FILLS | Command.LOGGED),
        ZPOPMAX("ZPOPMAX", 1, 2, Command.ORDERS, Command.LOGGED),
        ZPOPMIN("ZPOPMIN", 1, 2, Command.ORDERS, Command.LOGGED),
        ZRANGE("ZRANGE", 3, Command.ANY, Command.ORDERS, 0),
        ZRANGEBYSCORE("ZRANGEBYSCORE", 3, Command.ANY, Command.ORDERS, 0),
        ZRANK("ZRANK", 2, 2, Command.ORDERS, 0),
        ZREM("ZREM", 2, Command.ANY, Command.ORDERS, Command.LOGGED),
        ZREMRANGEBYRANK("ZREMRANGEBYRANK", 3, 3, Command.ORDERS, Command.LOGGED),
        ZREMRANGEBYSCORE("ZREMRANGEBYSCORE", 3, 3, Command.ORDERS, Command.LOGGED),
        ZREVRANGE("ZREVRANGE", 3, Command.ANY, Command.ORDERS, 0),
        ZREVRANGEBYSCORE("ZREVRANGEBYSCORE", 3, Command.ANY, Command.ORDERS, 0),
        ZREVRANK("ZREVRANK", 2, 2, Command.ORDERS, 0),
        ZSCORE("ZSCORE", 2, 2, Command.ORDERS, 0);

        static final int TEXTS = 0;
        static final int KEYED = 1;
        static final int LISTS = 2;
        static final int HASHES = 3;
        static final int SETS = 4;
        static final int ORDERS = 5;
        static final int OTHERS = 6;

        /** Refused when the memory is full. */
        static final int FILLS = 1;
        /** May stand in the log. */
        static final int LOGGED = 2;
        /** An even number of args. */
        static final int EVEN = 4;
        /** An odd number of args. */
        static final int ODD = 8;
        /** Free to a connection that has channels. */
        static final int FREE = 16;

        static final int ANY = 1 << 20;

        private static final Command[] ALL = values();

        final String text;
        final int least;
        final int most;
        final int group;
        final int marks;

        Command(String text, int least, int most, int group, int marks) {
            this.text = text;
            this.least = least;
            this.most = most;
            this.group = group;
            this.marks = marks;
        }

        boolean has(int mark) {
            return (marks & mark) != 0;
        }

        boolean takes(int args) {
            boolean odd = (args & 1) != 0;
            return args >= least && args <= most && !(odd && has(EVEN)) && !(!odd && has(ODD));
        }

        /** The command whose name stands there, in letters of any size, or null. */
        static Command named(byte[] row, int at, int length) {
            int low = 0;
            int high = ALL.length;
            while (low < high) {
                int middle = low + high >>> 1;
                int order = compare(ALL[middle].text, row, at, length);
                if (order == 0) {
                    return ALL[middle];
                }
                if (order < 0) {
                    low = middle + 1;
                } else {
                    high = middle;
                }
            }
            return null;
        }

        static int compare(String name, byte[] row, int at, int length) {
            if (at < 0 || length > row.length - at) {
                return NONE;
            }
            int shared = Math.min(name.length(), length);
            for (int i = 0; i < shared; i++) {
                int b = row[at + i] & 255;
                int more = name.charAt(i) - (b >= 'a' && b <= 'z' ? b - 32 : b);
                if (more != 0) {
                    return more;
                }
            }
            return name.length() - length;
        }
    }

    /** The request that is looked at, where its words stand, and what its command finds out about them. */
    private static final class Request {
        static final int WHOLE = 0;
        static final int PART = 1;
        static final int COUNT = 2;
        static final int LENGTH = 3;
        static final int DOLLAR = 4;
        static final int ENDING = 5;
        static final int LINE = 6;

        static final int PLAIN = 0;
        static final int AS_SET = 1;
        static final int AS_TIME = 2;
        static final int AS_DEL = 3;

        private static final int WORDS_MOST = 1024;
        private static final int WORD_MOST = 16384;
        private static final int HEAD_MOST = 16;
        private static final int LINE_MOST = 2048;
        private static final int BAD = 7;

        private final Words words;
        private final int[] starts = new int[WORDS_MOST];
        private final int[] lengths = new int[WORDS_MOST];
        byte[] row = new byte[0];
        int count;
        int next;
        Bytes answer;
        private String refusal;
        Command command;
        long number;
        long first;
        int low;
        int high;
        int form;
        int valueIndex;
        boolean keeps;
        long time;

        Request(Words words) {
            this.words = words;
            answer = new Bytes(0);
        }

        /** Reads the request that begins at a place of a row: WHOLE, PART or its fault. */
        int read(byte[] from, int at, int size) {
            row = from;
            count = 0;
            next = at;
            if (at < 0 || at >= size || size > from.length) {
                return PART;
            }
            return from[at] == '*' ? readWords(at, size) : readLine(at, size);
        }

        private int readWords(int at, int size) {
            int state = readHead(at, size);
            if (state != WHOLE || number > WORDS_MOST) {
                return state == PART ? PART : COUNT;
            }
            int many = (int) Math.max(number, 0);
            int place = next;
            for (int i = 0; i < many; i++) {
                if (place >= size) {
                    return PART;
                }
                if (row[place] != '$') {
                    return DOLLAR;
                }
                state = readHead(place, size);
                if (state != WHOLE || number < 0 || number > WORD_MOST) {
                    return state == PART ? PART : LENGTH;
                }
                starts[i] = next;
                lengths[i] = (int) number;
                place = next + lengths[i] + 2;
                if (place - 2 < size && row[place - 2] != '\r' || place - 1 < size && row[place - 1] != '\n') {
                    return ENDING;
                }
                if (place > size) {
                    return PART;
                }
            }
            count = many;
            next = place;
            return WHOLE;
        }

        /** Reads a LINE: its number, and where it ends; PART, or BAD when it is none. */
        private int readHead(int at, int size) {
            int most = Math.min(size, at + HEAD_MOST);
            int end = at + 1;
            while (end + 1 < most && (row[end] != '\r' || row[end + 1] != '\n')) {
                end++;
            }
            if (end + 1 >= most) {
                return most < at + HEAD_MOST ? PART : BAD;
            }
            next = end + 2;
            boolean minus = row[at + 1] == '-';
            int first = minus ? at + 2 : at + 1;
            if (end - first < 1 || end - first > 6) {
                return BAD;
            }
            int told = 0;
            for (int i = first; i < end; i++) {
                if (row[i] < '0' || row[i] > '9') {
                    return BAD;
                }
                told = 10 * told + row[i] - '0';
            }
            number = minus ? -told : told;
            return WHOLE;
        }

        private int readLine(int at, int size) {
            int most = Math.min(size, at + LINE_MOST);
            int end = at;
            while (end < most && row[end] != '\n') {
                end++;
            }
            if (end == most) {
                return most < at + LINE_MOST ? PART : LINE;
            }
            next = end + 1;
            int to = end > at && row[end - 1] == '\r' ? end - 1 : end;
            int start = at;
            for (int i = at; i <= to; i++) {
                if (i == to || row[i] == ' ') {
                    if (i > start && count < WORDS_MOST) {
                        starts[count] = start;
                        lengths[count] = i - start;
                        count++;
                    }
                    start = i + 1;
                }
            }
            return WHOLE;
        }

        /** The first word is the command's; what it answers goes there. */
        void begin(Bytes to) {
            answer = to;
            command = count > 0 ? Command.named(row, starts[0], lengths[0]) : null;
        }

        /** The command is answered so when it has ended; it answers nothing else then. */
        void refuse(String text) {
            refusal = text;
        }

        void tellRefusal() {
            if (refusal != null) {
                answer.line('-', refusal);
                refusal = null;
            }
        }

        void accept() {
            answer.line('+', "OK");
        }

        int startOf(int i) {
            return i < 0 || i >= count ? 0 : starts[i];
        }

        int lengthOf(int i) {
            return i < 0 || i >= count ? 0 : lengths[i];
        }

        int id(int i) {
            return i < 0 || i >= count ? words.idOf(row, 0, 0) : words.idOf(row, starts[i], lengths[i]);
        }

        void copyWord(int i, Bytes to) {
            if (i >= 0 && i < count) {
                to.word(row, starts[i], lengths[i]);
            }
        }

        /** Whether a word is this one, which is in capitals, in letters of any size. */
        boolean is(int i, String text) {
            return i >= 0 && i < count && Command.compare(text, row, starts[i], lengths[i]) == 0;
        }

        /** Whether a word is no integer, which is answered; else number is it. */
        boolean lacksInteger(int i) {
            if (i >= 0 && i < count && parse(row, starts[i], lengths[i])) {
                return false;
            }
            refuse("ERR integer");
            return true;
        }

        /** Whether there are no two integers, which is answered; else first and number are they. */
        boolean lacksSpan(int i) {
            if (lacksInteger(i)) {
                return true;
            }
            first = number;
            return lacksInteger(i + 1);
        }

        /** Cuts the span first .. number to so many places, from low on and ahead of high. */
        void cutSpan(int size) {
            long from = first < 0 ? first + size : first;
            long to = number < 0 ? number + size : number;
            low = (int) Math.min(Math.max(from, 0), size);
            high = (int) Math.max(Math.min(to, size - 1L) + 1, low);
        }

        /** The place that number tells in so many, below 0 from the end; NONE when it isn't there. */
        int placeIn(int size) {
            long place = number < 0 ? number + size : number;
            return place < 0 || place >= size ? NONE : (int) place;
        }

        /** Whether these bytes are an integer, which then stands in number. */
        boolean parse(byte[] from, int at, int length) {
            if (at < 0 || length < 1 || length > 20 || length > from.length - at) {
                return false;
            }
            boolean minus = from[at] == '-';
            int start = minus ? at + 1 : at;
            int end = at + length;
            if (start == end || from[start] == '0' && length > 1) {
                return false;
            }
            // The least number has no positive form, so the negative one is built.
            long told = 0;
            for (int i = start; i < end; i++) {
                int digit = from[i] - '0';
                if (digit < 0 || digit > 9 || told < Long.MIN_VALUE / 10
                        || 10 * told < Long.MIN_VALUE + digit) {
                    return false;
                }
                told = 10 * told - digit;
            }
            if (!minus && told == Long.MIN_VALUE) {
                return false;
            }
            number = minus ? told : -told;
            return true;
        }

        /** Adds to number, or takes from it, or answers that what comes of it is beyond 64 bits. */
        boolean overflows(long more, boolean less) {
            long sum = less ? number - more : number + more;
            long wraps = less ? (number ^ more) & (number ^ sum) : (number ^ sum) & (more ^ sum);
            if (wraps < 0) {
                refuse("ERR overflow");
                return true;
            }
            number = sum;
            return false;
        }
    }

    /** One of those who send requests: what came, what is answered, its block, watches and channels. */
    private static final class Connection {
        private static final int OUTPUT_MOST = 65536;
        private static final int BLOCK_MOST = 200;
        private static final int WATCHES_MOST = 64;
        private static final int CHANNELS_MOST = 32;

        boolean live = true;
        final Bytes input = new Bytes(INPUT_MOST + TAPE_MOST);
        final Bytes output = new Bytes(OUTPUT_MOST);
        Bytes block = new Bytes(LOG_MOST);
        boolean queues;
        boolean spoilt;
        boolean dirty;
        int queued;
        private final int[] watches = new int[WATCHES_MOST];
        private int watchCount;
        final int[] channels = new int[CHANNELS_MOST];
        int channelCount;

        void close() {
            live = false;
            input.empty();
            endBlock();
            channelCount = 0;
        }

        void endBlock() {
            queues = false;
            spoilt = false;
            queued = 0;
            block.empty();
            unwatch();
        }

        void unwatch() {
            watchCount = 0;
            dirty = false;
        }

        void fail(int fault) {
            output.line('-', fault == Request.COUNT ? "ERR protocol: count"
                    : fault == Request.LENGTH ? "ERR protocol: length"
                    : fault == Request.DOLLAR ? "ERR protocol: dollar"
                    : fault == Request.ENDING ? "ERR protocol: ending" : "ERR protocol: line");
            close();
        }

        void queue(Request ask) {
            if (queued >= BLOCK_MOST) {
                spoilt = true;
                ask.refuse("ERR full");
                return;
            }
            queued++;
            block.rowHead(ask.count);
            for (int i = 0; i < ask.count; i++) {
                ask.copyWord(i, block);
            }
            output.line('+', "QUEUED");
        }

        private boolean watches(int id) {
            for (int i = 0; i < watchCount; i++) {
                if (watches[i] == id) {
                    return true;
                }
            }
            return false;
        }

        void touched(int id) {
            for (int i = 0; i < watchCount; i++) {
                dirty |= watches[i] == id;
            }
        }

        void watch(Request ask) {
            if (queues) {
                ask.refuse("ERR watch");
                return;
            }
            int before = watchCount;
            for (int i = 1; i < ask.count; i++) {
                int id = ask.id(i);
                if (watches(id)) {
                    continue;
                }
                if (watchCount == WATCHES_MOST) {
                    watchCount = before;
                    ask.refuse("ERR full");
                    return;
                }
                watches[watchCount] = id;
                watchCount++;
            }
            ask.accept();
        }

        void subscribe(Request ask, Words words) {
            for (int i = 1; i < ask.count; i++) {
                int id = ask.id(i);
                int place = words.find(channels, channelCount, id);
                if (place < 0 && channelCount == CHANNELS_MOST) {
                    output.line('-', "ERR full");
                    continue;
                }
                if (place < 0) {
                    place = -1 - place;
                    System.arraycopy(channels, place, channels, place + 1, channelCount - place);
                    channels[place] = id;
                    channelCount++;
                }
                output.rowHead(3);
                output.text("subscribe");
                ask.copyWord(i, output);
                output.number(channelCount);
            }
        }

        void unsubscribe(Request ask, Words words) {
            int many = ask.count > 1 ? ask.count - 1 : channelCount;
            for (int i = 0; i < many; i++) {
                int id = ask.count > 1 ? ask.id(i + 1) : channels[0];
                leave(words.find(channels, channelCount, id));
                output.rowHead(3);
                output.text("unsubscribe");
                words.copyWord(id, output);
                output.number(channelCount);
            }
            if (many == 0) {
                output.rowHead(3);
                output.text("unsubscribe");
                output.nil();
                output.number(0);
            }
        }

        private void leave(int place) {
            if (place >= 0 && place < channelCount) {
                channelCount--;
                System.arraycopy(channels, place + 1, channels, place, channelCount - place);
            }
        }
    }

    /**
     * What a key has. A text's bytes stand in the keys' row of texts, from start on. What others have stands in the
     * keys' row of cells, from start on, in parts of so many cells as there is room for. The first part of a list, a
     * set or a hash are its words, members or fields; a hash has their values in OTHERS. An order has its members
     * rising in the first part, with SCORES, and by their scores in OTHERS, with LINE_SCORES.
     */
    private static final class Value {
        static final int TEXT = 0;
        static final int LIST = 1;
        static final int HASH = 2;
        static final int SET = 3;
        static final int ORDER = 4;

        static final int FIRST = 0;
        static final int OTHERS = 1;
        static final int SCORES = 2;
        static final int LINE_SCORES = 3;

        private final Keys keys;
        int kind;
        int parts;
        long ends = NEVER;
        int weight;
        int counted;
        int size;
        int start;
        int room;

        Value(Keys keys) {
            this.keys = keys;
        }

        void become(int next) {
            kind = next;
            parts = next == TEXT ? 0 : next == ORDER ? 4 : next == HASH ? 2 : 1;
            clear();
        }

        void clear() {
            size = 0;
            start = 0;
            room = 0;
        }

        int at(int i) {
            int place = start + i;
            return i < 0 || i >= size || place >= keys.cells.length ? NONE : (int) keys.cells[place];
        }

        int otherAt(int i) {
            int place = start + OTHERS * room + i;
            return i < 0 || i >= size || place >= keys.cells.length ? NONE : (int) keys.cells[place];
        }

        long scoreAt(int i) {
            int place = start + SCORES * room + i;
            return i < 0 || i >= size || place >= keys.cells.length ? 0 : keys.cells[place];
        }

        long lineScoreAt(int i) {
            int place = start + LINE_SCORES * room + i;
            return i < 0 || i >= size || place >= keys.cells.length ? 0 : keys.cells[place];
        }

        /** A word of a part becomes another one. */
        void set(int part, int i, int id) {
            int place = start + part * room + i;
            if (i >= 0 && i < size && place < keys.cells.length) {
                keys.cells[place] = id;
            }
        }

        /** A cell comes to a place of a part, which has room for it. */
        private void put(int part, int i, long cell) {
            int place = start + part * room + i;
            int behind = size - i;
            if (behind < keys.cells.length - place) {
                System.arraycopy(keys.cells, place, keys.cells, place + 1, behind);
                keys.cells[place] = cell;
            }
        }

        /** So many cells of a part, from a place on, go. */
        private void cut(int part, int i, int many) {
            int place = start + part * room + i;
            int behind = size - i - many;
            if (many + behind <= keys.cells.length - place) {
                System.arraycopy(keys.cells, place + many, keys.cells, place, behind);
            }
        }

        /** A list's word, a set's member or a hash's field, for which there is room, comes to a place. */
        void insert(int place, int id, int other) {
            if (place < 0 || place > size || size >= room) {
                return;
            }
            put(FIRST, place, id);
            if (kind == HASH) {
                put(OTHERS, place, other);
            }
            size++;
        }

        /** So many from a place on go. */
        void removeFrom(int place, int many) {
            if (place < 0 || many <= 0 || many > size - place) {
                return;
            }
            cut(FIRST, place, many);
            if (kind == HASH) {
                cut(OTHERS, place, many);
            }
            size -= many;
        }

        /** A member, for which there is room, comes to a place of the row and one of the line. */
        void insertScored(int place, int linePlace, int id, long score) {
            if (place < 0 || place > size || linePlace < 0 || linePlace > size || size >= room) {
                return;
            }
            put(FIRST, place, id);
            put(SCORES, place, score);
            put(OTHERS, linePlace, id);
            put(LINE_SCORES, linePlace, score);
            size++;
        }

        void removeScored(int place, int linePlace) {
            if (place < 0 || place >= size || linePlace < 0 || linePlace >= size) {
                return;
            }
            cut(FIRST, place, 1);
            cut(SCORES, place, 1);
            cut(OTHERS, linePlace, 1);
            cut(LINE_SCORES, linePlace, 1);
            size--;
        }
    }

    /** All keys, rising, with their values; what they weigh; and the commands about keys of any sort. */
    private static final class Keys {
        private static final int KEY_WEIGHT = 64;
        private static final int MEMORY_FULL = 60000;
        private static final int TEXT_MOST = 16384;
        private static final int ROW_FIRST = 64;
        private static final int ROW_MOST = 1 << 20;
        private static final long TIME_MOST = 9007199254740991L;

        private final Words words;
        private final Request ask;
        private final Connection[] watchers;
        private int[] ids = new int[64];
        /** Behind the first count slots, which go with ids, stand those of values that no key has now. */
        private int[] slots = new int[64];
        private Value[] shelf = new Value[64];
        private int made;
        /** What all keys have stands in two rows, so that no key that comes or grows needs a new row of its own. */
        byte[] texts = new byte[ROW_FIRST];
        private byte[] nextTexts = new byte[0];
        private int textsEnd;
        long[] cells = new long[ROW_FIRST];
        private long[] nextCells = new long[0];
        private int cellsEnd;
        int count;
        int memory;
        int timed;
        long clock;
        boolean replaying;
        boolean changed;

        Keys(Words words, Request ask, Connection[] watchers) {
            this.words = words;
            this.ask = ask;
            this.watchers = watchers;
        }

        void forget() {
            int all = count;
            for (int i = 0; i < all; i++) {
                dropAt(count - 1);
            }
            textsEnd = 0;
            cellsEnd = 0;
        }

        int idAt(int place) {
            return place < 0 || place >= count ? NONE : ids[place];
        }

        Value valueAt(int place) {
            if (place < 0 || place >= count) {
                return null;
            }
            int slot = slots[place];
            return slot < 0 || slot >= made ? null : shelf[slot];
        }

        Value find(int id) {
            int place = words.find(ids, count, id);
            return place < 0 ? null : valueAt(place);
        }

        /** The value of a key, that of a new one when there is none: empty, of this sort, without a time. */
        Value fresh(int id, int kind) {
            int place = words.find(ids, count, id);
            if (place < 0) {
                place = -1 - place;
                if (count == made) {
                    addValue();
                }
                enter(place, id);
            }
            Value value = shelf[slots[place]];
            if (value.kind != kind) {
                value.become(kind);
            }
            setEnds(value, NEVER);
            value.size = 0;
            value.weight = 0;
            return value;
        }

        /** The value of a key, an empty one of this sort when there is none. */
        Value findOrMake(int id, int kind) {
            Value value = find(id);
            return value == null ? fresh(id, kind) : value;
        }

        /** A key takes the first slot that none has. */
        private void enter(int place, int id) {
            int slot = slots[count];
            System.arraycopy(ids, place, ids, place + 1, count - place);
            System.arraycopy(slots, place, slots, place + 1, count - place);
            ids[place] = id;
            slots[place] = slot;
            count++;
        }

        private void addValue() {
            if (made == shelf.length) {
                Value[] wider = new Value[2 * made];
                for (int i = 0; i < made; i++) {
                    wider[i] = shelf[i];
                }
                shelf = wider;
                ids = Arrays.copyOf(ids, 2 * made);
                slots = Arrays.copyOf(slots, 2 * made);
            }
            shelf[made] = new Value(this);
            slots[made] = made;
            made++;
        }

        /** A key leaves; its slot is the next that is taken. */
        private void leave(int place) {
            int slot = slots[place];
            count--;
            System.arraycopy(ids, place + 1, ids, place, count - place);
            System.arraycopy(slots, place + 1, slots, place, count - place);
            slots[count] = slot;
        }

        void dropAt(int place) {
            Value value = valueAt(place);
            if (value == null) {
                return;
            }
            leave(place);
            setEnds(value, NEVER);
            value.clear();
            memory -= value.counted;
            value.counted = 0;
        }

        boolean remove(int id) {
            int place = words.find(ids, count, id);
            if (place < 0) {
                return false;
            }
            dropAt(place);
            touch(id);
            changed = true;
            return true;
        }

        /** Counts what a change of a key's value made; a key whose value is empty is gone. */
        void settle(int id, Value value) {
            if (value == null) {
                return;
            }
            int weight = KEY_WEIGHT + words.length(id) + value.weight;
            memory += weight - value.counted;
            value.counted = weight;
            if (value.size == 0 && value.kind != Value.TEXT) {
                dropAt(words.find(ids, count, id));
            }
            touch(id);
            changed = true;
        }

        void touch(int id) {
            for (Connection c : watchers) {
                c.touched(id);
            }
        }

        void setEnds(Value value, long ends) {
            timed += (ends == NEVER ? 0 : 1) - (value.ends == NEVER ? 0 : 1);
            value.ends = ends;
        }

        /** A text gets room for so many bytes; it keeps those that it has. */
        void growText(Value value, int need) {
            if (need <= value.room) {
                return;
            }
            int room = Math.max(need, Math.min(2 * value.room, TEXT_MOST));
            if (room > texts.length - textsEnd) {
                packTexts(room);
            }
            if (room <= texts.length - textsEnd) {
                System.arraycopy(texts, value.start, texts, textsEnd, value.size);
                value.start = textsEnd;
                value.room = room;
                textsEnd += room;
            }
        }

        /** All texts move together into the other row; a longer one is made only when they would fill most of it. */
        private void packTexts(int more) {
            int held = more;
            for (int i = 0; i < made; i++) {
                held += shelf[i].kind == Value.TEXT ? shelf[i].size : 0;
            }
            int length = texts.length;
            while (held > length / 4 * 3 && length < ROW_MOST) {
                length *= 2;
            }
            if (held > length) {
                return;
            }
            byte[] packed = nextTexts.length < length ? new byte[length] : nextTexts;
            textsEnd = 0;
            for (int i = 0; i < made; i++) {
                Value value = shelf[i];
                if (value.kind == Value.TEXT) {
                    System.arraycopy(texts, value.start, packed, textsEnd, value.size);
                    value.start = textsEnd;
                    value.room = value.size;
                    textsEnd += value.size;
                }
            }
            nextTexts = texts;
            texts = packed;
        }

        /** A value that is no text gets room for so many in each of its parts; it keeps what it has. */
        void growCells(Value value, int need) {
            if (need <= value.room) {
                return;
            }
            int room = Math.max(need, 2 * value.room);
            int more = value.parts * room;
            if (more > cells.length - cellsEnd) {
                packCells(more);
            }
            if (more <= cells.length - cellsEnd) {
                for (int part = 0; part < value.parts; part++) {
                    System.arraycopy(cells, value.start + part * value.room, cells, cellsEnd + part * room, value.size);
                }
                value.start = cellsEnd;
                value.room = room;
                cellsEnd += more;
            }
        }

        /** As packTexts, of the cells. */
        private void packCells(int more) {
            int held = more;
            for (int i = 0; i < made; i++) {
                held += shelf[i].parts * shelf[i].size;
            }
            int length = cells.length;
            while (held > length / 4 * 3 && length < ROW_MOST) {
                length *= 2;
            }
            if (held > length) {
                return;
            }
            long[] packed = nextCells.length < length ? new long[length] : nextCells;
            cellsEnd = 0;
            for (int i = 0; i < made; i++) {
                Value value = shelf[i];
                for (int part = 0; part < value.parts; part++) {
                    System.arraycopy(cells, value.start + part * value.room, packed, cellsEnd, value.size);
                    cellsEnd += value.size;
                }
                if (value.parts > 0) {
                    value.start = cellsEnd - value.parts * value.size;
                    value.room = value.size;
                }
            }
            nextCells = cells;
            cells = packed;
        }

        /** As Words.find, in the first part of a value whose words stand rising there. */
        int placeOf(Value value, int id) {
            int low = 0;
            int high = value == null ? 0 : value.size;
            while (low < high) {
                int middle = low + high >>> 1;
                int order = words.compare(value.at(middle), id);
                if (order == 0) {
                    return middle;
                }
                if (order < 0) {
                    low = middle + 1;
                } else {
                    high = middle;
                }
            }
            return -1 - low;
        }

        /** Whether the memory is full for this command, which is answered. */
        boolean isFull() {
            Command command = ask.command;
            if (replaying || memory < MEMORY_FULL || command == null || !command.has(Command.FILLS)) {
                return false;
            }
            ask.refuse("OOM");
            return true;
        }

        /** Whether the memory is full, or a key of these args has another sort of value, which is answered. */
        boolean refuses(int first, int last, int kind) {
            if (isFull()) {
                return true;
            }
            for (int i = first; i <= last; i++) {
                Value value = find(ask.id(i));
                if (value != null && value.kind != kind) {
                    ask.refuse("WRONGTYPE");
                    return true;
                }
            }
            return false;
        }

        /** Whether the request's number makes no time, which is answered; else time is it. */
        boolean lacksTime(boolean seconds, boolean fromNow, long least) {
            long told = ask.number;
            boolean fits = told <= TIME_MOST && told >= least;
            long time = fits ? (seconds ? 1000 * told : told) + (fromNow ? clock : 0) : 0;
            if (!fits || time > TIME_MOST || time < -TIME_MOST) {
                ask.refuse("ERR time");
                return true;
            }
            ask.time = time;
            return false;
        }

        /** Whether a time that is told now has come already; in a replay nothing goes by time. */
        boolean isPast(long time) {
            return time <= clock && !replaying;
        }

        void run(Command command) {
            switch (command) {
                case DEL:
                    delete();
                    break;
                case EXISTS:
                    countThere();
                    break;
                case TYPE:
                    tellSort(find(ask.id(1)));
                    break;
                case RENAME:
                case RENAMENX:
                    rename(command == Command.RENAMENX);
                    break;
                case KEYS:
                    listFitting();
                    break;
                case DBSIZE:
                    ask.answer.number(count);
                    break;
                case FLUSHALL:
                    dropAll();
                    break;
                case PERSIST:
                    persist();
                    break;
                case TTL:
                case PTTL:
                    tellTimeLeft(command == Command.TTL);
                    break;
                default:
                    setTime(command);
                    break;
            }
        }

        private void delete() {
            int went = 0;
            for (int i = 1; i < ask.count; i++) {
                if (remove(ask.id(i))) {
                    went++;
                }
            }
            ask.answer.number(went);
        }

        private void countThere() {
            int there = 0;
            for (int i = 1; i < ask.count; i++) {
                if (find(ask.id(i)) != null) {
                    there++;
                }
            }
            ask.answer.number(there);
        }

        private void tellSort(Value value) {
            if (value == null) {
                ask.answer.line('+', "none");
                return;
            }
            ask.answer.line('+', value.kind == Value.TEXT ? "string" : value.kind == Value.LIST ? "list"
                    : value.kind == Value.HASH ? "hash" : value.kind == Value.SET ? "set" : "zset");
        }

        private void rename(boolean ifNew) {
            int from = ask.id(1);
            int to = ask.id(2);
            if (find(from) == null) {
                ask.refuse("ERR missing");
                return;
            }
            boolean moves = from != to && (!ifNew || find(to) == null);
            if (moves) {
                move(from, to);
            }
            if (ifNew) {
                ask.answer.number(moves ? 1 : 0);
            } else {
                ask.accept();
            }
        }

        /** The key that comes takes the slot of the one that leaves, and so its value and time. */
        private void move(int from, int to) {
            remove(to);
            int place = words.find(ids, count, from);
            if (place < 0) {
                return;
            }
            leave(place);
            int next = -1 - words.find(ids, count, to);
            enter(next, to);
            touch(from);
            settle(to, valueAt(next));
        }

        private void listFitting() {
            int from = ask.startOf(1);
            int to = from + ask.lengthOf(1);
            int fitting = 0;
            for (int i = 0; i < count; i++) {
                if (words.fits(ask.row, from, to, ids[i])) {
                    fitting++;
                }
            }
            ask.answer.rowHead(fitting);
            for (int i = 0; i < count; i++) {
                if (words.fits(ask.row, from, to, ids[i])) {
                    words.copyWord(ids[i], ask.answer);
                }
            }
        }

        private void dropAll() {
            changed = count > 0;
            int all = count;
            for (int i = 0; i < all; i++) {
                touch(ids[count - 1]);
                dropAt(count - 1);
            }
            ask.accept();
        }

        private void persist() {
            int id = ask.id(1);
            Value value = find(id);
            boolean had = value != null && value.ends != NEVER;
            if (had) {
                setEnds(value, NEVER);
                settle(id, value);
            }
            ask.answer.number(had ? 1 : 0);
        }

        private void tellTimeLeft(boolean seconds) {
            Value value = find(ask.id(1));
            if (value == null || value.ends == NEVER) {
                ask.answer.number(value == null ? -2 : -1);
                return;
            }
            long left = value.ends - clock;
            ask.answer.number(seconds ? (left + 500) / 1000 : left);
        }

        private void setTime(Command command) {
            boolean seconds = command == Command.EXPIRE || command == Command.EXPIREAT;
            boolean fromNow = command == Command.EXPIRE || command == Command.PEXPIRE;
            if (ask.lacksInteger(2) || lacksTime(seconds, fromNow, -TIME_MOST)) {
                return;
            }
            int id = ask.id(1);
            Value value = find(id);
            if (value == null) {
                ask.answer.number(0);
                return;
            }
            if (isPast(ask.time)) {
                ask.form = Request.AS_DEL;
                remove(id);
            } else {
                ask.form = Request.AS_TIME;
                setEnds(value, ask.time);
                settle(id, value);
            }
            ask.answer.number(1);
        }
    }

    /** The commands about texts. */
    private static final class Texts {
        private static final int SIZE_MOST = 16384;
        private static final int BIT_MOST = 131071;

        private static final int FREELY = 0;
        private static final int IF_NEW = 1;
        private static final int IF_THERE = 2;

        private static final int UNTOLD = 0;
        private static final int KEEP = 1;
        private static final int SECONDS = 2;
        private static final int THOUSANDTHS = 3;
        private static final int AT_SECOND = 4;
        private static final int AT_THOUSANDTH = 5;

        private final Request ask;
        private final Keys keys;
        private final Bytes numeral = new Bytes(32);
        private int condition;
        private boolean gets;
        private int timing;
        private int timeIndex;

        Texts(Request ask, Keys keys) {
            this.ask = ask;
            this.keys = keys;
        }

        void run(Command command) {
            switch (command) {
                case GET:
                case GETDEL:
                case STRLEN:
                    read(command);
                    break;
                case SET:
                    set();
                    break;
                case GETSET:
                    getSet();
                    break;
                case SETNX:
                    setNew();
                    break;
                case SETEX:
                case PSETEX:
                    setTimed(command == Command.SETEX);
                    break;
                case MGET:
                    readMany();
                    break;
                case MSET:
                case MSETNX:
                    setMany(command == Command.MSETNX);
                    break;
                case APPEND:
                    append();
                    break;
                case GETRANGE:
                    readPart();
                    break;
                case SETRANGE:
                    writePart();
                    break;
                case SETBIT:
                    setBit();
                    break;
                case GETBIT:
                    readBit();
                    break;
                case BITCOUNT:
                    countBits();
                    break;
                default:
                    count(command);
                    break;
            }
        }

        private void tell(Value value) {
            if (value == null || value.kind != Value.TEXT) {
                ask.answer.nil();
            } else {
                ask.answer.word(keys.texts, value.start, value.size);
            }
        }

        private void read(Command command) {
            if (keys.refuses(1, 1, Value.TEXT)) {
                return;
            }
            int id = ask.id(1);
            Value value = keys.find(id);
            if (command == Command.STRLEN) {
                ask.answer.number(value == null ? 0 : value.size);
                return;
            }
            tell(value);
            if (command == Command.GETDEL && value != null) {
                ask.form = Request.AS_DEL;
                keys.remove(id);
            }
        }

        private void readMany() {
            ask.answer.rowHead(ask.count - 1);
            for (int i = 1; i < ask.count; i++) {
                tell(keys.find(ask.id(i)));
            }
        }

        /** The text gets so many bytes, new ones 0. */
        private void stretch(Value value, int size) {
            keys.growText(value, size);
            int most = Math.min(size, value.room);
            if (most > value.size) {
                Arrays.fill(keys.texts, value.start + value.size, value.start + most, (byte) 0);
            }
            value.size = most;
            value.weight = most;
        }

        /** Bytes of a row come over those of the text from a place on. */
        private void overlay(Value value, int place, byte[] from, int at, int length) {
            if (place >= 0 && length <= value.size - place && at >= 0 && length <= from.length - at) {
                System.arraycopy(from, at, keys.texts, value.start + place, length);
            }
        }

        private void overlayArg(Value value, int place, int arg) {
            overlay(value, place, ask.row, ask.startOf(arg), ask.lengthOf(arg));
        }

        /** Puts a text that is logged as SET, with a time (NEVER for none); one that has come: the key is gone. */
        private void put(int arg, long time, boolean keeps) {
            int id = ask.id(1);
            if (keys.isPast(time)) {
                ask.form = Request.AS_DEL;
                keys.remove(id);
                return;
            }
            ask.form = Request.AS_SET;
            ask.valueIndex = arg;
            ask.keeps = keeps;
            ask.time = time;
            Value value = keys.fresh(id, Value.TEXT);
            stretch(value, ask.lengthOf(arg));
            overlayArg(value, 0, arg);
            keys.setEnds(value, time);
            keys.settle(id, value);
        }

        /** Reads the words behind SET k v; false when they don't fit. */
        private boolean readOptions() {
            condition = FREELY;
            gets = false;
            timing = UNTOLD;
            timeIndex = 0;
            for (int i = 3; i < ask.count; i++) {
                int told = ask.is(i, "NX") ? IF_NEW : ask.is(i, "XX") ? IF_THERE : FREELY;
                int way = timingOf(i);
                if (told != FREELY && condition == FREELY) {
                    condition = told;
                } else if (ask.is(i, "GET") && !gets) {
                    gets = true;
                } else if (way == KEEP && timing == UNTOLD) {
                    timing = KEEP;
                } else if (way > KEEP && timing == UNTOLD && i + 1 < ask.count) {
                    timing = way;
                    i++;
                    timeIndex = i;
                } else {
                    return false;
                }
            }
            return true;
        }

        private int timingOf(int i) {
            return ask.is(i, "KEEPTTL") ? KEEP : ask.is(i, "EX") ? SECONDS : ask.is(i, "PX") ? THOUSANDTHS
                    : ask.is(i, "EXAT") ? AT_SECOND : ask.is(i, "PXAT") ? AT_THOUSANDTH : UNTOLD;
        }

        private void set() {
            if (!readOptions()) {
                ask.refuse("ERR syntax");
                return;
            }
            boolean seconds = timing == SECONDS || timing == AT_SECOND;
            boolean fromNow = timing == SECONDS || timing == THOUSANDTHS;
            ask.time = NEVER;
            if (timeIndex > 0 && (ask.lacksInteger(timeIndex) || keys.lacksTime(seconds, fromNow, 1))) {
                return;
            }
            if (gets ? keys.refuses(1, 1, Value.TEXT) : keys.isFull()) {
                return;
            }
            Value old = keys.find(ask.id(1));
            boolean done = condition == FREELY || condition == IF_NEW == (old == null);
            if (gets) {
                tell(old);
            } else if (done) {
                ask.accept();
            } else {
                ask.answer.nil();
            }
            if (done) {
                boolean keeps = timing == KEEP;
                put(2, keeps && old != null ? old.ends : ask.time, keeps);
            }
        }

        private void getSet() {
            if (keys.refuses(1, 1, Value.TEXT)) {
                return;
            }
            tell(keys.find(ask.id(1)));
            put(2, NEVER, false);
        }

        private void setNew() {
            if (keys.isFull()) {
                return;
            }
            boolean done = keys.find(ask.id(1)) == null;
            if (done) {
                put(2, NEVER, false);
            }
            ask.answer.number(done ? 1 : 0);
        }

        private void setTimed(boolean seconds) {
            if (ask.lacksInteger(2) || keys.lacksTime(seconds, true, 1) || keys.isFull()) {
                return;
            }
            put(3, ask.time, false);
            ask.accept();
        }

        private void setMany(boolean ifNew) {
            if (keys.isFull()) {
                return;
            }
            boolean done = true;
            for (int i = 1; i < ask.count && ifNew; i += 2) {
                done &= keys.find(ask.id(i)) == null;
            }
            for (int i = 1; i < ask.count && done; i += 2) {
                int id = ask.id(i);
                Value value = keys.fresh(id, Value.TEXT);
                stretch(value, ask.lengthOf(i + 1));
                overlayArg(value, 0, i + 1);
                keys.settle(id, value);
            }
            if (ifNew) {
                ask.answer.number(done ? 1 : 0);
            } else {
                ask.accept();
            }
        }

        private void append() {
            if (keys.refuses(1, 1, Value.TEXT)) {
                return;
            }
            int id = ask.id(1);
            Value value = keys.find(id);
            int size = value == null ? 0 : value.size;
            if (ask.lengthOf(2) > SIZE_MOST - size) {
                ask.refuse("ERR size");
                return;
            }
            writeArg(id, value, size, 2);
        }

        /** An arg comes over the text, from a place on; answers how long that is then. */
        private void writeArg(int id, Value found, int place, int arg) {
            Value value = found == null ? keys.fresh(id, Value.TEXT) : found;
            stretch(value, Math.max(value.size, place + ask.lengthOf(arg)));
            overlayArg(value, place, arg);
            keys.settle(id, value);
            ask.answer.number(value.size);
        }

        private void readPart() {
            if (ask.lacksSpan(2) || keys.refuses(1, 1, Value.TEXT)) {
                return;
            }
            Value value = keys.find(ask.id(1));
            if (value == null) {
                ask.answer.text("");
                return;
            }
            ask.cutSpan(value.size);
            ask.answer.word(keys.texts, value.start + ask.low, ask.high - ask.low);
        }

        private void writePart() {
            if (ask.lacksInteger(2)) {
                return;
            }
            long place = ask.number;
            if (place < 0) {
                ask.refuse("ERR range");
                return;
            }
            if (keys.refuses(1, 1, Value.TEXT)) {
                return;
            }
            int id = ask.id(1);
            Value value = keys.find(id);
            int length = ask.lengthOf(3);
            if (length == 0) {
                ask.answer.number(value == null ? 0 : value.size);
            } else if (place > SIZE_MOST - length) {
                ask.refuse("ERR size");
            } else {
                writeArg(id, value, (int) place, 3);
            }
        }

        private void count(Command command) {
            boolean less = command == Command.DECR || command == Command.DECRBY;
            long step = 1;
            if (command == Command.INCRBY || command == Command.DECRBY) {
                if (ask.lacksInteger(2)) {
                    return;
                }
                step = ask.number;
            }
            if (keys.refuses(1, 1, Value.TEXT)) {
                return;
            }
            int id = ask.id(1);
            Value value = keys.find(id);
            ask.number = 0;
            if (value != null && !ask.parse(keys.texts, value.start, value.size)) {
                ask.refuse("ERR integer");
                return;
            }
            if (ask.overflows(step, less)) {
                return;
            }
            if (value == null) {
                value = keys.fresh(id, Value.TEXT);
            }
            numeral.empty();
            numeral.digits(ask.number);
            stretch(value, numeral.size);
            overlay(value, 0, numeral.row, 0, numeral.size);
            keys.settle(id, value);
            ask.answer.number(ask.number);
        }

        /** Whether an arg tells no bit's place, which is answered. */
        private boolean lacksBit(boolean fits) {
            if (fits && ask.number >= 0 && ask.number <= BIT_MOST) {
                return false;
            }
            ask.refuse("ERR range");
            return true;
        }

        private int byteAt(Value value, int i) {
            return value == null || i < 0 || i >= value.size ? 0 : keys.texts[value.start + i];
        }

        private void setBit() {
            boolean one = ask.is(3, "1");
            if (ask.lacksInteger(2) || lacksBit(one || ask.is(3, "0")) || keys.refuses(1, 1, Value.TEXT)) {
                return;
            }
            int id = ask.id(1);
            int place = (int) ask.number / 8;
            int bit = 128 >> (int) ask.number % 8;
            Value value = keys.findOrMake(id, Value.TEXT);
            stretch(value, Math.max(value.size, place + 1));
            int old = byteAt(value, place);
            if (place >= 0 && place < value.size) {
                keys.texts[value.start + place] = (byte) (one ? old | bit : old & ~bit);
            }
            keys.settle(id, value);
            ask.answer.number((old & bit) != 0 ? 1 : 0);
        }

        private void readBit() {
            if (ask.lacksInteger(2) || lacksBit(true) || keys.refuses(1, 1, Value.TEXT)) {
                return;
            }
            int bit = 128 >> (int) ask.number % 8;
            int there = byteAt(keys.find(ask.id(1)), (int) ask.number / 8);
            ask.answer.number((there & bit) != 0 ? 1 : 0);
        }

        private void countBits() {
            ask.first = 0;
            ask.number = -1;
            if (ask.count > 2 && ask.lacksSpan(2) || keys.refuses(1, 1, Value.TEXT)) {
                return;
            }
            Value value = keys.find(ask.id(1));
            ask.cutSpan(value == null ? 0 : value.size);
            int ones = 0;
            for (int i = ask.low; i < ask.high; i++) {
                ones += Integer.bitCount(byteAt(value, i) & 255);
            }
            ask.answer.number(ones);
        }
    }

    /** The commands about lists. */
    private static final class Lists {
        private static final int WORD_WEIGHT = 16;

        private final Words words;
        private final Request ask;
        private final Keys keys;

        Lists(Words words, Request ask, Keys keys) {
            this.words = words;
            this.ask = ask;
            this.keys = keys;
        }

        void run(Command command) {
            switch (command) {
                case LPUSH:
                case LPUSHX:
                    push(true, command == Command.LPUSHX);
                    break;
                case RPUSH:
                case RPUSHX:
                    push(false, command == Command.RPUSHX);
                    break;
                case LPOP:
                case RPOP:
                    pop(command == Command.LPOP);
                    break;
                case LRANGE:
                    readPart();
                    break;
                case LINDEX:
                    readOne();
                    break;
                case LSET:
                    setOne();
                    break;
                case LINSERT:
                    insertBeside();
                    break;
                case LREM:
                    removeSame();
                    break;
                case LTRIM:
                    trim();
                    break;
                case LMOVE:
                case RPOPLPUSH:
                    move(command == Command.LMOVE);
                    break;
                default:
                    tellLength();
                    break;
            }
        }

        private void add(Value list, int place, int id) {
            keys.growCells(list, list.size + 1);
            list.insert(place, id, NONE);
            list.weight += WORD_WEIGHT + words.length(id);
        }

        /** So many from a place on go. */
        private void removeFrom(Value list, int place, int many) {
            for (int i = place; i < place + many; i++) {
                list.weight -= WORD_WEIGHT + words.length(list.at(i));
            }
            list.removeFrom(place, many);
        }

        private void push(boolean left, boolean ifThere) {
            if (keys.refuses(1, 1, Value.LIST)) {
                return;
            }
            int id = ask.id(1);
            Value list = keys.find(id);
            if (list == null && ifThere) {
                ask.answer.number(0);
                return;
            }
            if (list == null) {
                list = keys.fresh(id, Value.LIST);
            }
            for (int i = 2; i < ask.count; i++) {
                add(list, left ? 0 : list.size, ask.id(i));
            }
            keys.settle(id, list);
            ask.answer.number(list.size);
        }

        private void pop(boolean left) {
            boolean told = ask.count > 2;
            ask.number = 1;
            if (told && ask.lacksInteger(2)) {
                return;
            }
            if (ask.number < 0) {
                ask.refuse("ERR range");
                return;
            }
            if (keys.refuses(1, 1, Value.LIST)) {
                return;
            }
            int id = ask.id(1);
            Value list = keys.find(id);
            if (list == null) {
                ask.answer.head(told ? '*' : '$', NONE);
                return;
            }
            int many = (int) Math.min(ask.number, list.size);
            if (told) {
                ask.answer.rowHead(many);
            }
            for (int i = 0; i < many; i++) {
                words.copyWord(list.at(left ? i : list.size - 1 - i), ask.answer);
            }
            if (many > 0) {
                removeFrom(list, left ? 0 : list.size - many, many);
                keys.settle(id, list);
            }
        }

        private void tellLength() {
            if (!keys.refuses(1, 1, Value.LIST)) {
                Value list = keys.find(ask.id(1));
                ask.answer.number(list == null ? 0 : list.size);
            }
        }

        private void readPart() {
            if (ask.lacksSpan(2) || keys.refuses(1, 1, Value.LIST)) {
                return;
            }
            Value list = keys.find(ask.id(1));
            ask.cutSpan(list == null ? 0 : list.size);
            ask.answer.rowHead(ask.high - ask.low);
            for (int i = ask.low; i < ask.high && list != null; i++) {
                words.copyWord(list.at(i), ask.answer);
            }
        }

        private void readOne() {
            if (ask.lacksInteger(2) || keys.refuses(1, 1, Value.LIST)) {
                return;
            }
            Value list = keys.find(ask.id(1));
            int place = list == null ? NONE : ask.placeIn(list.size);
            if (list == null || place < 0) {
                ask.answer.nil();
            } else {
                words.copyWord(list.at(place), ask.answer);
            }
        }

        private void setOne() {
            if (ask.lacksInteger(2) || keys.refuses(1, 1, Value.LIST)) {
                return;
            }
            int id = ask.id(1);
            Value list = keys.find(id);
            if (list == null) {
                ask.refuse("ERR missing");
                return;
            }
            int place = ask.placeIn(list.size);
            if (place < 0) {
                ask.refuse("ERR range");
                return;
            }
            int word = ask.id(3);
            list.weight += words.length(word) - words.length(list.at(place));
            list.set(Value.FIRST, place, word);
            keys.settle(id, list);
            ask.accept();
        }

        private void insertBeside() {
            boolean behind = ask.is(2, "AFTER");
            if (!behind && !ask.is(2, "BEFORE")) {
                ask.refuse("ERR syntax");
                return;
            }
            if (keys.refuses(1, 1, Value.LIST)) {
                return;
            }
            int id = ask.id(1);
            Value list = keys.find(id);
            if (list == null) {
                ask.answer.number(0);
                return;
            }
            int mark = ask.id(3);
            int place = 0;
            while (place < list.size && list.at(place) != mark) {
                place++;
            }
            if (place == list.size) {
                ask.answer.number(-1);
                return;
            }
            add(list, behind ? place + 1 : place, ask.id(4));
            keys.settle(id, list);
            ask.answer.number(list.size);
        }

        private void removeSame() {
            if (ask.lacksInteger(2) || keys.refuses(1, 1, Value.LIST)) {
                return;
            }
            int id = ask.id(1);
            Value list = keys.find(id);
            boolean fromEnd = ask.number < 0;
            // The least number has no positive form, so the negative one is counted.
            long left = ask.number == 0 ? Long.MIN_VALUE : fromEnd ? ask.number : -ask.number;
            int word = ask.id(3);
            int size = list == null ? 0 : list.size;
            int went = 0;
            for (int i = 0; i < size && -went > left; i++) {
                int place = fromEnd ? size - 1 - i : i - went;
                if (list.at(place) == word) {
                    removeFrom(list, place, 1);
                    went++;
                }
            }
            if (went > 0) {
                keys.settle(id, list);
            }
            ask.answer.number(went);
        }

        private void trim() {
            if (ask.lacksSpan(2) || keys.refuses(1, 1, Value.LIST)) {
                return;
            }
            int id = ask.id(1);
            Value list = keys.find(id);
            int size = list == null ? 0 : list.size;
            ask.cutSpan(size);
            if (list != null && ask.high - ask.low < size) {
                removeFrom(list, ask.high, size - ask.high);
                removeFrom(list, 0, ask.low);
                keys.settle(id, list);
            }
            ask.accept();
        }

        private void move(boolean endsTold) {
            boolean fromLeft = endsTold && ask.is(3, "LEFT");
            boolean toLeft = !endsTold || ask.is(4, "LEFT");
            if (endsTold && (!fromLeft && !ask.is(3, "RIGHT") || !toLeft && !ask.is(4, "RIGHT"))) {
                ask.refuse("ERR syntax");
                return;
            }
            if (keys.refuses(1, 2, Value.LIST)) {
                return;
            }
            int from = ask.id(1);
            int to = ask.id(2);
            Value source = keys.find(from);
            if (source == null) {
                ask.answer.nil();
                return;
            }
            int place = fromLeft ? 0 : source.size - 1;
            int word = source.at(place);
            words.copyWord(word, ask.answer);
            removeFrom(source, place, 1);
            if (from != to) {
                keys.settle(from, source);
            }
            // A list that moves a word within itself must not be gone between, so it is settled but once.
            Value target = from == to ? source : keys.findOrMake(to, Value.LIST);
            add(target, toLeft ? 0 : target.size, word);
            keys.settle(to, target);
        }
    }

    /** The commands about hashes and sets. */
    private static final class Members {
        private static final int PAIR_WEIGHT = 32;
        private static final int MEMBER_WEIGHT = 24;

        private final Words words;
        private final Request ask;
        private final Keys keys;
        private final Bytes numeral = new Bytes(32);
        /** The set that comes of several ones. */
        private int[] pot = new int[64];
        private int potSize;

        Members(Words words, Request ask, Keys keys) {
            this.words = words;
            this.ask = ask;
            this.keys = keys;
        }

        void runHash(Command command) {
            switch (command) {
                case HSET:
                    setFields();
                    break;
                case HSETNX:
                    setNewField();
                    break;
                case HGET:
                    readField();
                    break;
                case HMGET:
                    readFields();
                    break;
                case HDEL:
                    removeAll(Value.HASH);
                    break;
                case HEXISTS:
                    tellIfThere(Value.HASH);
                    break;
                case HLEN:
                    tellSize(Value.HASH);
                    break;
                case HSTRLEN:
                    tellFieldLength();
                    break;
                case HINCRBY:
                    addToField();
                    break;
                default:
                    tellAll(Value.HASH, command != Command.HVALS, command != Command.HKEYS);
                    break;
            }
        }

        void runSet(Command command) {
            switch (command) {
                case SADD:
                    addMembers();
                    break;
                case SREM:
                    removeAll(Value.SET);
                    break;
                case SISMEMBER:
                    tellIfThere(Value.SET);
                    break;
                case SMISMEMBER:
                    tellWhichThere();
                    break;
                case SCARD:
                    tellSize(Value.SET);
                    break;
                case SMEMBERS:
                    tellAll(Value.SET, true, false);
                    break;
                case SMOVE:
                    move();
                    break;
                case SPOP:
                    popLeast();
                    break;
                case SINTER:
                case SUNION:
                case SDIFF:
                    combine(command);
                    break;
                default:
                    combineAndStore(command);
                    break;
            }
        }

        private void tellSize(int kind) {
            if (!keys.refuses(1, 1, kind)) {
                Value value = keys.find(ask.id(1));
                ask.answer.number(value == null ? 0 : value.size);
            }
        }

        private void tellIfThere(int kind) {
            if (!keys.refuses(1, 1, kind)) {
                ask.answer.number(keys.placeOf(keys.find(ask.id(1)), ask.id(2)) < 0 ? 0 : 1);
            }
        }

        private void tellAll(int kind, boolean fields, boolean values) {
            if (keys.refuses(1, 1, kind)) {
                return;
            }
            Value value = keys.find(ask.id(1));
            int size = value == null ? 0 : value.size;
            ask.answer.rowHead(fields && values ? 2 * size : size);
            for (int i = 0; i < size; i++) {
                if (fields) {
                    words.copyWord(value.at(i), ask.answer);
                }
                if (values) {
                    words.copyWord(value.otherAt(i), ask.answer);
                }
            }
        }

        /** A member, or a field with its value, goes. */
        private void removeAt(Value value, int place) {
            int weight = words.length(value.at(place));
            weight += value.kind == Value.HASH ? PAIR_WEIGHT + words.length(value.otherAt(place)) : MEMBER_WEIGHT;
            value.weight -= weight;
            value.removeFrom(place, 1);
        }

        private void removeAll(int kind) {
            if (keys.refuses(1, 1, kind)) {
                return;
            }
            int id = ask.id(1);
            Value value = keys.find(id);
            int went = 0;
            for (int i = 2; i < ask.count && value != null; i++) {
                int place = keys.placeOf(value, ask.id(i));
                if (place >= 0) {
                    removeAt(value, place);
                    went++;
                }
            }
            if (went > 0) {
                keys.settle(id, value);
            }
            ask.answer.number(went);
        }

        /** Sets a field to a value: whether it is a new one. */
        private boolean setField(Value hash, int field, int word) {
            int place = keys.placeOf(hash, field);
            if (place < 0) {
                keys.growCells(hash, hash.size + 1);
                hash.insert(-1 - place, field, word);
                hash.weight += PAIR_WEIGHT + words.length(field) + words.length(word);
                return true;
            }
            hash.weight += words.length(word) - words.length(hash.otherAt(place));
            hash.set(Value.OTHERS, place, word);
            return false;
        }

        private void setFields() {
            if (keys.refuses(1, 1, Value.HASH)) {
                return;
            }
            int id = ask.id(1);
            Value hash = keys.findOrMake(id, Value.HASH);
            int added = 0;
            for (int i = 2; i + 1 < ask.count; i += 2) {
                if (setField(hash, ask.id(i), ask.id(i + 1))) {
                    added++;
                }
            }
            keys.settle(id, hash);
            ask.answer.number(added);
        }

        private void setNewField() {
            if (keys.refuses(1, 1, Value.HASH)) {
                return;
            }
            int id = ask.id(1);
            int field = ask.id(2);
            if (keys.placeOf(keys.find(id), field) >= 0) {
                ask.answer.number(0);
                return;
            }
            Value hash = keys.findOrMake(id, Value.HASH);
            setField(hash, field, ask.id(3));
            keys.settle(id, hash);
            ask.answer.number(1);
        }

        /** The value of a field, or NONE. */
        private int valueOf(Value hash, int field) {
            int place = keys.placeOf(hash, field);
            return hash == null || place < 0 ? NONE : hash.otherAt(place);
        }

        private void tellWord(int word) {
            if (word < 0) {
                ask.answer.nil();
            } else {
                words.copyWord(word, ask.answer);
            }
        }

        private void readField() {
            if (!keys.refuses(1, 1, Value.HASH)) {
                tellWord(valueOf(keys.find(ask.id(1)), ask.id(2)));
            }
        }

        private void readFields() {
            if (keys.refuses(1, 1, Value.HASH)) {
                return;
            }
            Value hash = keys.find(ask.id(1));
            ask.answer.rowHead(ask.count - 2);
            for (int i = 2; i < ask.count; i++) {
                tellWord(valueOf(hash, ask.id(i)));
            }
        }

        private void tellFieldLength() {
            if (!keys.refuses(1, 1, Value.HASH)) {
                ask.answer.number(words.length(valueOf(keys.find(ask.id(1)), ask.id(2))));
            }
        }

        private void addToField() {
            if (ask.lacksInteger(3)) {
                return;
            }
            long step = ask.number;
            if (keys.refuses(1, 1, Value.HASH)) {
                return;
            }
            int id = ask.id(1);
            int field = ask.id(2);
            int old = valueOf(keys.find(id), field);
            ask.number = 0;
            if (old >= 0 && !words.isInteger(old, ask)) {
                ask.refuse("ERR integer");
                return;
            }
            if (ask.overflows(step, false)) {
                return;
            }
            numeral.empty();
            numeral.digits(ask.number);
            Value hash = keys.findOrMake(id, Value.HASH);
            setField(hash, field, words.idOf(numeral.row, 0, numeral.size));
            keys.settle(id, hash);
            ask.answer.number(ask.number);
        }

        /** Adds a member to a set: whether it is a new one. */
        private boolean addMember(Value set, int id) {
            int place = keys.placeOf(set, id);
            if (place >= 0) {
                return false;
            }
            keys.growCells(set, set.size + 1);
            set.insert(-1 - place, id, NONE);
            set.weight += MEMBER_WEIGHT + words.length(id);
            return true;
        }

        private void addMembers() {
            if (keys.refuses(1, 1, Value.SET)) {
                return;
            }
            int id = ask.id(1);
            Value set = keys.findOrMake(id, Value.SET);
            int added = 0;
            for (int i = 2; i < ask.count; i++) {
                if (addMember(set, ask.id(i))) {
                    added++;
                }
            }
            if (added > 0) {
                keys.settle(id, set);
            }
            ask.answer.number(added);
        }

        private void tellWhichThere() {
            if (keys.refuses(1, 1, Value.SET)) {
                return;
            }
            Value set = keys.find(ask.id(1));
            ask.answer.rowHead(ask.count - 2);
            for (int i = 2; i < ask.count; i++) {
                ask.answer.number(keys.placeOf(set, ask.id(i)) < 0 ? 0 : 1);
            }
        }

        private void move() {
            if (keys.refuses(1, 2, Value.SET)) {
                return;
            }
            int from = ask.id(1);
            int to = ask.id(2);
            int member = ask.id(3);
            Value source = keys.find(from);
            int place = keys.placeOf(source, member);
            if (source == null || place < 0) {
                ask.answer.number(0);
                return;
            }
            if (from != to) {
                removeAt(source, place);
                keys.settle(from, source);
                Value target = keys.findOrMake(to, Value.SET);
                addMember(target, member);
                keys.settle(to, target);
            }
            ask.answer.number(1);
        }

        private void popLeast() {
            if (keys.refuses(1, 1, Value.SET)) {
                return;
            }
            int id = ask.id(1);
            Value set = keys.find(id);
            if (set == null) {
                ask.answer.nil();
                return;
            }
            words.copyWord(set.at(0), ask.answer);
            removeAt(set, 0);
            keys.settle(id, set);
        }

        private void combine(Command command) {
            if (keys.refuses(1, ask.count - 1, Value.SET)) {
                return;
            }
            fillPot(command, 1);
            ask.answer.rowHead(potSize);
            for (int i = 0; i < potSize; i++) {
                words.copyWord(pot[i], ask.answer);
            }
        }

        private void combineAndStore(Command command) {
            if (keys.refuses(2, ask.count - 1, Value.SET)) {
                return;
            }
            fillPot(command == Command.SINTERSTORE ? Command.SINTER
                    : command == Command.SUNIONSTORE ? Command.SUNION : Command.SDIFF, 2);
            int id = ask.id(1);
            if (potSize == 0) {
                keys.remove(id);
            } else {
                Value set = keys.fresh(id, Value.SET);
                for (int i = 0; i < potSize; i++) {
                    addMember(set, pot[i]);
                }
                keys.settle(id, set);
            }
            ask.answer.number(potSize);
        }

        /** The pot becomes what comes of the sets from an arg on. */
        private void fillPot(Command way, int first) {
            potSize = 0;
            addToPot(keys.find(ask.id(first)));
            for (int i = first + 1; i < ask.count; i++) {
                Value set = keys.find(ask.id(i));
                if (way == Command.SUNION) {
                    addToPot(set);
                } else {
                    siftPot(set, way == Command.SINTER);
                }
            }
        }

        private void addToPot(Value set) {
            int size = set == null ? 0 : set.size;
            for (int i = 0; i < size; i++) {
                int id = set.at(i);
                int place = -1 - words.find(pot, potSize, id);
                if (place >= 0) {
                    pot = potSize < pot.length ? pot : Arrays.copyOf(pot, 2 * potSize);
                    System.arraycopy(pot, place, pot, place + 1, potSize - place);
                    pot[place] = id;
                    potSize++;
                }
            }
        }

        /** Of the pot stay those that are in a set, or those that are not. */
        private void siftPot(Value set, boolean inSet) {
            int kept = 0;
            for (int i = 0; i < potSize; i++) {
                if (keys.placeOf(set, pot[i]) >= 0 == inSet) {
                    pot[kept] = pot[i];
                    kept++;
                }
            }
            potSize = kept;
        }
    }

    /** The commands about orders. */
    private static final class Orders {
        private static final int MEMBER_WEIGHT = 48;

        private static final int NX = 1;
        private static final int XX = 2;
        private static final int GT = 4;
        private static final int LT = 8;
        private static final int CH = 16;
        private static final int INCR = 32;

        private final Words words;
        private final Request ask;
        private final Keys keys;
        private int flags;
        private int firstPair;
        private boolean withScores;
        private int limitIndex;
        private boolean excludes;
        private int infinite;

        Orders(Words words, Request ask, Keys keys) {
            this.words = words;
            this.ask = ask;
            this.keys = keys;
        }

        void run(Command command) {
            switch (command) {
                case ZADD:
                    add();
                    break;
                case ZINCRBY:
                    addToOne();
                    break;
                case ZREM:
                    removeMembers();
                    break;
                case ZSCORE:
                    tellScore();
                    break;
                case ZRANK:
                case ZREVRANK:
                    tellRank(command == Command.ZREVRANK);
                    break;
                case ZRANGE:
                case ZREVRANGE:
                    readRanks(command == Command.ZREVRANGE);
                    break;
                case ZRANGEBYSCORE:
                case ZREVRANGEBYSCORE:
                    readScores(command == Command.ZREVRANGEBYSCORE);
                    break;
                case ZCOUNT:
                    countScores();
                    break;
                case ZREMRANGEBYRANK:
                    removeRanks();
                    break;
                case ZREMRANGEBYSCORE:
                    removeScores();
                    break;
                case ZPOPMIN:
                case ZPOPMAX:
                    pop(command == Command.ZPOPMAX);
                    break;
                default:
                    tellSize();
                    break;
            }
        }

        /** How many of the line come ahead of a member with a score. */
        private int linePlace(Value order, long score, int id) {
            int low = 0;
            int high = order.size;
            while (low < high) {
                int middle = low + high >>> 1;
                long there = order.lineScoreAt(middle);
                if (there < score || there == score && words.compare(order.otherAt(middle), id) < 0) {
                    low = middle + 1;
                } else {
                    high = middle;
                }
            }
            return low;
        }

        private void insert(Value order, int place, int id, long score) {
            keys.growCells(order, order.size + 1);
            order.insertScored(place, linePlace(order, score, id), id, score);
            order.weight += MEMBER_WEIGHT + words.length(id);
        }

        private void removeAt(Value order, int place) {
            int id = order.at(place);
            order.removeScored(place, linePlace(order, order.scoreAt(place), id));
            order.weight -= MEMBER_WEIGHT + words.length(id);
        }

        private void rescore(Value order, int place, long score) {
            int id = order.at(place);
            order.removeScored(place, linePlace(order, order.scoreAt(place), id));
            order.insertScored(place, linePlace(order, score, id), id, score);
        }

        private boolean told(int flag) {
            return (flags & flag) != 0;
        }

        private int flagOf(int i) {
            return ask.is(i, "NX") ? NX : ask.is(i, "XX") ? XX : ask.is(i, "GT") ? GT : ask.is(i, "LT") ? LT
                    : ask.is(i, "CH") ? CH : ask.is(i, "INCR") ? INCR : 0;
        }

        /** Reads the words ahead of ZADD's pairs; false when they, or the pairs, don't fit. */
        private boolean readFlags() {
            flags = 0;
            firstPair = 2;
            int flag = flagOf(firstPair);
            while (flag != 0 && firstPair < ask.count) {
                if (told(flag)) {
                    return false;
                }
                flags |= flag;
                firstPair++;
                flag = flagOf(firstPair);
            }
            int left = ask.count - firstPair;
            boolean clash = told(NX) && told(XX | GT | LT) || told(GT) && told(LT) || told(INCR) && left != 2;
            return !clash && left >= 2 && left % 2 == 0;
        }

        /** Whether a score that is there may become another one. */
        private boolean mayBecome(long old, long score) {
            return !(told(GT) && score <= old || told(LT) && score >= old);
        }

        private void add() {
            if (!readFlags()) {
                ask.refuse("ERR syntax");
                return;
            }
            for (int i = firstPair; i < ask.count; i += 2) {
                if (ask.lacksInteger(i)) {
                    return;
                }
            }
            if (keys.refuses(1, 1, Value.ORDER)) {
                return;
            }
            int id = ask.id(1);
            Value order = keys.find(id);
            if (told(INCR)) {
                increase(id, order, ask.id(firstPair + 1));
            } else {
                addPairs(id, order);
            }
        }

        private void addPairs(int id, Value found) {
            Value order = found;
            int added = 0;
            int moved = 0;
            for (int i = firstPair; i + 1 < ask.count; i += 2) {
                if (ask.lacksInteger(i)) {
                    return;
                }
                int member = ask.id(i + 1);
                int place = keys.placeOf(order, member);
                if (place < 0 && !told(XX)) {
                    if (order == null) {
                        order = keys.fresh(id, Value.ORDER);
                    }
                    insert(order, -1 - place, member, ask.number);
                    added++;
                } else if (place >= 0 && !told(NX) && order.scoreAt(place) != ask.number
                        && mayBecome(order.scoreAt(place), ask.number)) {
                    rescore(order, place, ask.number);
                    moved++;
                }
            }
            if (added + moved > 0) {
                keys.settle(id, order);
            }
            ask.answer.number(told(CH) ? added + moved : added);
        }

        private void addToOne() {
            flags = INCR;
            if (ask.lacksInteger(2) || keys.refuses(1, 1, Value.ORDER)) {
                return;
            }
            int id = ask.id(1);
            increase(id, keys.find(id), ask.id(3));
        }

        /** A member's score grows by the request's number, if the flags let it; answers the score. */
        private void increase(int id, Value found, int member) {
            int place = keys.placeOf(found, member);
            long step = ask.number;
            if (told(place < 0 ? XX : NX)) {
                ask.answer.nil();
                return;
            }
            long old = found == null || place < 0 ? 0 : found.scoreAt(place);
            ask.number = old;
            if (ask.overflows(step, false)) {
                return;
            }
            if (place >= 0 && !mayBecome(old, ask.number)) {
                ask.answer.nil();
                return;
            }
            if (place < 0) {
                Value order = found == null ? keys.fresh(id, Value.ORDER) : found;
                insert(order, -1 - place, member, ask.number);
                keys.settle(id, order);
            } else if (step != 0) {
                rescore(found, place, ask.number);
                keys.settle(id, found);
            }
            ask.answer.numberWord(ask.number);
        }

        private void removeMembers() {
            if (keys.refuses(1, 1, Value.ORDER)) {
                return;
            }
            int id = ask.id(1);
            Value order = keys.find(id);
            int went = 0;
            for (int i = 2; i < ask.count && order != null; i++) {
                int place = keys.placeOf(order, ask.id(i));
                if (place >= 0) {
                    removeAt(order, place);
                    went++;
                }
            }
            if (went > 0) {
                keys.settle(id, order);
            }
            ask.answer.number(went);
        }

        private void tellSize() {
            if (!keys.refuses(1, 1, Value.ORDER)) {
                Value order = keys.find(ask.id(1));
                ask.answer.number(order == null ? 0 : order.size);
            }
        }

        private void tellScore() {
            if (keys.refuses(1, 1, Value.ORDER)) {
                return;
            }
            Value order = keys.find(ask.id(1));
            int place = keys.placeOf(order, ask.id(2));
            if (order == null || place < 0) {
                ask.answer.nil();
            } else {
                ask.answer.numberWord(order.scoreAt(place));
            }
        }

        private void tellRank(boolean fromGreatest) {
            if (keys.refuses(1, 1, Value.ORDER)) {
                return;
            }
            Value order = keys.find(ask.id(1));
            int member = ask.id(2);
            int place = keys.placeOf(order, member);
            if (order == null || place < 0) {
                ask.answer.nil();
                return;
            }
            int rank = linePlace(order, order.scoreAt(place), member);
            ask.answer.number(fromGreatest ? order.size - 1 - rank : rank);
        }

        /** A row of so many of the line, from a place on, up or down it. */
        private void tellLine(Value order, int place, int many, boolean down) {
            ask.answer.rowHead(withScores ? 2 * many : many);
            for (int i = 0; i < many && order != null; i++) {
                int at = down ? place - i : place + i;
                words.copyWord(order.otherAt(at), ask.answer);
                if (withScores) {
                    ask.answer.numberWord(order.lineScoreAt(at));
                }
            }
        }

        private void readRanks(boolean down) {
            withScores = ask.count == 5 && ask.is(4, "WITHSCORES");
            if (ask.count > 4 && !withScores) {
                ask.refuse("ERR syntax");
                return;
            }
            if (ask.lacksSpan(2) || keys.refuses(1, 1, Value.ORDER)) {
                return;
            }
            Value order = keys.find(ask.id(1));
            int size = order == null ? 0 : order.size;
            ask.cutSpan(size);
            tellLine(order, down ? size - 1 - ask.low : ask.low, ask.high - ask.low, down);
        }

        /** Reads a bound: whether it is one. */
        private boolean readBound(int i) {
            infinite = ask.is(i, "-INF") ? -1 : ask.is(i, "+INF") ? 1 : 0;
            if (infinite != 0) {
                return true;
            }
            int start = ask.startOf(i);
            int length = ask.lengthOf(i);
            excludes = length > 0 && start < ask.row.length && ask.row[start] == '(';
            return excludes ? ask.parse(ask.row, start + 1, length - 1) : ask.parse(ask.row, start, length);
        }

        /** Whether the args 2 and 3 are no bounds, which is answered. */
        private boolean lacksBounds() {
            if (readBound(2) && readBound(3)) {
                return false;
            }
            ask.refuse("ERR bound");
            return true;
        }

        /** How many of the line come ahead of what a bound begins, or up to where it ends. */
        private int edge(Value order, int arg, boolean upper) {
            int size = order == null ? 0 : order.size;
            if (!readBound(arg) || infinite != 0) {
                return infinite > 0 ? size : 0;
            }
            boolean withSame = upper != excludes;
            int low = 0;
            int high = size;
            while (low < high) {
                int middle = low + high >>> 1;
                long there = order.lineScoreAt(middle);
                if (there < ask.number || withSame && there == ask.number) {
                    low = middle + 1;
                } else {
                    high = middle;
                }
            }
            return low;
        }

        /** Reads the words behind the bounds; false when they don't fit. */
        private boolean readScoreOptions() {
            withScores = false;
            limitIndex = 0;
            for (int i = 4; i < ask.count; i++) {
                if (!withScores && ask.is(i, "WITHSCORES")) {
                    withScores = true;
                } else if (limitIndex == 0 && ask.is(i, "LIMIT") && i + 2 < ask.count) {
                    limitIndex = i + 1;
                    i += 2;
                } else {
                    return false;
                }
            }
            return true;
        }

        private void readScores(boolean down) {
            if (!readScoreOptions()) {
                ask.refuse("ERR syntax");
                return;
            }
            ask.first = 0;
            if (lacksBounds()) {
                return;
            }
            ask.number = NONE;
            if (limitIndex > 0 && ask.lacksSpan(limitIndex) || keys.refuses(1, 1, Value.ORDER)) {
                return;
            }
            long skipped = ask.first;
            long most = ask.number;
            Value order = keys.find(ask.id(1));
            int low = edge(order, down ? 3 : 2, false);
            int high = edge(order, down ? 2 : 3, true);
            int all = Math.max(high - low, 0);
            int skip = skipped < 0 ? all : (int) Math.min(skipped, all);
            int many = most < 0 ? all - skip : (int) Math.min(most, all - skip);
            tellLine(order, down ? high - 1 - skip : low + skip, many, down);
        }

        private void countScores() {
            if (lacksBounds() || keys.refuses(1, 1, Value.ORDER)) {
                return;
            }
            Value order = keys.find(ask.id(1));
            ask.answer.number(Math.max(edge(order, 3, true) - edge(order, 2, false), 0));
        }

        /** Those of the line from a place on and ahead of another go. */
        private void removeLine(int id, Value order, int low, int high) {
            if (order == null || low >= high) {
                return;
            }
            for (int i = low; i < high; i++) {
                removeAt(order, keys.placeOf(order, order.otherAt(low)));
            }
            keys.settle(id, order);
        }

        private void removeRanks() {
            if (ask.lacksSpan(2) || keys.refuses(1, 1, Value.ORDER)) {
                return;
            }
            int id = ask.id(1);
            Value order = keys.find(id);
            ask.cutSpan(order == null ? 0 : order.size);
            removeLine(id, order, ask.low, ask.high);
            ask.answer.number(ask.high - ask.low);
        }

        private void removeScores() {
            if (lacksBounds() || keys.refuses(1, 1, Value.ORDER)) {
                return;
            }
            int id = ask.id(1);
            Value order = keys.find(id);
            int low = edge(order, 2, false);
            int high = edge(order, 3, true);
            removeLine(id, order, low, high);
            ask.answer.number(Math.max(high - low, 0));
        }

        private void pop(boolean greatest) {
            ask.number = 1;
            if (ask.count > 2 && ask.lacksInteger(2)) {
                return;
            }
            if (ask.number < 0) {
                ask.refuse("ERR range");
                return;
            }
            if (keys.refuses(1, 1, Value.ORDER)) {
                return;
            }
            int id = ask.id(1);
            Value order = keys.find(id);
            int size = order == null ? 0 : order.size;
            int many = (int) Math.min(ask.number, size);
            withScores = true;
            tellLine(order, greatest ? size - 1 : 0, many, greatest);
            removeLine(id, order, greatest ? size - many : 0, greatest ? size : many);
        }
    }
}
