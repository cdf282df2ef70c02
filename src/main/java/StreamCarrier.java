/**
 * Two sides that carry rows of bytes to one another in packets with numbers over a net by hand.
 * The words in capitals in the comments are those of the document.
 */
public final class StreamCarrier {
    public static final int UNKNOWN = -1, OUTSIDE = -2, STATE = -3, FULL = -4, NO = -5, NONE = -6;

    /** The kinds of parts. */
    private static final int TOLD = 1, BOUND = 2, BOUND_OF_ALL = 3, BYTES = 4, CUT_OFF = 5, ASK = 6, ANSWER = 7,
            PING = 8;
    /** What is added to the c of BYTES that END goes with. */
    private static final int WITH_END = 10000;

    /** What a sender knows of a byte, and of END. */
    private static final int NEVER_SENT = 0, SENT = 1, AGAIN = 2, ARRIVED = 3;
    /** Stands beside these in the same byte of a STREAM's row, when it CAME to the receiver. */
    private static final int CAME = 4;

    private static final int STREAMS = 8, STREAMS_OF_SIDE = 4, BYTES_AT_MOST = 1000;
    private static final int PACKETS_AT_MOST = 300, NET_AT_MOST = 400, ADDRESS_AT_MOST = 50;
    private static final int SPANS_AT_MOST = 4, PARTS_AT_MOST = 16, NUMBERS_OF_PART = 4;
    private static final int BRIM_AT_FIRST = 1000000;

    private final Stream[] streams;
    private final Side[] sides;
    private final Packet[] net;
    private int underWay;
    private int time;
    private int room;
    private int window;
    private int wide;
    private int address;
    private int path;
    private boolean tried;
    private int got;
    private int sentOnPath;
    private int strays;

    /** A STREAM: first what its sender holds of it, then what its receiver holds. */
    private static final class Stream {
        final byte[] row = new byte[BYTES_AT_MOST];
        int written;
        boolean ended;
        boolean cut;
        boolean cutOwed;
        int next;
        int arrived;
        int again;
        int bound;
        int endState;

        int came;
        int prefix;
        int read;
        int boundTold;
        boolean boundOwed;
        int length = NONE;
        boolean cutCame;

        Stream(int window) {
            bound = window;
            boundTold = window;
        }

        boolean isUntouched() {
            return written == 0 && !ended && !cut;
        }

        boolean isEndDue() {
            return ended && next == written && (endState == NEVER_SENT || endState == AGAIN);
        }

        int senderKnows(int i) {
            return row[i] & ARRIVED;
        }

        void setSenderKnows(int i, int what) {
            row[i] = (byte) ((row[i] & CAME) | what);
        }

        /** Behind the last of count bytes from first on, as far as the row has them. */
        int stop(int first, int count) {
            return first < 0 ? first : Math.min(BYTES_AT_MOST, first + count);
        }

        int firstAgain() {
            int i = 0;
            while (i < next && senderKnows(i) != AGAIN) {
                i++;
            }
            return i;
        }

        int countAgainFrom(int first) {
            int i = first;
            while (i < next && senderKnows(i) == AGAIN) {
                i++;
            }
            return i - first;
        }

        void markSent(int first, int count) {
            int stop = stop(first, count);
            for (int i = first; i < stop; i++) {
                if (senderKnows(i) == AGAIN) {
                    again--;
                }
                setSenderKnows(i, SENT);
            }
            next = Math.max(next, stop);
        }

        void markArrived(int first, int count) {
            int stop = stop(first, count);
            for (int i = first; i < stop; i++) {
                int known = senderKnows(i);
                if (known == AGAIN) {
                    again--;
                }
                if (known != ARRIVED) {
                    arrived++;
                    setSenderKnows(i, ARRIVED);
                }
            }
        }

        void markAgain(int first, int count) {
            int stop = stop(first, count);
            for (int i = first; i < stop; i++) {
                if (senderKnows(i) == SENT) {
                    again++;
                    setSenderKnows(i, AGAIN);
                }
            }
        }

        void markCame(int first, int count) {
            int stop = stop(first, count);
            for (int i = first; i < stop; i++) {
                if ((row[i] & CAME) == 0) {
                    row[i] = (byte) (row[i] | CAME);
                    came++;
                }
            }
            while (prefix < BYTES_AT_MOST && (row[prefix] & CAME) != 0) {
                prefix++;
            }
        }
    }

    /** A PACKET: it never changes once it is sent, but for what became of it. */
    private static final class Packet {
        final int side;
        final int number;
        final int time;
        final int address;
        final int room;
        final int[] parts = new int[PARTS_AT_MOST * NUMBERS_OF_PART];
        final int[] spans = new int[2 * SPANS_AT_MOST];
        int count;
        int weight = 10;
        boolean heavy;
        boolean toldOf;
        boolean lost;
        boolean came;

        Packet(int side, int number, int time, int address, int room) {
            this.side = side;
            this.number = number;
            this.time = time;
            this.address = address;
            this.room = room;
            for (int i = 0; i < spans.length; i++) {
                spans[i] = NONE;
            }
        }

        int roomLeft() {
            return room - weight;
        }

        boolean isInFlight() {
            return heavy && !toldOf && !lost;
        }

        /** Number what (0 kind, 1 a, 2 b, 3 c) of part k; 0 where there is none. */
        int partAt(int k, int what) {
            int i = k * NUMBERS_OF_PART + what;
            return i < 0 || i >= parts.length ? 0 : parts[i];
        }

        /** Answers whether there was room for the part. */
        boolean add(int kind, int a, int b, int c) {
            int more = weightOf(kind, c);
            if (count >= PARTS_AT_MOST || more > roomLeft()) {
                return false;
            }
            int i = count * NUMBERS_OF_PART;
            parts[i] = kind;
            parts[i + 1] = a;
            parts[i + 2] = b;
            parts[i + 3] = c;
            count++;
            weight += more;
            if (kind != TOLD) {
                heavy = true;
            }
            return true;
        }

        static int weightOf(int kind, int c) {
            switch (kind) {
                case TOLD:
                    return 6 + 4 * (c - 1);
                case BOUND:
                case BOUND_OF_ALL:
                    return 5;
                case BYTES:
                    return 8 + c % WITH_END;
                case CUT_OFF:
                    return 7;
                case ASK:
                case ANSWER:
                    return 9;
                default:
                    return 1;
            }
        }
    }

    /** How much a SIDE may have under way, and how long it waits. */
    private static final class Pace {
        int flight;
        int open;
        int brim;
        int fall;
        int latest;
        int smooth;
        int vary;
        int probes;
        boolean probeOwed;
        int lastHeavy;

        Pace(int room) {
            startOver(room, -1);
        }

        void startOver(int room, int fall) {
            open = 10 * room;
            brim = BRIM_AT_FIRST;
            this.fall = fall;
            latest = NONE;
            smooth = NONE;
            vary = NONE;
        }

        boolean isShut(int room) {
            return flight + room > open && !probeOwed;
        }

        void measure(int took) {
            if (latest == NONE) {
                smooth = 8 * took;
                vary = 4 * took;
            } else {
                vary = (3 * vary + Math.abs(smooth - 8 * took)) / 4;
                smooth = (7 * smooth + 8 * took) / 8;
            }
            latest = took;
        }

        void grow(int weight, int room) {
            if (open < brim) {
                open += weight;
            } else if (open > 0) {
                open += room * weight / open;
            }
        }

        void fallBack(int time, int room) {
            fall = time;
            open = Math.max(open / 2, 2 * room);
            brim = open;
        }

        int limit() {
            return latest == NONE ? 8 : Math.max(1, 9 * Math.max(smooth, 8 * latest) / 64);
        }

        int waitTime() {
            return latest == NONE ? 8 : (smooth + Math.max(4 * vary, 8)) / 8 + 2;
        }

        void probeIfLate(int time) {
            if (flight > 0 && time >= lastHeavy + (waitTime() << Math.min(probes, 6))) {
                probeOwed = true;
                probes++;
            }
        }
    }

    /** A SIDE: what it has sent and owes. The STREAMS that go from it are its number and every second behind. */
    private static final class Side {
        final int number;
        final Packet[] packets = new Packet[PACKETS_AT_MOST];
        final Pace pace;
        int sent;
        /** All HEAVY PACKETS with a number below this are TOLD of or LOST. */
        int settled;
        int highestTold = NONE;
        int highestCame = NONE;
        boolean toldOwed;
        int boundOfAll;
        int allTold;
        boolean allOwed;
        boolean askOwed;
        int answerOwed = NONE;
        /** Which of its STREAMS (0 to 3) is the first to have BYTES in the next PACKET. */
        int turn;

        Side(int number, int room, int wide) {
            this.number = number;
            pace = new Pace(room);
            boundOfAll = wide;
            allTold = wide;
        }

        Packet packetAt(int n) {
            return n < 0 || n >= sent || n >= PACKETS_AT_MOST ? null : packets[n];
        }
    }

    public StreamCarrier() {
        room = 200;
        window = 300;
        wide = 600;
        net = new Packet[NET_AT_MOST];
        streams = new Stream[STREAMS];
        for (int i = 0; i < STREAMS; i++) {
            streams[i] = new Stream(window);
        }
        sides = new Side[2];
        sides[0] = new Side(0, room, wide);
        sides[1] = new Side(1, room, wide);
    }

    // ---- 1 what is told to the sides

    public int shape(int room, int window, int wide) {
        if (room < 60 || room > 1000 || window < 50 || window > 1000 || wide < 50 || wide > 4000) {
            return OUTSIDE;
        }
        if (!isUntouched()) {
            return STATE;
        }
        this.room = room;
        this.window = window;
        this.wide = wide;
        for (int i = 0; i < STREAMS; i++) {
            streams[i].bound = window;
            streams[i].boundTold = window;
        }
        for (int i = 0; i < 2; i++) {
            sides[i].pace.open = 10 * room;
            sides[i].boundOfAll = wide;
            sides[i].allTold = wide;
        }
        return 1;
    }

    public int write(int stream, int n) {
        Stream s = streamAt(stream);
        if (s == null) {
            return UNKNOWN;
        }
        if (n < 1 || n > BYTES_AT_MOST) {
            return OUTSIDE;
        }
        if (s.ended || s.cut) {
            return STATE;
        }
        if (s.written + n > BYTES_AT_MOST) {
            return FULL;
        }
        s.written += n;
        return s.written;
    }

    public int end(int stream) {
        Stream s = streamAt(stream);
        if (s == null) {
            return UNKNOWN;
        }
        if (s.ended || s.cut) {
            return STATE;
        }
        s.ended = true;
        return 1;
    }

    public int cut(int stream) {
        Stream s = streamAt(stream);
        if (s == null) {
            return UNKNOWN;
        }
        if (s.cut) {
            return STATE;
        }
        s.cut = true;
        s.cutOwed = true;
        return 1;
    }

    public int read(int stream, int n) {
        Stream s = streamAt(stream);
        if (s == null) {
            return UNKNOWN;
        }
        if (n < 1 || n > BYTES_AT_MOST) {
            return OUTSIDE;
        }
        int count = Math.min(n, s.prefix - s.read);
        s.read += count;
        if (s.read + window - s.boundTold >= window / 2) {
            s.boundOwed = true;
        }
        Side reader = sides[1 - stream % 2];
        if (readBy(reader) + wide - reader.allTold >= wide / 2) {
            reader.allOwed = true;
        }
        return count;
    }

    public int move() {
        if (address >= ADDRESS_AT_MOST) {
            return FULL;
        }
        address++;
        return address;
    }

    // ---- 2 the net

    public int send(int side) {
        Side from = sideAt(side);
        if (from == null) {
            return UNKNOWN;
        }
        if (from.sent >= PACKETS_AT_MOST || underWay >= NET_AT_MOST) {
            return FULL;
        }
        if (side == 1 && tried && sentOnPath + room > 3 * got) {
            return NO;
        }
        Packet p = new Packet(side, from.sent, time, side == 0 ? address : path, room);
        fill(from, p);
        if (p.count == 0) {
            return NO;
        }
        putUnderWay(from, p);
        return p.number;
    }

    public int come(int i) {
        Packet p = underWayAt(i);
        if (p == null) {
            return UNKNOWN;
        }
        takeOffNet(i);
        if (p.side == 1 && p.address != address) {
            strays++;
            return 2;
        }
        Side to = sides[p.side == 0 ? 1 : 0];
        if (p.heavy) {
            to.toldOwed = true;
        }
        if (p.came) {
            return 0;
        }
        p.came = true;
        if (p.side == 0) {
            lookAtAddress(to, p);
        }
        to.highestCame = Math.max(to.highestCame, p.number);
        takeParts(to, p);
        return 1;
    }

    public int drop(int i) {
        if (underWayAt(i) == null) {
            return UNKNOWN;
        }
        takeOffNet(i);
        return underWay;
    }

    public int twice(int i) {
        Packet p = underWayAt(i);
        if (p == null) {
            return UNKNOWN;
        }
        if (underWay >= NET_AT_MOST) {
            return FULL;
        }
        net[underWay] = p;
        underWay++;
        return underWay;
    }

    public int tick(int n) {
        if (n < 1 || n > 1000) {
            return OUTSIDE;
        }
        for (int t = 0; t < n; t++) {
            time++;
            for (int i = 0; i < 2; i++) {
                lookForLost(sides[i]);
                sides[i].pace.probeIfLate(time);
            }
        }
        return time;
    }

    // ---- 3 what is told

    public int stream(int stream, int what) {
        Stream s = streamAt(stream);
        if (s == null) {
            return UNKNOWN;
        }
        switch (what) {
            case 0:
                return s.written;
            case 1:
                return flag(s.ended);
            case 2:
                return flag(s.cut);
            case 3:
                return s.next;
            case 4:
                return s.arrived;
            case 5:
                return s.again;
            case 6:
                return s.bound;
            case 7:
                return flag(s.endState == ARRIVED);
            case 8:
                return s.came;
            case 9:
                return s.prefix;
            case 10:
                return s.read;
            case 11:
                return s.boundTold;
            case 12:
                return flag(s.boundOwed);
            case 13:
                return s.length;
            case 14:
                return flag(s.cutCame);
            default:
                return OUTSIDE;
        }
    }

    public int state(int stream, int i) {
        Stream s = streamAt(stream);
        return s == null || i < 0 || i >= BYTES_AT_MOST ? UNKNOWN : s.row[i];
    }

    public int side(int side, int what) {
        Side s = sideAt(side);
        if (s == null) {
            return UNKNOWN;
        }
        switch (what) {
            case 0:
                return s.sent;
            case 1:
                return s.pace.flight;
            case 2:
                return s.pace.open;
            case 3:
                return s.pace.brim;
            case 4:
                return s.pace.fall;
            case 5:
                return s.pace.latest;
            case 6:
                return s.pace.smooth;
            case 7:
                return s.pace.vary;
            case 8:
                return s.pace.probes;
            case 9:
                return flag(s.pace.probeOwed);
            case 10:
                return s.highestTold;
            case 11:
                return s.highestCame;
            case 12:
                return flag(s.toldOwed);
            case 13:
                return s.boundOfAll;
            case 14:
                return countedOf(s);
            case 15:
                return flag(s.allOwed);
            case 16:
                return s.allTold;
            default:
                return OUTSIDE;
        }
    }

    public int packet(int side, int number, int what) {
        Packet p = packetOf(side, number);
        if (p == null) {
            return UNKNOWN;
        }
        switch (what) {
            case 0:
                return p.time;
            case 1:
                return p.address;
            case 2:
                return p.weight;
            case 3:
                return p.count;
            case 4:
                return flag(p.heavy);
            case 5:
                return flag(p.toldOf);
            case 6:
                return flag(p.lost);
            case 7:
                return flag(p.came);
            default:
                return OUTSIDE;
        }
    }

    public int part(int side, int number, int k, int what) {
        Packet p = packetOf(side, number);
        if (p == null || k < 0 || k >= p.count) {
            return UNKNOWN;
        }
        if (what < 0 || what > 11) {
            return OUTSIDE;
        }
        if (what < NUMBERS_OF_PART) {
            return p.partAt(k, what);
        }
        return p.partAt(k, 0) == TOLD ? p.spans[what - NUMBERS_OF_PART] : NONE;
    }

    public int net(int i, int what) {
        Packet p = underWayAt(i);
        if (p == null) {
            return UNKNOWN;
        }
        switch (what) {
            case 0:
                return p.side;
            case 1:
                return p.number;
            default:
                return OUTSIDE;
        }
    }

    public int told(int what) {
        switch (what) {
            case 0:
                return time;
            case 1:
                return underWay;
            case 2:
                return address;
            case 3:
                return path;
            case 4:
                return flag(tried);
            case 5:
                return got;
            case 6:
                return sentOnPath;
            case 7:
                return strays;
            default:
                return OUTSIDE;
        }
    }

    // ---- looking things up

    private static int flag(boolean is) {
        return is ? 1 : 0;
    }

    private Stream streamAt(int stream) {
        return stream < 0 || stream >= STREAMS ? null : streams[stream];
    }

    private Side sideAt(int side) {
        return side < 0 || side > 1 ? null : sides[side];
    }

    private Packet packetOf(int side, int number) {
        Side s = sideAt(side);
        return s == null ? null : s.packetAt(number);
    }

    private Packet underWayAt(int i) {
        return i < 0 || i >= underWay || i >= NET_AT_MOST ? null : net[i];
    }

    private boolean isUntouched() {
        for (int i = 0; i < STREAMS; i++) {
            if (!streams[i].isUntouched()) {
                return false;
            }
        }
        return sides[0].sent == 0 && sides[1].sent == 0;
    }

    private int readBy(Side reader) {
        int sum = 0;
        for (int i = 1 - reader.number; i < STREAMS; i += 2) {
            sum += streams[i].read;
        }
        return sum;
    }

    private int countedOf(Side sender) {
        int sum = 0;
        for (int i = sender.number; i < STREAMS; i += 2) {
            sum += streams[i].next;
        }
        return sum;
    }

    // ---- sending

    private void fill(Side from, Packet p) {
        if (from.toldOwed) {
            addTold(from, p);
        }
        if (from.pace.isShut(room)) {
            return;
        }
        addAnswerAndAsk(from, p);
        addBounds(from, p);
        addCutOffs(from, p);
        addBytes(from, p);
        if (from.pace.probeOwed && !p.heavy) {
            p.add(PING, 0, 0, 0);
        }
    }

    private void addTold(Side from, Packet p) {
        Side other = sides[1 - from.number];
        int count = 0;
        boolean inSpan = false;
        for (int n = from.highestCame; n >= 0; n--) {
            Packet q = other.packetAt(n);
            boolean came = q != null && q.came;
            if (came && !inSpan) {
                if (count == SPANS_AT_MOST) {
                    break;
                }
                p.spans[2 * count + 1] = n;
                count++;
            }
            if (came) {
                p.spans[2 * count - 2] = n;
            }
            inSpan = came;
        }
        if (count > 0 && p.add(TOLD, 0, 0, count)) {
            from.toldOwed = false;
        }
    }

    private void addAnswerAndAsk(Side from, Packet p) {
        if (from.answerOwed != NONE && p.add(ANSWER, 0, from.answerOwed, 0)) {
            from.answerOwed = NONE;
        }
        if (from.askOwed && p.add(ASK, 0, path, 0)) {
            from.askOwed = false;
        }
    }

    private void addBounds(Side from, Packet p) {
        for (int i = 1 - from.number; i < STREAMS; i += 2) {
            Stream s = streams[i];
            if (s.boundOwed && p.add(BOUND, i, s.read + window, 0)) {
                s.boundOwed = false;
                s.boundTold = s.read + window;
            }
        }
        int all = readBy(from) + wide;
        if (from.allOwed && p.add(BOUND_OF_ALL, 0, all, 0)) {
            from.allOwed = false;
            from.allTold = all;
        }
    }

    private void addCutOffs(Side from, Packet p) {
        for (int i = from.number; i < STREAMS; i += 2) {
            if (streams[i].cutOwed && p.add(CUT_OFF, i, 0, 0)) {
                streams[i].cutOwed = false;
            }
        }
    }

    private void addBytes(Side from, Packet p) {
        int start = from.turn;
        for (int j = 0; j < STREAMS_OF_SIDE; j++) {
            int turn = (start + j) % STREAMS_OF_SIDE;
            if (addBytesOf(from, from.number + 2 * turn, p)) {
                from.turn = (turn + 1) % STREAMS_OF_SIDE;
            }
        }
    }

    /** Answers whether the STREAM had a part. */
    private boolean addBytesOf(Side from, int stream, Packet p) {
        Stream s = streamAt(stream);
        if (s == null || s.cut) {
            return false;
        }
        int first = s.again > 0 ? s.firstAgain() : s.next;
        int due = s.again > 0 ? s.countAgainFrom(first) : newBytesOf(from, s);
        int count = Math.min(due, p.roomLeft() - Packet.weightOf(BYTES, 0));
        if (due > 0 ? count < 1 : !s.isEndDue() || count < 0) {
            return false;
        }
        s.markSent(first, count);
        boolean withEnd = s.isEndDue();
        if (withEnd) {
            s.endState = SENT;
        }
        return p.add(BYTES, stream, first, withEnd ? count + WITH_END : count);
    }

    private int newBytesOf(Side from, Stream s) {
        int letByAll = from.boundOfAll - countedOf(from);
        return Math.max(0, Math.min(Math.min(s.written, s.bound) - s.next, letByAll));
    }

    private void putUnderWay(Side from, Packet p) {
        if (from.sent >= PACKETS_AT_MOST || underWay >= NET_AT_MOST) {
            return;
        }
        from.packets[from.sent] = p;
        from.sent++;
        net[underWay] = p;
        underWay++;
        if (p.heavy) {
            from.pace.flight += p.weight;
            from.pace.lastHeavy = time;
            from.pace.probeOwed = false;
        }
        if (from.number == 1 && tried) {
            sentOnPath += p.weight;
        }
    }

    // ---- coming

    private void takeOffNet(int i) {
        for (int j = i; j < underWay - 1; j++) {
            net[j] = net[j + 1];
        }
        underWay--;
        net[underWay] = null;
    }

    private void lookAtAddress(Side to, Packet p) {
        if (p.heavy && p.number > to.highestCame && p.address != path) {
            path = p.address;
            tried = true;
            got = 0;
            sentOnPath = 0;
            to.askOwed = true;
            to.pace.startOver(room, time);
        }
        if (tried && p.address == path) {
            got += p.weight;
        }
    }

    private void takeParts(Side to, Packet p) {
        for (int k = 0; k < p.count; k++) {
            Stream s = streamAt(p.partAt(k, 1));
            int b = p.partAt(k, 2);
            int c = p.partAt(k, 3);
            switch (s == null ? 0 : p.partAt(k, 0)) {
                case TOLD:
                    takeTold(to, p);
                    break;
                case BOUND:
                    // One that comes late tells less than what is known.
                    s.bound = Math.max(s.bound, b);
                    break;
                case BOUND_OF_ALL:
                    to.boundOfAll = Math.max(to.boundOfAll, b);
                    break;
                case BYTES:
                    s.markCame(b, c % WITH_END);
                    // What its own part says holds, also where END goes with bytes sent AGAIN that are not the last.
                    if (c >= WITH_END) {
                        s.length = b + c % WITH_END;
                    }
                    break;
                case CUT_OFF:
                    s.cutCame = true;
                    break;
                case ASK:
                    to.answerOwed = b;
                    break;
                case ANSWER:
                    if (to.number == 1 && b == path) {
                        tried = false;
                    }
                    break;
                default:
                    break;
            }
        }
    }

    // ---- what is TOLD of and what is LOST

    private void takeTold(Side of, Packet teller) {
        int highest = teller.spans[1];
        Packet top = of.packetAt(highest);
        boolean measures = top != null && top.heavy && !top.toldOf;
        boolean anyHeavy = false;
        for (int j = SPANS_AT_MOST - 1; j >= 0; j--) {
            for (int n = Math.max(0, teller.spans[2 * j]); n <= teller.spans[2 * j + 1]; n++) {
                Packet p = of.packetAt(n);
                if (p != null && !p.toldOf) {
                    anyHeavy = anyHeavy || p.heavy;
                    settle(of, p);
                }
            }
        }
        of.highestTold = Math.max(of.highestTold, highest);
        if (measures) {
            of.pace.measure(time - top.time);
        }
        if (anyHeavy) {
            of.pace.probes = 0;
        }
        lookForLost(of);
    }

    private void settle(Side of, Packet p) {
        if (p.isInFlight()) {
            of.pace.flight -= p.weight;
            if (p.time > of.pace.fall) {
                of.pace.grow(p.weight, room);
            }
        }
        p.toldOf = true;
        for (int k = 0; k < p.count; k++) {
            Stream s = streamAt(p.partAt(k, 1));
            if (p.partAt(k, 0) == BYTES && s != null) {
                int c = p.partAt(k, 3);
                s.markArrived(p.partAt(k, 2), c % WITH_END);
                if (c >= WITH_END) {
                    s.endState = ARRIVED;
                }
            }
        }
    }

    private void lookForLost(Side of) {
        int highest = of.highestTold;
        int limit = of.pace.limit();
        for (int n = of.settled; n < highest; n++) {
            Packet p = of.packetAt(n);
            if (p != null && p.isInFlight() && (n + 3 <= highest || time - p.time >= limit)) {
                lose(of, p);
            }
        }
        of.settled = Math.max(of.settled, highest - 2);
    }

    private void lose(Side of, Packet p) {
        p.lost = true;
        of.pace.flight -= p.weight;
        for (int k = 0; k < p.count; k++) {
            Stream s = streamAt(p.partAt(k, 1));
            int b = p.partAt(k, 2);
            int c = p.partAt(k, 3);
            switch (s == null ? 0 : p.partAt(k, 0)) {
                case BOUND:
                    s.boundOwed = true;
                    break;
                case BOUND_OF_ALL:
                    of.allOwed = true;
                    break;
                case BYTES:
                    s.markAgain(b, c % WITH_END);
                    if (c >= WITH_END && s.endState != ARRIVED) {
                        s.endState = AGAIN;
                    }
                    break;
                case CUT_OFF:
                    s.cutOwed = true;
                    break;
                case ASK:
                    of.askOwed = of.askOwed || tried && b == path;
                    break;
                case ANSWER:
                    of.answerOwed = b;
                    break;
                default:
                    break;
            }
        }
        if (p.time > of.pace.fall) {
            of.pace.fallBack(time, room);
        }
    }
}
