import java.util.ArrayList;
import java.util.Arrays;
import java.util.List;

/**
 * The document said a second time, as plainly as can be: what follows from the PACKETS (states of bytes, FLIGHT,
 * what came, spans) is worked out from them anew each time. ModelTest holds the program against it.
 */
final class Model {
    static final class Part {
        final int kind, a, b, c;
        final int[] spans;

        Part(int kind, int a, int b, int c, int... spans) {
            this.kind = kind;
            this.a = a;
            this.b = b;
            this.c = c;
            this.spans = spans;
        }

        int weight() {
            int[] fixed = {0, 6 + 4 * (spans.length / 2 - 1), 5, 5, 8 + c % 10000, 7, 9, 9, 1};
            return fixed[kind];
        }

        boolean hasEnd() {
            return kind == 4 && c >= 10000;
        }

        boolean holds(int stream, int i) {
            return kind == 4 && a == stream && b <= i && i < b + c % 10000;
        }
    }

    static final class Pack {
        final int side, number, time, address;
        final List<Part> parts = new ArrayList<>();
        boolean toldOf, lost, came;

        Pack(int side, int number, int time, int address) {
            this.side = side;
            this.number = number;
            this.time = time;
            this.address = address;
        }

        int weight() {
            return 10 + parts.stream().mapToInt(Part::weight).sum();
        }

        boolean heavy() {
            return parts.stream().anyMatch(p -> p.kind != 1);
        }

        boolean flies() {
            return heavy() && !toldOf && !lost;
        }
    }

    final List<List<Pack>> sent = List.of(new ArrayList<>(), new ArrayList<>());
    final List<Pack> net = new ArrayList<>();
    int room = 200, window = 300, wide = 600, time, address, path, got, spent, strays;
    boolean tried;

    final int[] written = new int[8], read = new int[8], known = new int[8], toldLast = new int[8];
    final boolean[] ended = new boolean[8], cut = new boolean[8], cutOwed = new boolean[8];
    final boolean[] boundOwed = new boolean[8];

    final int[] open = {2000, 2000}, brim = {1000000, 1000000}, fall = {-1, -1};
    final Integer[] latest = new Integer[2], smooth = new Integer[2], vary = new Integer[2];
    final int[] probes = new int[2], allKnown = new int[2], allTold = new int[2], lastStream = {6, 7};
    final boolean[] probeOwed = new boolean[2], toldOwed = new boolean[2], allOwed = new boolean[2];
    final boolean[] askOwed = new boolean[2];
    final Integer[] answerOwed = new Integer[2], said = new Integer[8];

    Model() {
        setBounds();
    }

    private void setBounds() {
        Arrays.fill(known, window);
        Arrays.fill(toldLast, window);
        Arrays.fill(allKnown, wide);
        Arrays.fill(allTold, wide);
        Arrays.fill(open, 10 * room);
    }

    // What follows from the PACKETS.

    private static boolean isStream(int s) {
        return s >= 0 && s <= 7;
    }

    private List<Pack> sentOf(int stream) {
        return sent.get(stream % 2);
    }

    /** 0 never sent, 1 sent, 2 to be sent AGAIN, 3 arrived. */
    int byteState(int stream, int i) {
        boolean any = false, flying = false;
        for (Pack p : sentOf(stream)) {
            for (Part q : p.parts) {
                if (q.holds(stream, i)) {
                    any = true;
                    if (p.toldOf) {
                        return 3;
                    }
                    flying |= !p.lost;
                }
            }
        }
        return !any ? 0 : flying ? 1 : 2;
    }

    int endState(int stream) {
        boolean any = false, flying = false;
        for (Pack p : sentOf(stream)) {
            for (Part q : p.parts) {
                if (q.hasEnd() && q.a == stream) {
                    any = true;
                    if (p.toldOf) {
                        return 3;
                    }
                    flying |= !p.lost;
                }
            }
        }
        return !any ? 0 : flying ? 1 : 2;
    }

    boolean byteCame(int stream, int i) {
        for (Pack p : sentOf(stream)) {
            for (Part q : p.parts) {
                if (p.came && q.holds(stream, i)) {
                    return true;
                }
            }
        }
        return false;
    }

    int next(int stream) {
        int next = 0;
        for (Pack p : sentOf(stream)) {
            for (Part q : p.parts) {
                if (q.kind == 4 && q.a == stream) {
                    next = Math.max(next, q.b + q.c % 10000);
                }
            }
        }
        return next;
    }

    private int countBytes(int stream, int state) {
        int n = 0;
        for (int i = 0; i < next(stream); i++) {
            n += byteState(stream, i) == state ? 1 : 0;
        }
        return n;
    }

    private int bytesCame(int stream) {
        int n = 0;
        for (int i = 0; i < next(stream); i++) {
            n += byteCame(stream, i) ? 1 : 0;
        }
        return n;
    }

    private int prefix(int stream) {
        int n = 0;
        while (n < 1000 && byteCame(stream, n)) {
            n++;
        }
        return n;
    }

    private boolean partCame(int stream, int kind) {
        for (Pack p : sentOf(stream)) {
            for (Part q : p.parts) {
                if (p.came && q.a == stream && q.kind == kind) {
                    return true;
                }
            }
        }
        return false;
    }

    int flight(int side) {
        return sent.get(side).stream().filter(Pack::flies).mapToInt(Pack::weight).sum();
    }

    int counted(int side) {
        return next(side) + next(side + 2) + next(side + 4) + next(side + 6);
    }

    private int readBy(int side) {
        int o = 1 - side;
        return read[o] + read[o + 2] + read[o + 4] + read[o + 6];
    }

    private int highest(int side, boolean toldOf) {
        int h = -6;
        for (Pack p : sent.get(side)) {
            if (toldOf ? p.toldOf : p.came) {
                h = p.number;
            }
        }
        return h;
    }

    // 1 what is told to the sides

    int shape(int r, int w, int v) {
        if (r < 60 || r > 1000 || w < 50 || w > 1000 || v < 50 || v > 4000) {
            return -2;
        }
        for (int s = 0; s < 8; s++) {
            if (written[s] > 0 || ended[s] || cut[s]) {
                return -3;
            }
        }
        if (sent.get(0).size() + sent.get(1).size() > 0) {
            return -3;
        }
        room = r;
        window = w;
        wide = v;
        setBounds();
        return 1;
    }

    int write(int s, int n) {
        if (!isStream(s)) {
            return -1;
        }
        if (n < 1 || n > 1000) {
            return -2;
        }
        if (ended[s] || cut[s]) {
            return -3;
        }
        return written[s] + n > 1000 ? -4 : (written[s] += n);
    }

    int end(int s) {
        if (!isStream(s)) {
            return -1;
        }
        if (ended[s] || cut[s]) {
            return -3;
        }
        ended[s] = true;
        return 1;
    }

    int cut(int s) {
        if (!isStream(s)) {
            return -1;
        }
        if (cut[s]) {
            return -3;
        }
        cut[s] = true;
        cutOwed[s] = true;
        return 1;
    }

    int read(int s, int n) {
        if (!isStream(s)) {
            return -1;
        }
        if (n < 1 || n > 1000) {
            return -2;
        }
        int m = Math.min(n, prefix(s) - read[s]);
        read[s] += m;
        if (m > 0) {
            int side = s % 2 == 0 ? 1 : 0;
            boundOwed[s] |= read[s] + window >= toldLast[s] + window / 2;
            allOwed[side] |= readBy(side) + wide >= allTold[side] + wide / 2;
        }
        return m;
    }

    int move() {
        return address == 50 ? -4 : ++address;
    }

    // 2 the net

    int send(int side) {
        if (side != 0 && side != 1) {
            return -1;
        }
        if (sent.get(side).size() == 300 || net.size() == 400) {
            return -4;
        }
        if (side == 1 && tried && spent + room > 3 * got) {
            return -5;
        }
        Pack p = new Pack(side, sent.get(side).size(), time, side == 0 ? address : path);
        addParts(side, p);
        if (p.parts.isEmpty()) {
            return -5;
        }
        if (p.heavy()) {
            probeOwed[side] = false;
        }
        if (side == 1 && tried) {
            spent += p.weight();
        }
        sent.get(side).add(p);
        net.add(p);
        return p.number;
    }

    private boolean fits(Pack p, Part q) {
        if (p.weight() + q.weight() > room) {
            return false;
        }
        p.parts.add(q);
        return true;
    }

    private void addParts(int side, Pack p) {
        if (toldOwed[side] && fits(p, toldPart(side))) {
            toldOwed[side] = false;
        }
        if (flight(side) + room > open[side] && !probeOwed[side]) {
            return;
        }
        if (answerOwed[side] != null && fits(p, new Part(7, 0, answerOwed[side], 0))) {
            answerOwed[side] = null;
        }
        if (askOwed[side] && fits(p, new Part(6, 0, path, 0))) {
            askOwed[side] = false;
        }
        for (int s = 0; s < 8; s++) {
            if (s % 2 != side && boundOwed[s] && fits(p, new Part(2, s, read[s] + window, 0))) {
                boundOwed[s] = false;
                toldLast[s] = read[s] + window;
            }
        }
        if (allOwed[side] && fits(p, new Part(3, 0, readBy(side) + wide, 0))) {
            allOwed[side] = false;
            allTold[side] = readBy(side) + wide;
        }
        for (int s = 0; s < 8; s++) {
            if (s % 2 == side && cutOwed[s] && fits(p, new Part(5, s, 0, 0))) {
                cutOwed[s] = false;
            }
        }
        addBytes(side, p);
        if (probeOwed[side] && !p.heavy()) {
            fits(p, new Part(8, 0, 0, 0));
        }
    }

    private Part toldPart(int side) {
        List<Integer> ends = new ArrayList<>();
        List<Pack> all = sent.get(1 - side);
        for (int n = all.size() - 1; n >= 0 && ends.size() <= 8; n--) {
            boolean above = n + 1 < all.size() && all.get(n + 1).came;
            boolean below = n > 0 && all.get(n - 1).came;
            if (all.get(n).came && !above) {
                ends.add(n);
            }
            if (all.get(n).came && !below) {
                ends.add(ends.size() - 1, n);
            }
        }
        int[] spans = ends.stream().limit(8).mapToInt(Integer::intValue).toArray();
        return new Part(1, 0, 0, spans.length / 2, spans);
    }

    private void addBytes(int side, Pack p) {
        int from = lastStream[side];
        for (int k = 1; k <= 4; k++) {
            int s = (from + 2 * k) % 8;
            Part q = cut[s] ? null : bytesPart(side, s, room - p.weight() - 8, p);
            if (q != null) {
                p.parts.add(q);
                lastStream[side] = s;
            }
        }
    }

    private Part bytesPart(int side, int s, int space, Pack p) {
        int next = next(s), first = 0;
        while (first < next && byteState(s, first) != 2) {
            first++;
        }
        int stop = first;
        if (first < next) {
            while (stop < next && byteState(s, stop) == 2) {
                stop++;
            }
        } else {
            int used = counted(side);
            for (Part q : p.parts) {
                used += q.kind == 4 ? Math.max(0, q.b + q.c % 10000 - next(q.a)) : 0;
            }
            while (stop < written[s] && stop < known[s] && used + stop - first < allKnown[side]) {
                stop++;
            }
        }
        boolean endDue = ended[s] && (endState(s) == 0 || endState(s) == 2);
        if (first == stop) {
            return endDue && next == written[s] && space >= 0 ? new Part(4, s, written[s], 10000) : null;
        }
        if (space < 1) {
            return null;
        }
        int c = Math.min(space, stop - first);
        boolean with = endDue && Math.max(next, first + c) == written[s];
        return new Part(4, s, first, with ? c + 10000 : c);
    }

    private Pack onNet(int i) {
        return i < 0 || i >= net.size() ? null : net.get(i);
    }

    int come(int i) {
        Pack p = onNet(i);
        if (p == null) {
            return -1;
        }
        net.remove(i);
        if (p.side == 1 && p.address != address) {
            strays++;
            return 2;
        }
        int to = 1 - p.side;
        toldOwed[to] |= p.heavy();
        if (p.came) {
            return 0;
        }
        boolean above = p.number > highest(p.side, false);
        p.came = true;
        if (to == 1 && above && p.heavy() && p.address != path) {
            path = p.address;
            tried = true;
            askOwed[1] = true;
            open[1] = 10 * room;
            brim[1] = 1000000;
            fall[1] = time;
            latest[1] = smooth[1] = vary[1] = null;
            got = spent = 0;
        }
        if (to == 1 && tried && p.address == path) {
            got += p.weight();
        }
        for (Part q : p.parts) {
            take(to, q);
        }
        return 1;
    }

    private void take(int to, Part q) {
        if (q.kind == 1) {
            takeTold(to, q.spans);
        } else if (q.kind == 2) {
            known[q.a] = Math.max(known[q.a], q.b);
        } else if (q.kind == 3) {
            allKnown[to] = Math.max(allKnown[to], q.b);
        } else if (q.hasEnd()) {
            said[q.a] = q.b + q.c - 10000;
        } else if (q.kind == 6) {
            answerOwed[to] = q.b;
        } else if (q.kind == 7 && to == 1 && q.b == path) {
            tried = false;
        }
    }

    private void takeTold(int to, int[] spans) {
        List<Pack> fresh = new ArrayList<>();
        for (Pack p : sent.get(to)) {
            for (int j = 0; j < spans.length; j += 2) {
                if (!p.toldOf && spans[j] <= p.number && p.number <= spans[j + 1]) {
                    fresh.add(p);
                }
            }
        }
        for (Pack p : fresh) {
            p.toldOf = true;
        }
        if (!fresh.isEmpty()) {
            Pack top = fresh.get(fresh.size() - 1);
            if (top.number == spans[1] && top.heavy()) {
                measure(to, time - top.time);
            }
        }
        for (Pack p : fresh) {
            if (p.heavy()) {
                probes[to] = 0;
                if (!p.lost && p.time > fall[to]) {
                    open[to] += open[to] < brim[to] ? p.weight() : room * p.weight() / open[to];
                }
            }
        }
        lookForLost(to);
    }

    private void measure(int side, int now) {
        if (latest[side] == null) {
            smooth[side] = 8 * now;
            vary[side] = 4 * now;
        } else {
            vary[side] = (3 * vary[side] + Math.abs(smooth[side] - 8 * now)) / 4;
            smooth[side] = (7 * smooth[side] + 8 * now) / 8;
        }
        latest[side] = now;
    }

    private void lookForLost(int side) {
        int top = highest(side, true);
        int limit = latest[side] == null ? 8 : Math.max(1, 9 * Math.max(smooth[side], 8 * latest[side]) / 64);
        for (Pack p : sent.get(side)) {
            if (p.flies() && p.number < top && (top - p.number >= 3 || time - p.time >= limit)) {
                p.lost = true;
                for (Part q : p.parts) {
                    boundOwed[q.a] |= q.kind == 2;
                    allOwed[side] |= q.kind == 3;
                    cutOwed[q.a] |= q.kind == 5;
                    askOwed[side] |= q.kind == 6 && tried && q.b == path;
                    answerOwed[side] = q.kind == 7 ? Integer.valueOf(q.b) : answerOwed[side];
                }
                if (p.time > fall[side]) {
                    fall[side] = time;
                    open[side] = Math.max(2 * room, open[side] / 2);
                    brim[side] = open[side];
                }
            }
        }
    }

    int drop(int i) {
        if (onNet(i) == null) {
            return -1;
        }
        net.remove(i);
        return net.size();
    }

    int twice(int i) {
        if (onNet(i) == null) {
            return -1;
        }
        if (net.size() == 400) {
            return -4;
        }
        net.add(net.get(i));
        return net.size();
    }

    int tick(int n) {
        if (n < 1 || n > 1000) {
            return -2;
        }
        for (int t = 0; t < n; t++) {
            time++;
            for (int side = 0; side < 2; side++) {
                lookForLost(side);
                int last = 0;
                for (Pack p : sent.get(side)) {
                    last = p.heavy() ? p.time : last;
                }
                int wait = latest[side] == null ? 8 : (smooth[side] + Math.max(4 * vary[side], 8)) / 8 + 2;
                for (int k = Math.min(6, probes[side]); k > 0; k--) {
                    wait *= 2;
                }
                if (flight(side) > 0 && time >= last + wait) {
                    probeOwed[side] = true;
                    probes[side]++;
                }
            }
        }
        return time;
    }

    // 3 what is told

    private static int one(boolean is) {
        return is ? 1 : 0;
    }

    private static int orNone(Integer n) {
        return n == null ? -6 : n;
    }

    int stream(int s, int what) {
        if (!isStream(s)) {
            return -1;
        }
        switch (what) {
            case 0: return written[s];
            case 1: return one(ended[s]);
            case 2: return one(cut[s]);
            case 3: return next(s);
            case 4: return countBytes(s, 3);
            case 5: return countBytes(s, 2);
            case 6: return known[s];
            case 7: return one(endState(s) == 3);
            case 8: return bytesCame(s);
            case 9: return prefix(s);
            case 10: return read[s];
            case 11: return toldLast[s];
            case 12: return one(boundOwed[s]);
            case 13: return orNone(said[s]);
            case 14: return one(partCame(s, 5));
            default: return -2;
        }
    }

    int state(int s, int i) {
        return !isStream(s) || i < 0 || i > 999 ? -1 : byteState(s, i) + (byteCame(s, i) ? 4 : 0);
    }

    int side(int side, int what) {
        if (side != 0 && side != 1) {
            return -1;
        }
        switch (what) {
            case 0: return sent.get(side).size();
            case 1: return flight(side);
            case 2: return open[side];
            case 3: return brim[side];
            case 4: return fall[side];
            case 5: return orNone(latest[side]);
            case 6: return orNone(smooth[side]);
            case 7: return orNone(vary[side]);
            case 8: return probes[side];
            case 9: return one(probeOwed[side]);
            case 10: return highest(side, true);
            case 11: return highest(1 - side, false);
            case 12: return one(toldOwed[side]);
            case 13: return allKnown[side];
            case 14: return counted(side);
            case 15: return one(allOwed[side]);
            case 16: return allTold[side];
            default: return -2;
        }
    }

    private Pack packOf(int side, int number) {
        boolean is = (side == 0 || side == 1) && number >= 0 && number < sent.get(side).size();
        return is ? sent.get(side).get(number) : null;
    }

    int packet(int side, int number, int what) {
        Pack p = packOf(side, number);
        if (p == null) {
            return -1;
        }
        switch (what) {
            case 0: return p.time;
            case 1: return p.address;
            case 2: return p.weight();
            case 3: return p.parts.size();
            case 4: return one(p.heavy());
            case 5: return one(p.toldOf);
            case 6: return one(p.lost);
            case 7: return one(p.came);
            default: return -2;
        }
    }

    int part(int side, int number, int k, int what) {
        Pack p = packOf(side, number);
        if (p == null || k < 0 || k >= p.parts.size()) {
            return -1;
        }
        Part q = p.parts.get(k);
        switch (what) {
            case 0: return q.kind;
            case 1: return q.a;
            case 2: return q.b;
            case 3: return q.c;
            default:
                return what < 0 || what > 11 ? -2 : what - 4 < q.spans.length ? q.spans[what - 4] : -6;
        }
    }

    int net(int i, int what) {
        Pack p = onNet(i);
        if (p == null) {
            return -1;
        }
        return what == 0 ? p.side : what == 1 ? p.number : -2;
    }

    int told(int what) {
        int[] all = {time, net.size(), address, path, one(tried), got, spent, strays};
        return what < 0 || what >= all.length ? -2 : all[what];
    }
}
