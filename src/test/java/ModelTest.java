import java.util.ArrayList;
import java.util.Arrays;
import java.util.Comparator;
import java.util.List;
import java.util.NoSuchElementException;
import java.util.Random;

/**
 * Random runs of calls against a slow model, which holds nothing but settings and inputs and
 * plays all of them from the start for every answer; every call, wrong ones too, must answer
 * the same, and nothing but NoSuchElementException may reach the caller.
 */
public final class ModelTest {
    static final int NONE = -1;

    static final class Session {
        int key, first, last, count, sum, most, kind = NONE;

        int[] cells() {
            return new int[] {key, first, last, count, sum + 20000, most + 99, kind};
        }
    }

    /** One way through all inputs. */
    static final class Play {
        final int n, gap, lateness, early;
        final int[] mark = new int[4], came = new int[4], lost = new int[4];
        final boolean[] idle = new boolean[4];
        final int[] delay;
        int progress, melted;
        final List<Session> sessions = new ArrayList<>();
        final List<int[]> messages = new ArrayList<>();
        final List<Session> finals = new ArrayList<>();
        final List<int[]> taken = new ArrayList<>();
        int late, dropped, latest, latestInput = NONE;

        Play(int n, int gap, int lateness, int early, int[] delay) {
            this.n = n;
            this.gap = gap;
            this.lateness = lateness;
            this.early = early;
            this.delay = delay;
        }

        void send(int kind, Session s) {
            messages.add(new int[] {kind, s.key, s.first, s.last, s.count, s.sum + 20000});
            s.kind = kind == 3 ? NONE : kind;
        }

        List<Session> near(int key, int t) {
            List<Session> found = new ArrayList<>();
            for (Session s : sorted()) {
                if (s.key == key && s.first - gap <= t && t <= s.last + gap) {
                    found.add(s);
                }
            }
            return found;
        }

        List<Session> sorted() {
            List<Session> all = new ArrayList<>(sessions);
            all.sort(Comparator.comparingInt((Session s) -> s.key).thenComparingInt(s -> s.first));
            return all;
        }

        boolean ripe(Session s, int p) {
            return s.last + gap < p;
        }

        int event(int number, int key, int t, int value, int source) {
            int fate = t < progress - lateness ? 2 : t < progress ? 1 : 0;
            if (progress - t > latest) {
                latest = progress - t;
                latestInput = number;
            }
            came[source]++;
            if (fate == 2) {
                dropped++;
                lost[source]++;
            } else {
                late += fate;
                taken.add(new int[] {key, t, value});
                Session made = new Session();
                made.key = key;
                made.first = t;
                made.last = t;
                made.count = 1;
                made.sum = value;
                made.most = value;
                List<Session> near = near(key, t);
                for (Session s : near) {
                    if (s.kind != NONE) {
                        send(3, s);
                    }
                    made.first = Math.min(made.first, s.first);
                    made.last = Math.max(made.last, s.last);
                    made.count += s.count;
                    made.sum += s.sum;
                    made.most = Math.max(made.most, s.most);
                }
                sessions.removeAll(near);
                sessions.add(made);
                melted += near.size() == 2 ? 1 : 0;
                if (ripe(made, progress)) {
                    send(2, made);
                } else if (early != 0 && made.count % early == 0) {
                    send(0, made);
                }
            }
            idle[source] = false;
            mark[source] = Math.max(mark[source], t - delay[source]);
            rise();
            return fate;
        }

        int could(int except) {
            int least = Integer.MAX_VALUE;
            for (int i = 0; i < n; i++) {
                if (!idle[i] && i != except) {
                    least = Math.min(least, mark[i]);
                }
            }
            return least == Integer.MAX_VALUE ? progress : Math.max(progress, least);
        }

        void rise() {
            int old = progress;
            progress = could(NONE);
            List<Session> all = new ArrayList<>(sessions);
            all.sort(Comparator.comparingInt((Session s) -> s.last).thenComparingInt(s -> s.key));
            for (Session s : all) {
                if (ripe(s, progress) && !ripe(s, old)) {
                    if (s.kind != NONE) {
                        send(3, s);
                    }
                    send(1, s);
                }
            }
            for (Session s : all) {
                if (s.last + gap + lateness < progress) {
                    finals.add(s);
                    sessions.remove(s);
                }
            }
        }

        int kindOf(int kind) {
            return (int) messages.stream().filter(m -> m[0] == kind).count();
        }

        int willRipen(int p) {
            return (int) sessions.stream().filter(s -> !ripe(s, progress) && ripe(s, p)).count();
        }
    }

    static final class State {
        int n = 1, gap = 10, lateness = 5, early = 0;
        int[] delay = {20, 20, 20, 20};
        List<int[]> inputs = new ArrayList<>();

        State copy() {
            State s = new State();
            s.n = n;
            s.gap = gap;
            s.lateness = lateness;
            s.early = early;
            s.delay = delay.clone();
            s.inputs = new ArrayList<>(inputs);
            return s;
        }

        Play play() {
            return play(gap, lateness, early, NONE);
        }

        Play play(int otherGap, int otherLateness, int otherEarly, int without) {
            Play p = new Play(n, otherGap, otherLateness, otherEarly, delay);
            if (without != NONE) {
                p.idle[without] = true;
            }
            for (int i = 0; i < inputs.size(); i++) {
                int[] in = inputs.get(i);
                if (in[1] == without) {
                    continue;
                }
                if (in[0] == 0) {
                    p.event(i, in[3], in[2], in[4], in[1]);
                } else if (in[0] == 1) {
                    p.mark[in[1]] = in[2];
                    p.rise();
                } else {
                    p.idle[in[1]] = true;
                    p.rise();
                }
            }
            return p;
        }
    }

    /** The document, call by call; a call's answer is a long, or null for the exception. */
    static final class Model {
        State now = new State();
        final List<State> undo = new ArrayList<>();
        final State[] kept = new State[2];
        long[] row = {};
        String text = "";

        void tell(long... numbers) {
            row = numbers;
        }

        void save(State before) {
            undo.add(before);
            if (undo.size() > 6) {
                undo.remove(0);
            }
        }

        boolean bad(int v, int low, int high) {
            return v < low || v > high;
        }

        boolean badEvent(int key, int t, int value, int source) {
            return bad(key, 0, 5) || bad(t, 0, 9999) || bad(value, -99, 99) || bad(source, 0, now.n - 1);
        }

        /** An act without row and undo: what it answers; [0] what, source, time, key, value. */
        long act(int[] in) {
            Play p = now.play();
            if (in[0] == 0) {
                if (badEvent(in[3], in[2], in[4], in[1])) {
                    return NONE;
                }
            } else if (bad(in[1], 0, now.n - 1) || bad(in[2], 0, 20000)) {
                return NONE;
            } else if (in[0] == 1 && p.mark[in[1]] >= in[2] || in[0] == 2 && p.idle[in[1]]) {
                return -2;
            }
            if (now.inputs.size() >= 160) {
                return -3;
            }
            int before = p.messages.size();
            now.inputs.add(in);
            Play q = now.play();
            if (in[0] == 0) {
                return q.dropped > p.dropped ? 2 : q.late > p.late ? 1 : 0;
            }
            return q.messages.size() - before;
        }

        long single(int[] in) {
            State before = now.copy();
            int sent = now.play().messages.size();
            long answer = act(in);
            if (answer >= 0) {
                save(before);
                Play p = now.play();
                if (in[0] == 0) {
                    tell(p.messages.size() - sent, p.progress);
                } else {
                    tell(p.progress);
                }
            }
            return answer;
        }

        static boolean digits(String s) {
            return s.chars().allMatch(c -> c >= '0' && c <= '9');
        }

        /** Reads texts by one regular expression, sign by sign: the first that can't be. */
        static int misfit(String text, boolean day, int n) {
            int i = 0;
            while (i < text.length()) {
                String form = "";
                if (day) {
                    char c = text.charAt(i);
                    form = c == 'e' ? "kddddsddd" : c == 'm' ? "dddddd" : c == 'i' ? "d" : "";
                    if (form.isEmpty()) {
                        return i;
                    }
                    i++;
                } else {
                    form = "kddddsddn";
                }
                for (char f : form.toCharArray()) {
                    if (i >= text.length()) {
                        return i;
                    }
                    String allowed = f == 'k' ? "abcdef" : f == 's' ? "+-"
                            : f == 'd' ? "0123456789" : "0123".substring(0, n);
                    if (allowed.indexOf(text.charAt(i)) < 0) {
                        return i;
                    }
                    i++;
                }
            }
            return NONE;
        }

        static int[] readEvent(String s) {
            return new int[] {0, s.charAt(8) - '0', Integer.parseInt(s.substring(1, 5)),
                s.charAt(0) - 'a', Integer.parseInt(s.substring(5, 8))};
        }

        long events() {
            String read = text;
            text = "";
            int at = misfit(read, false, now.n);
            if (at >= 0) {
                return -1 - at;
            }
            int n = read.length() / 9;
            if (now.inputs.size() + n > 160) {
                return -3;
            }
            State before = now.copy();
            Play p = now.play();
            for (int k = 0; k < n; k++) {
                act(readEvent(read.substring(9 * k, 9 * k + 9)));
            }
            if (n > 0) {
                save(before);
            }
            Play q = now.play();
            tell(q.messages.size() - p.messages.size(), q.progress);
            return q.taken.size() - p.taken.size();
        }

        long day() {
            String read = text;
            text = "";
            int at = misfit(read, true, now.n);
            if (at >= 0) {
                return -1 - at;
            }
            State before = now.copy();
            int sent = now.play().messages.size();
            int done = 0;
            int failed = 0;
            while (!read.isEmpty() && failed == 0) {
                int size = read.charAt(0) == 'e' ? 10 : read.charAt(0) == 'm' ? 7 : 2;
                int[] in = size == 10 ? readEvent(read.substring(1, 10)) : size == 7
                    ? new int[] {1, read.charAt(1) - '0', Integer.parseInt(read.substring(2, 7)), NONE, 0}
                    : new int[] {2, read.charAt(1) - '0', 0, NONE, 0};
                read = read.substring(size);
                if (act(in) < 0) {
                    failed = 1;
                } else {
                    done++;
                }
            }
            if (done > 0) {
                save(before);
            }
            tell(failed, now.play().messages.size() - sent);
            return done;
        }

        List<int[]> ofKey(Play p, int key) {
            List<int[]> found = new ArrayList<>();
            for (int[] e : p.taken) {
                if (e[0] == key) {
                    found.add(e);
                }
            }
            found.sort(Comparator.comparingInt(e -> e[1]));
            return found;
        }

        List<List<int[]>> split(List<int[]> events, int gap) {
            List<List<int[]>> all = new ArrayList<>();
            int last = 0;
            for (int[] e : events) {
                if (all.isEmpty() || e[1] - last > gap) {
                    all.add(new ArrayList<>());
                }
                all.get(all.size() - 1).add(e);
                last = e[1];
            }
            return all;
        }

        long batch(int key) {
            if (bad(key, 0, 5)) {
                return NONE;
            }
            List<List<int[]>> all = split(ofKey(now.play(), key), now.gap);
            if (all.isEmpty()) {
                tell(NONE, NONE, NONE);
                return 0;
            }
            int count = 0;
            int sum = Integer.MIN_VALUE;
            int hole = NONE;
            int last = 0;
            for (List<int[]> one : all) {
                count = Math.max(count, one.size());
                sum = Math.max(sum, one.stream().mapToInt(e -> e[2]).sum());
                if (one != all.get(0)) {
                    hole = Math.max(hole, one.get(0)[1] - last);
                }
                last = one.get(one.size() - 1)[1];
            }
            tell(count, sum, hole);
            return all.size();
        }

        long parts(int key, int n) {
            if (bad(key, 0, 5) || bad(n, 1, 60)) {
                return NONE;
            }
            List<int[]> events = ofKey(now.play(), key);
            for (int gap = 99; gap >= 1; gap--) {
                if (split(events, gap).size() >= n) {
                    return gap;
                }
            }
            return -2;
        }

        long span(int from, int to) {
            if (bad(from, 0, 9999) || bad(to, 0, 9999) || to < from) {
                return NONE;
            }
            int[] of = new int[6];
            int n = 0;
            int sum = 0;
            for (int[] e : now.play().taken) {
                if (e[1] >= from && e[1] <= to) {
                    n++;
                    sum += e[2];
                    of[e[0]]++;
                }
            }
            int key = 0;
            for (int k = 1; k < 6; k++) {
                key = of[k] > of[key] ? k : key;
            }
            tell(sum, n == 0 ? NONE : key, of[key]);
            return n;
        }

        long slow() {
            Play p = now.play();
            int best = NONE;
            int most = 0;
            for (int i = 0; i < p.n; i++) {
                int rise = p.could(i) - p.progress;
                if (rise > most) {
                    most = rise;
                    best = i;
                }
            }
            if (best == NONE) {
                return -2;
            }
            tell(most, p.willRipen(p.progress + most));
            return best;
        }

        long holds() {
            Play p = now.play();
            int least = Integer.MAX_VALUE;
            int greatest = 0;
            int bits = 0;
            for (int i = 0; i < p.n; i++) {
                greatest = Math.max(greatest, p.mark[i]);
                if (p.idle[i] || p.mark[i] > least) {
                    continue;
                }
                bits = p.mark[i] < least ? 1 << i : bits | 1 << i;
                least = p.mark[i];
            }
            tell(bits == 0 ? NONE : least, greatest - p.progress);
            return bits;
        }

        long next() {
            Play p = now.play();
            List<Session> all = p.sorted();
            int best = NONE;
            for (int i = 0; i < all.size(); i++) {
                if (!p.ripe(all.get(i), p.progress) && (best < 0 || all.get(i).last < all.get(best).last)) {
                    best = i;
                }
            }
            if (best < 0) {
                return -2;
            }
            int more = 0;
            while (!p.ripe(all.get(best), p.progress + more)) {
                more++;
            }
            tell(more);
            return best;
        }

        long ahead(int to) {
            Play p = now.play();
            if (bad(to, 0, 20000)) {
                return NONE;
            }
            if (to < p.progress) {
                return -2;
            }
            tell(p.sessions.stream().filter(s -> s.last + p.gap + p.lateness < to).count());
            return p.willRipen(to);
        }

        long would(int key, int t, int value, int source) {
            if (badEvent(key, t, value, source)) {
                return NONE;
            }
            Play p = now.play();
            int sent = p.messages.size();
            int near = p.near(key, t).size();
            int fate = p.event(0, key, t, value, source);
            tell(fate == 2 ? 0 : near, p.messages.size() - sent);
            return fate;
        }

        long years(int seed, int n) {
            if (bad(n, 1, 40)) {
                return NONE;
            }
            Play p = now.play();
            int sent = p.messages.size();
            int taken = p.taken.size();
            int r = seed;
            for (int k = 0; k < n && now.inputs.size() + k < 160; k++) {
                int[] draws = {6, 100, 199, now.n};
                for (int d = 0; d < 4; d++) {
                    r = r * 1103515245 + 12345;
                    draws[d] = (int) (((r & 0xffffffffL) / 65536) % draws[d]);
                }
                int t = Math.max(0, Math.min(9999, p.progress - p.lateness + draws[1]));
                p.event(0, draws[0], t, draws[2] - 99, draws[3]);
            }
            tell(p.messages.size() - sent, p.progress);
            return p.taken.size() - taken;
        }

        Long source(int i, int what) {
            if (bad(i, 0, now.n - 1)) {
                return null;
            }
            Play p = now.play();
            switch (what) {
                case 0: return (long) p.mark[i];
                case 1: return (long) p.delay[i];
                case 2: return p.idle[i] ? 1L : 0L;
                case 3: return (long) p.came[i];
                case 4: return (long) p.lost[i];
                case 5: return p.mark[i] < p.progress ? -1L : p.mark[i] - p.progress;
                default: return null;
            }
        }

        Long cell(List<int[]> rows, int i, int what, int latest) {
            if (bad(i, Math.max(0, rows.size() - latest), rows.size() - 1)) {
                return null;
            }
            int[] found = rows.get(i);
            return bad(what, 0, found.length - 1) ? null : Long.valueOf(found[what]);
        }

        Long session(int i, int what) {
            Play p = now.play();
            List<int[]> rows = new ArrayList<>();
            for (Session s : p.sorted()) {
                int[] cells = Arrays.copyOf(s.cells(), 8);
                cells[6] = p.ripe(s, p.progress) ? 1 : 0;
                cells[7] = s.kind != NONE ? 1 : 0;
                rows.add(cells);
            }
            return cell(rows, i, what, 1000);
        }

        Long finals(int i, int what) {
            List<int[]> rows = new ArrayList<>();
            for (Session s : now.play().finals) {
                rows.add(s.cells());
            }
            return cell(rows, i, what, 40);
        }

        Long input(int i, int what) {
            List<int[]> rows = new ArrayList<>();
            for (int[] in : now.inputs) {
                rows.add(Arrays.copyOf(in, 4));
            }
            return cell(rows, i, what, 1000);
        }

        long at(int key, int t) {
            if (bad(key, 0, 5) || bad(t, 0, 9999)) {
                return NONE;
            }
            Play p = now.play();
            List<Session> near = p.near(key, t);
            if (near.isEmpty()) {
                return -2;
            }
            tell(near.size());
            return p.sorted().indexOf(near.get(0));
        }

        long stands(int key) {
            Play p = now.play();
            List<Session> all = new ArrayList<>(p.finals);
            all.addAll(p.sessions);
            all.removeIf(s -> s.kind == NONE || key != NONE && s.key != key);
            if (key == NONE) {
                tell(all.stream().mapToInt(s -> s.count).sum(), all.stream().mapToInt(s -> s.sum).sum());
            }
            return all.size();
        }

        long closed(int key) {
            if (bad(key, 0, 5)) {
                return NONE;
            }
            int n = 0, counts = 0, sums = 0, longest = NONE;
            for (Session s : now.play().finals) {
                if (s.key == key) {
                    n++;
                    counts += s.count;
                    sums += s.sum;
                    longest = Math.max(longest, s.last - s.first);
                }
            }
            tell(counts, sums, longest);
            return n;
        }

        long kinds(int key) {
            if (bad(key, 0, 5)) {
                return NONE;
            }
            long[] told = new long[5];
            int all = 0;
            for (int[] m : now.play().messages) {
                if (m[1] == key) {
                    told[m[0]]++;
                    all++;
                }
            }
            told[4] = stands(key);
            tell(told);
            return all;
        }

        long again(int gap, int lateness, int early) {
            if (bad(gap, 1, 99) || bad(lateness, 0, 99) || bad(early, 0, 9)) {
                return NONE;
            }
            Play p = now.play(gap, lateness, early, NONE);
            tell(p.kindOf(0), p.kindOf(1), p.kindOf(2), p.kindOf(3), p.sessions.size(), p.finals.size());
            return p.dropped;
        }

        long without(int source) {
            if (bad(source, 0, now.n - 1)) {
                return NONE;
            }
            if (now.n == 1) {
                return -2;
            }
            Play p = now.play(now.gap, now.lateness, now.early, source);
            tell(p.dropped, p.sessions.size(), p.finals.size());
            return p.progress;
        }

        long start(int n, int gap, int lateness, int early) {
            if (bad(n, 1, 4) || bad(gap, 1, 99) || bad(lateness, 0, 99) || bad(early, 0, 9)) {
                return NONE;
            }
            save(now);
            now = new State();
            now.n = n;
            now.gap = gap;
            now.lateness = lateness;
            now.early = early;
            return n;
        }

        long delays(int source, int v) {
            if (bad(source, 0, now.n - 1) || bad(v, 0, 999)) {
                return NONE;
            }
            int was = now.delay[source];
            if (was == v) {
                return -2;
            }
            if (!now.inputs.isEmpty()) {
                return -3;
            }
            save(now.copy());
            now.delay[source] = v;
            return was;
        }

        long count(int what) {
            Play p = now.play();
            int[] all = {now.n, now.gap, now.lateness, now.early, p.progress, p.sessions.size(),
                now.inputs.size(), p.messages.size(), undo.size(), row.length, text.length()};
            return bad(what, 0, 10) ? NONE : all[what];
        }

        long sign(int v) {
            if (text.length() + 4 > 80) {
                return NONE;
            }
            text += "" + (char) (v >>> 24) + (char) (v >>> 16 & 255) + (char) (v >>> 8 & 255) + (char) (v & 255);
            return text.length();
        }

        long end(int n) {
            if (bad(n, 0, text.length())) {
                return 0;
            }
            text = text.substring(0, n);
            return 1;
        }

        long undo() {
            if (undo.isEmpty()) {
                return NONE;
            }
            now = undo.remove(undo.size() - 1);
            return undo.size();
        }

        long keep(int i) {
            if (bad(i, 0, 1)) {
                return 0;
            }
            kept[i] = now.copy();
            return 1;
        }

        long back(int i) {
            if (bad(i, 0, 1) || kept[i] == null) {
                return 0;
            }
            now = kept[i].copy();
            undo.clear();
            return 1;
        }

        Long answer(int call, int[] a) {
            switch (call) {
                case 0: return sign(a[0]);
                case 1: return end(a[0]);
                case 2: return start(a[0], a[1], a[2], a[3]);
                case 3: return delays(a[0], a[1]);
                case 4: return single(new int[] {0, a[3], a[1], a[0], a[2]});
                case 5: return events();
                case 6: return single(new int[] {1, a[0], a[1], NONE, 0});
                case 7: return single(new int[] {2, a[0], 0, NONE, 0});
                case 8: return source(a[0], a[1]);
                case 9: return session(a[0], a[1]);
                case 10: return at(a[0], a[1]);
                case 11: return cell(now.play().messages, a[0], a[1], 60);
                case 12:
                    if (bad(a[0], 0, 3)) {
                        return -1L;
                    }
                    tell(now.play().messages.size());
                    return (long) now.play().kindOf(a[0]);
                case 13: return stands(NONE);
                case 14: return closed(a[0]);
                case 15: return finals(a[0], a[1]);
                case 16: return kinds(a[0]);
                case 17: return slow();
                case 18: return span(a[0], a[1]);
                case 19:
                    Play p = now.play();
                    tell(p.late, p.dropped, p.melted);
                    return (long) p.taken.size();
                default: return answerMore(call, a);
            }
        }

        Long answerMore(int call, int[] a) {
            switch (call) {
                case 20: return holds();
                case 21: return next();
                case 22: return ahead(a[0]);
                case 23: return would(a[0], a[1], a[2], a[3]);
                case 24: return batch(a[0]);
                case 25:
                    Play p = now.play();
                    tell(p.latestInput);
                    return (long) p.latest;
                case 26: return parts(a[0], a[1]);
                case 27: return again(a[0], a[1], a[2]);
                case 28: return without(a[0]);
                case 29: return input(a[0], a[1]);
                case 30: return day();
                case 31: return undo();
                case 32: return years(a[0], a[1]);
                case 33: return keep(a[0]);
                case 34: return back(a[0]);
                case 35: return count(a[0]);
                default: return bad(a[0], 0, row.length - 1) ? null : Long.valueOf(row[a[0]]);
            }
        }
    }

    static final String[] NAMES = {"sign", "end", "start", "delays", "event", "events", "marks", "idles",
        "source", "session", "at", "message", "sent", "stands", "closed", "finals", "kinds", "slow", "span",
        "taken", "holds", "next", "ahead", "would", "batch", "latest", "parts", "again", "without", "input",
        "day", "undo", "years", "keep", "back", "count", "row"};

    static long bit(boolean b) {
        return b ? 1 : 0;
    }

    static Long real(LateSessions x, int call, int[] a) {
        try {
            switch (call) {
                case 0: return (long) x.sign(a[0]);
                case 1: return bit(x.end(a[0]));
                case 2: return (long) x.start(a[0], a[1], a[2], a[3]);
                case 3: return (long) x.delays(a[0], a[1]);
                case 4: return (long) x.event(a[0], a[1], a[2], a[3]);
                case 5: return (long) x.events();
                case 6: return (long) x.marks(a[0], a[1]);
                case 7: return (long) x.idles(a[0]);
                case 8: return (long) x.source(a[0], a[1]);
                case 9: return (long) x.session(a[0], a[1]);
                case 10: return (long) x.at(a[0], a[1]);
                case 11: return (long) x.message(a[0], a[1]);
                case 12: return (long) x.sent(a[0]);
                case 13: return (long) x.stands();
                case 14: return (long) x.closed(a[0]);
                case 15: return (long) x.finals(a[0], a[1]);
                case 16: return (long) x.kinds(a[0]);
                case 17: return (long) x.slow();
                case 18: return (long) x.span(a[0], a[1]);
                case 19: return (long) x.taken();
                case 20: return (long) x.holds();
                case 21: return (long) x.next();
                case 22: return (long) x.ahead(a[0]);
                case 23: return (long) x.would(a[0], a[1], a[2], a[3]);
                case 24: return (long) x.batch(a[0]);
                case 25: return (long) x.latest();
                case 26: return (long) x.parts(a[0], a[1]);
                case 27: return (long) x.again(a[0], a[1], a[2]);
                case 28: return (long) x.without(a[0]);
                case 29: return (long) x.input(a[0], a[1]);
                case 30: return (long) x.day();
                case 31: return (long) x.undo();
                case 32: return (long) x.years(a[0], a[1]);
                case 33: return bit(x.keep(a[0]));
                case 34: return bit(x.back(a[0]));
                case 35: return (long) x.count(a[0]);
                default: return x.row(a[0]);
            }
        } catch (NoSuchElementException e) {
            return null;
        }
    }

    /** Draws calls that mostly can be done, near to where progress is. */
    static final class Drawer {
        final Random random;
        final int style;

        Drawer(Random random) {
            this.random = random;
            this.style = random.nextInt(5);
        }

        int of(int low, int high) {
            return low + random.nextInt(high - low + 1);
        }

        int near(int low, int high) {
            int[] edges = {low - 1, low, high, high + 1, Integer.MIN_VALUE, Integer.MAX_VALUE};
            return random.nextInt(12) == 0 ? edges[random.nextInt(6)] : of(low, high);
        }

        int time(Play p) {
            if (random.nextInt(40) == 0) {
                return near(0, 9999);
            }
            int wide = style == 0 ? 300 : style == 1 ? 40 : 120;
            int t = p.progress - p.lateness - 10 + of(0, wide);
            return Math.max(0, Math.min(9999, t));
        }

        String eventText(Play p) {
            int value = of(-99, 99);
            return String.format("%c%04d%c%02d%d", 'a' + of(0, 5), time(p) % 10000, value < 0 ? '-' : '+',
                    Math.abs(value), random.nextInt(30) == 0 ? of(0, 9) : of(0, p.n - 1));
        }

        String text(Play p, boolean day) {
            StringBuilder s = new StringBuilder();
            int n = of(0, 8);
            for (int k = 0; k < n; k++) {
                int kind = day ? random.nextInt(4) : 4;
                s.append(kind == 4 ? eventText(p) : kind >= 2 ? "e" + eventText(p) : kind == 1
                        ? String.format("m%d%05d", of(0, p.n - 1), Math.min(p.progress + of(-20, 60), 99999) & 65535)
                        : "i" + of(0, p.n - 1));
            }
            int spoil = random.nextInt(12);
            if (spoil == 0 && s.length() > 0) {
                s.setCharAt(random.nextInt(s.length()), "eax+0:/`g\u00ff\u0000".charAt(random.nextInt(11)));
            } else if (spoil == 1) {
                s.setLength(random.nextInt(s.length() + 1));
            }
            s.setLength(Math.min(s.length(), 80));
            return s.toString();
        }

        int[] arguments(int call, Model m, Play p) {
            int key = near(0, 5);
            int source = near(0, p.n - 1);
            int value = near(-99, 99);
            switch (call) {
                case 0: return new int[] {random.nextInt()};
                case 1: return new int[] {near(0, m.text.length())};
                case 2: return new int[] {near(1, 4), style == 3 ? near(1, 3) : near(1, random.nextBoolean() ? 20 : 99),
                    near(0, 99), near(0, random.nextBoolean() ? 3 : 9)};
                case 3: return new int[] {source, random.nextBoolean() ? near(0, 30) : near(0, 999)};
                case 4: case 23: return new int[] {key, time(p), value, source};
                case 6: return new int[] {source, random.nextInt(20) == 0 ? near(0, 20000) : p.progress + of(-5, 60)};
                case 8: return new int[] {source, near(0, 5)};
                case 9: return new int[] {near(0, p.sessions.size()), near(0, 7)};
                case 10: return new int[] {key, time(p)};
                case 11: return new int[] {p.messages.size() - near(0, 62), near(0, 5)};
                case 12: return new int[] {near(0, 3)};
                case 15: return new int[] {p.finals.size() - near(0, 42), near(0, 6)};
                case 18: return new int[] {time(p), time(p) + of(-20, 200)};
                case 22: return new int[] {random.nextBoolean() ? p.progress + of(-3, 150) : near(0, 20000)};
                case 26: return new int[] {key, random.nextBoolean() ? near(1, 6) : near(1, 60)};
                case 27: return new int[] {near(1, 99), near(0, 99), near(0, 9)};
                case 29: return new int[] {near(0, m.now.inputs.size()), near(0, 3)};
                case 32: return new int[] {random.nextInt(), near(1, 40)};
                case 33: case 34: return new int[] {near(0, 1)};
                case 35: return new int[] {near(0, 10)};
                case 36: return new int[] {near(0, 5)};
                case 14: case 16: case 24: return new int[] {key};
                default: return new int[] {source};
            }
        }
    }

    static final class Run {
        final LateSessions x = new LateSessions();
        final Model m = new Model();
        final List<String> calls = new ArrayList<>();
        int left = 512;

        boolean same(int call, int... a) {
            left--;
            Long due = m.answer(call, a);
            Long got = real(x, call, a);
            calls.add(NAMES[call] + Arrays.toString(a) + " " + got);
            if (due == null ? got == null : due.equals(got)) {
                return true;
            }
            System.out.println("due is " + due + " at the end of " + calls);
            return false;
        }

        boolean write(String text) {
            boolean good = same(1, 0);
            for (int i = 0; good && i < text.length(); i += 4) {
                int v = 0;
                for (int k = i; k < i + 4; k++) {
                    v = v << 8 | (k < text.length() ? text.charAt(k) : 0);
                }
                good = same(0, v);
            }
            return good && same(1, text.length());
        }

        /** Every number that can be asked for without harm to the row. */
        boolean all(Random random) {
            boolean good = true;
            for (int i = 0; good && i < 6; i++) {
                good = same(36, i);
            }
            for (int what = 0; good && what < 11; what++) {
                good = same(35, what);
            }
            return good && same(11, m.now.play().messages.size() - 1 - random.nextInt(3), random.nextInt(6));
        }
    }

    static boolean run(long seed) {
        Random random = new Random(seed);
        Drawer drawer = new Drawer(random);
        Run run = new Run();
        int mostlyInputs = random.nextInt(3);
        if (drawer.style != 2 && !run.same(2, drawer.arguments(2, run.m, run.m.now.play()))) {
            return false;
        }
        while (run.left > 60) {
            Play p = run.m.now.play();
            int call = random.nextInt(37);
            int pick = random.nextInt(10);
            if (pick < 2 + 3 * mostlyInputs) {
                int[] inputs = {4, 4, 4, 4, 4, 6, 7, 5, 30};
                call = inputs[random.nextInt(inputs.length)];
            } else if (call == 2 && random.nextInt(6) != 0) {
                call = 23;
            } else if ((call == 33 || call == 34 || call == 31) && random.nextInt(3) != 0) {
                call = 35;
            }
            if ((call == 5 || call == 30) && !run.write(drawer.text(p, call == 30))) {
                return false;
            }
            if (!run.same(call, drawer.arguments(call, run.m, p))) {
                return false;
            }
            if (random.nextInt(8) == 0 && !run.all(random)) {
                return false;
            }
        }
        return true;
    }

    public static void main(String[] args) {
        int runs = args.length > 0 ? Integer.parseInt(args[0]) : 400;
        int wrong = 0;
        for (int seed = 0; seed < runs && wrong < 3; seed++) {
            if (!run(seed)) {
                System.out.println("run of seed " + seed + " is wrong");
                wrong++;
            }
        }
        System.out.println(wrong == 0 ? runs + " runs are as the model's" : wrong + " runs are wrong");
        if (wrong != 0) {
            System.exit(1);
        }
    }
}
