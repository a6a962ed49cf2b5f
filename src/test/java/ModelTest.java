import java.util.ArrayList;
import java.util.Arrays;
import java.util.HashSet;
import java.util.List;
import java.util.Random;
import java.util.function.ToIntFunction;
import java.util.regex.Matcher;
import java.util.regex.Pattern;

/**
 * Long runs of calls against a second program that holds every day by itself: no rows of days that begin and end,
 * no orders that are told again, a copy of all of it for each change.
 */
public final class ModelTest {
    private static final int DAYS = 10000;
    private static final String COMMANDS = "f[0-3]>[0-9]{1,4}@[0-9]{1,4}:[a-z]{1,8}|[rs][0-9]{1,4}@[0-9]{1,4}:[a-z]{1,8}"
        + "|[mg][0-9]{1,4}>[0-9]{1,4}@[0-9]{1,4}|c[0-9]{1,4}@[0-9]{1,4}";
    private static final Pattern TEXT = Pattern.compile("(?:" + COMMANDS + ")(?:;(?:" + COMMANDS + "))*");

    private static final class P implements Cloneable {
        int kind, founded, ended = -1, into = -1, latest, given, told;
        int[] parent = new int[DAYS];
        String[] name = new String[DAYS];
        ArrayList<Integer> nameDays = new ArrayList<>();
        ArrayList<String> names = new ArrayList<>();
        ArrayList<int[]> events = new ArrayList<>();

        boolean exists(int day) {
            return founded <= day && (ended < 0 || day < ended);
        }

        void tell(int day, int sort, int number) {
            told++;
            if (events.size() < 24) {
                events.add(new int[] {day, sort, number});
            }
        }

        P copy() {
            try {
                P p = (P) clone();
                p.parent = parent.clone();
                p.name = name.clone();
                p.nameDays = new ArrayList<>(nameDays);
                p.names = new ArrayList<>(names);
                p.events = new ArrayList<>(events);
                return p;
            } catch (CloneNotSupportedException e) {
                throw new IllegalStateException(e);
            }
        }
    }

    private record F(int sort, int v, F one, F two) { }

    private static final class S {
        ArrayList<P> places = new ArrayList<>();
        ArrayList<F> filters = new ArrayList<>();
        int merges, splits;

        S copy() {
            S s = new S();
            s.places.addAll(places);
            s.filters.addAll(filters);
            s.merges = merges;
            s.splits = splits;
            return s;
        }

        P own(int p) {
            places.set(p, places.get(p).copy());
            return places.get(p);
        }
    }

    private S now = new S();
    private final ArrayList<S> before = new ArrayList<>();
    private S snapshot;
    private String tape = "";
    private String paper = "";
    private int reason = -5;
    private List<Integer> hits = new ArrayList<>();

    // ---- the model's calls ----

    private int feed(int n, int[] b) {
        if (n < 1 || n > 5) return -2;
        for (int x : b) if (x < 0 || x > 127) return -2;
        if (tape.length() + n > 80) return -4;
        for (int i = 0; i < n; i++) tape += (char) b[i];
        return tape.length();
    }

    private String word() {
        String t = tape;
        tape = "";
        return t.matches("[a-z]{1,8}") ? t : null;
    }

    private boolean is(int p) {
        return p >= 0 && p < now.places.size();
    }

    private boolean stands(int p, int day) {
        return now.places.get(p).exists(day) && now.places.get(p).ended < 0;
    }

    private int why(char c, int a, int b, int day, String word) {
        if ("frs".indexOf(c) >= 0 && word == null) return 9;
        if (c == 'f') {
            if (a > 0 && !is(b)) return 1;
            if (day < 0 || day >= DAYS) return 2;
            if (a > 0 && now.places.get(b).kind >= a) return 4;
            if (a > 0 && !stands(b, day)) return 5;
            return now.places.size() == 20 ? 6 : 0;
        }
        if (!is(a) || (c == 'm' || c == 'g') && !is(b)) return 1;
        if (c == 'g' && a == b) return 8;
        P p = now.places.get(a);
        if (p.ended >= 0) return 3;
        if (day >= DAYS || day < p.latest) return 2;
        if (c == 'm') {
            if (now.places.get(b).kind >= p.kind) return 4;
            return stands(b, day) ? 0 : 5;
        }
        if (c == 'g') {
            if (now.places.get(b).kind != p.kind) return 4;
            return stands(b, day) ? 0 : 5;
        }
        if (c == 's') {
            if (p.kind > 0 && !stands(p.parent[day], day)) return 5;
            return now.places.size() == 20 ? 6 : 0;
        }
        if (c == 'c') {
            for (P q : now.places) {
                for (int d = day; d < DAYS; d++) {
                    if (q.exists(d) && q.parent[d] == a) return 7;
                }
            }
        }
        return 0;
    }

    private P settle(int kind, int parent, int day, String word) {
        P p = new P();
        p.kind = kind;
        p.founded = day;
        p.latest = day;
        p.given = kind == 0 ? 0 : 1;
        Arrays.fill(p.parent, -5);
        Arrays.fill(p.parent, day, DAYS, kind == 0 ? -5 : parent);
        Arrays.fill(p.name, day, DAYS, word);
        p.nameDays.add(day);
        p.names.add(word);
        p.tell(day, 0, kind == 0 ? -5 : parent);
        now.places.add(p);
        return p;
    }

    private int does(char c, int a, int b, int day, String word) {
        int fresh = now.places.size();
        if (c == 'f') {
            settle(a, b, day, word);
            return fresh;
        }
        P p = now.own(a);
        p.latest = day;
        switch (c) {
            case 'r': {
                int length = p.name[day].length();
                Arrays.fill(p.name, day, DAYS, word);
                p.nameDays.add(day);
                p.names.add(word);
                p.tell(day, 1, word.length());
                return length;
            }
            case 'm': {
                int parent = p.parent[day];
                Arrays.fill(p.parent, day, DAYS, b);
                p.given++;
                p.tell(day, 2, b);
                return parent;
            }
            case 's': {
                settle(p.kind, p.parent[day], day, word).tell(day, 5, a);
                p.tell(day, 7, fresh);
                now.splits++;
                return fresh;
            }
            case 'g': {
                now.own(b).tell(day, 6, a);
                p.tell(day, 3, b);
                int n = 0;
                for (int q = 0; q < fresh; q++) {
                    int first = -1;
                    P child = now.places.get(q);
                    for (int d = day; d < DAYS; d++) {
                        if (child.exists(d) && child.parent[d] == a) {
                            if (first < 0) {
                                first = d;
                                child = now.own(q);
                                child.tell(d, 8, b);
                                n++;
                            }
                            child.parent[d] = b;
                        }
                    }
                }
                p = now.places.get(a);
                p.ended = day;
                p.into = b;
                now.merges++;
                return n;
            }
            default:
                p.tell(day, 4, -5);
                p.ended = day;
                return day - p.founded;
        }
    }

    private void keep(S old) {
        before.add(old);
        if (before.size() > 6) before.remove(0);
    }

    private int change(char c, int a, int b, int day, String word) {
        int w = why(c, a, b, day, word);
        if (w != 0) {
            reason = w;
            return -3;
        }
        S old = now;
        now = old.copy();
        keep(old);
        return does(c, a, b, day, word);
    }

    private int run() {
        String t = tape;
        tape = "";
        for (int i = 1; i <= t.length(); i++) {
            Matcher m = TEXT.matcher(t.substring(0, i));
            if (!m.matches() && !m.hitEnd()) return -100 - (i - 1);
        }
        if (!TEXT.matcher(t).matches()) return -100 - t.length();
        String[] commands = t.split(";");
        S old = now;
        now = old.copy();
        for (int i = 0; i < commands.length; i++) {
            char c = commands[i].charAt(0);
            String[] parts = commands[i].substring(1).split("[>@:]");
            int a = Integer.parseInt(parts[0]);
            boolean two = "fmg".indexOf(c) >= 0;
            int b = two ? Integer.parseInt(parts[1]) : 0;
            int day = Integer.parseInt(parts[two ? 2 : 1]);
            String word = "frs".indexOf(c) >= 0 ? parts[parts.length - 1] : null;
            int w = why(c, a, b, day, word);
            if (w != 0) {
                now = old;
                reason = w;
                return -200 - i;
            }
            does(c, a, b, day, word);
        }
        keep(old);
        return commands.length;
    }

    private int heir(int p, int day) {
        P it = now.places.get(p);
        if (it.exists(day) || day < it.founded) return p;
        return it.into < 0 ? -5 : heir(it.into, day);
    }

    private int on(int p, int day, int what) {
        if (!is(p) || what < 0 || what >= 7 && what <= 9) return -1;
        if (day < 0 || day >= DAYS) return -2;
        P it = now.places.get(p);
        if (what == 0) return it.exists(day) ? 1 : 0;
        if (what == 1) return it.kind;
        if (what == 6) return heir(p, day);
        if (!it.exists(day)) return -5;
        if (what == 2) return it.parent[day];
        if (what == 3) return it.name[day].length();
        if (what == 4) return it.kind == 0 ? 0 : 1 + on(it.parent[day], day, 4);
        if (what == 5) return children(p, day);
        return what - 10 < it.name[day].length() ? it.name[day].charAt(what - 10) : -5;
    }

    private int children(int p, int day) {
        int n = 0;
        for (P q : now.places) if (q.exists(day) && q.parent[day] == p) n++;
        return n;
    }

    private int of(int p, int what) {
        if (!is(p) || what < 0 || what > 5) return -1;
        P it = now.places.get(p);
        int[] all = {it.founded, it.ended < 0 ? -5 : it.ended, it.names.size(), it.given, it.latest, it.told};
        return all[what];
    }

    private int event(int p, int i, int what) {
        if (!is(p) || what < 0 || what > 2 || i < 0 || i >= now.places.get(p).events.size()) return -1;
        return now.places.get(p).events.get(i)[what];
    }

    private int again(int p, int day) {
        if (!is(p)) return -1;
        if (day < 0 || day >= DAYS) return -2;
        if (now.places.get(p).told > 24) return -3;
        return on(p, day, 2);
    }

    private static int apart(String a, String b) {
        if (a.isEmpty() || b.isEmpty()) return a.length() + b.length();
        String x = a.substring(1);
        String y = b.substring(1);
        if (a.charAt(0) == b.charAt(0)) return apart(x, y);
        if (Math.abs(a.length() - b.length()) > 3) return 9;
        return 1 + Math.min(apart(x, y), Math.min(apart(a, y), apart(x, b)));
    }

    private int lookup(int day, int distance) {
        String w = word();
        if (day < 0 || day >= DAYS || distance < 0 || distance > 3) return -2;
        if (w == null) {
            reason = 9;
            return -3;
        }
        hits = new ArrayList<>();
        for (int d = 0; d <= distance; d++) {
            for (int p = 0; p < now.places.size(); p++) {
                P it = now.places.get(p);
                if (it.exists(day) && apart(w, it.name[day]) == d) hits.add(p);
            }
        }
        return hits.size();
    }

    private int sought(int i) {
        return i < 0 ? -1 : i < hits.size() ? hits.get(i) : -5;
    }

    private int filter(int sort, int v) {
        if (sort < 0 || sort > 4) return -1;
        if (v < 0 || v > 9999) return -2;
        if (now.filters.size() == 8) return -4;
        return made(new F(sort, v, null, null));
    }

    private int made(F f) {
        S old = now;
        now = old.copy();
        keep(old);
        now.filters.add(f);
        return now.filters.size() - 1;
    }

    private boolean isFilter(int f) {
        return f >= 0 && f < now.filters.size();
    }

    private int join(int how, int a, int b) {
        if (how < 0 || how > 2 || !isFilter(a) || how < 2 && !isFilter(b)) return -1;
        if (now.filters.size() == 8) return -4;
        return made(new F(5 + how, 0, now.filters.get(a), how == 2 ? null : now.filters.get(b)));
    }

    private int drop(int f) {
        if (!isFilter(f)) return -1;
        S old = now;
        now = old.copy();
        keep(old);
        now.filters.remove(f);
        return now.filters.size();
    }

    private boolean fitting(F f, int p, int day) {
        P it = now.places.get(p);
        switch (f.sort) {
            case 0: return it.kind == f.v;
            case 1: return it.parent[day] == f.v;
            case 2: return it.name[day].length() >= f.v;
            case 3: return it.founded >= f.v;
            case 4: return it.kind > 0 && (it.parent[day] == f.v || fitting(f, it.parent[day], day));
            case 5: return fitting(f.one, p, day) && fitting(f.two, p, day);
            case 6: return fitting(f.one, p, day) || fitting(f.two, p, day);
            default: return !fitting(f.one, p, day);
        }
    }

    private int fits(int f, int day) {
        if (!isFilter(f)) return -1;
        if (day < 0 || day >= DAYS) return -2;
        int set = 0;
        for (int p = 0; p < now.places.size(); p++) {
            if (now.places.get(p).exists(day) && fitting(now.filters.get(f), p, day)) set += 1 << p;
        }
        return set;
    }

    private int write(int p) {
        if (!is(p)) return -1;
        ArrayList<String> parts = new ArrayList<>();
        for (int[] e : now.places.get(p).events) {
            parts.add("FNMGCOTSP".charAt(e[1]) + "" + e[0] + (e[2] == -5 ? "" : ":" + e[2]));
        }
        paper = String.join(" ", parts);
        return paper.length();
    }

    private int paper(int i) {
        return i < 0 ? -1 : i < paper.length() ? paper.charAt(i) : -5;
    }

    private int changed(int d, int e) {
        if (d < 0 || d >= DAYS || e < 0 || e >= DAYS) return -2;
        int set = 0;
        for (int p = 0; p < now.places.size(); p++) {
            P it = now.places.get(p);
            if (it.exists(d) && it.exists(e) && (it.parent[d] != it.parent[e] || !it.name[d].equals(it.name[e]))) {
                set += 1 << p;
            }
        }
        return set;
    }

    private int longest(int p, int what) {
        if (!is(p) || what < 0 || what > 2) return -1;
        P it = now.places.get(p);
        int best = -1;
        int most = -1;
        for (int i = 0; i < it.names.size(); i++) {
            int end = i + 1 < it.names.size() ? it.nameDays.get(i + 1) : it.ended < 0 ? DAYS : it.ended;
            if (end - it.nameDays.get(i) > most) {
                most = end - it.nameDays.get(i);
                best = i;
            }
        }
        return what == 0 ? it.nameDays.get(best) : what == 1 ? most : it.names.get(best).length();
    }

    private int account(int day, int what) {
        if (what < 0 || what > 8) return -1;
        if (day < 0 || day >= DAYS) return -2;
        int[] all = new int[9];
        HashSet<String> names = new HashSet<>();
        for (int p = 0; p < now.places.size(); p++) {
            P it = now.places.get(p);
            if (it.exists(day)) {
                all[it.kind]++;
                all[4]++;
                names.add(it.name[day]);
                all[8] = Math.max(all[8], children(p, day));
            } else if (day < it.founded) {
                all[5]++;
            } else {
                all[6]++;
            }
        }
        all[7] = names.size();
        return all[what];
    }

    private int back() {
        if (before.isEmpty()) return -3;
        now = before.remove(before.size() - 1);
        return before.size();
    }

    private int image() {
        snapshot = now;
        return now.places.size();
    }

    private int undo() {
        if (snapshot == null) return -3;
        now = snapshot;
        before.clear();
        return now.places.size();
    }

    private int count(int what) {
        int[] all = {now.places.size(), now.filters.size(), tape.length(), before.size(), now.merges, now.splits};
        return what < 0 || what > 5 ? -1 : all[what];
    }

    // ---- the runs ----

    // No object is asked for more than this; what it answers later is free.
    private static final int CALLS = 512;
    // The rest of the calls is left for asking what is held.
    private static final int TOLD = 400;

    private final Random random;
    private final PlaceRegister x = new PlaceRegister();
    private final ArrayList<ToIntFunction<PlaceRegister>> told = new ArrayList<>();
    private final ArrayList<String> calls = new ArrayList<>();
    private boolean wrong = false;
    private final int span;
    // Whether many events come to one place, so that its history grows long.
    private final boolean busy;
    // Another object that was told the same, to be asked without end: it is made anew when its calls are used up.
    private PlaceRegister twin;
    private int twinCalls;

    private ModelTest(long seed) {
        random = new Random(seed);
        busy = seed % 3 == 0;
        span = new int[] {6, 30, 200, DAYS}[(int) (seed & 3)];
    }

    private void same(String call, ToIntFunction<PlaceRegister> told, int due) {
        this.told.add(told);
        calls.add(call + " = " + due);
        compare(told.applyAsInt(x), due);
    }

    private void compare(int got, int due) {
        if (got != due && !wrong) {
            wrong = true;
            System.out.println(String.join("\n", calls));
            System.out.println("answered " + got);
        }
    }

    private void ask(String call, ToIntFunction<PlaceRegister> question, int due) {
        // A question is at most two calls.
        if (twinCalls + 2 > CALLS) {
            twin = new PlaceRegister();
            for (ToIntFunction<PlaceRegister> each : told) {
                each.applyAsInt(twin);
            }
            twinCalls = told.size();
        }
        twinCalls += 2;
        calls.add(call + " = " + due);
        compare(question.applyAsInt(twin), due);
        calls.remove(calls.size() - 1);
    }

    private int below(int n) {
        return random.nextInt(n);
    }

    private int aPlace() {
        int n = now.places.size();
        if (busy && n > 4 && below(2) == 0) return 4;
        return below(25) == 0 ? below(30) - 5 : n == 0 ? 0 : below(n);
    }

    private int aDay() {
        switch (below(30)) {
            case 0: return -1;
            case 1: return DAYS;
            case 2: return DAYS - 1;
            case 3: return below(DAYS);
            default: return below(span);
        }
    }

    /** A day on which the place is likely to have an event. */
    private int aDayFor(int p) {
        if (!is(p) || below(5) == 0) return aDay();
        return Math.min(DAYS, now.places.get(p).latest + below(1 + below(1 + (busy ? span / 30 : span / 4))) - (below(15) == 0 ? 1 : 0));
    }

    private String aWord() {
        int n = below(12) == 0 ? below(10) : 1 + below(4);
        StringBuilder w = new StringBuilder();
        for (int i = 0; i < n; i++) w.append((char) ('a' + below(3)));
        if (below(40) == 0) w.append((char) below(128));
        return w.toString();
    }

    private void feedText(String text) {
        for (int i = 0; i < text.length(); i += 5) {
            int n = Math.min(5, text.length() - i);
            int[] b = new int[5];
            for (int k = 0; k < n; k++) b[k] = text.charAt(i + k);
            same("feed(" + text.substring(i, i + n) + ")", r -> r.feed(n, b[0], b[1], b[2], b[3], b[4]), feed(n, b));
        }
    }

    private int aParentFor(int kind) {
        for (int i = 0; i < 8; i++) {
            int p = aPlace();
            if (is(p) && now.places.get(p).kind < kind && now.places.get(p).ended < 0) return p;
        }
        return aPlace();
    }

    private int aSister(int p) {
        for (int i = 0; i < 8; i++) {
            int q = aPlace();
            if (is(p) && is(q) && p != q && now.places.get(q).kind == now.places.get(p).kind && now.places.get(q).ended < 0) {
                return q;
            }
        }
        return aPlace();
    }

    private String aCommand() {
        int p = Math.max(0, aPlace());
        int day = Math.max(0, aDayFor(p));
        String w = aWord();
        switch (below(6)) {
            case 0: {
                int kind = below(4);
                return "f" + kind + ">" + Math.max(0, aParentFor(kind)) + "@" + day + ":" + w;
            }
            case 1: return "r" + p + "@" + day + ":" + w;
            case 2: return "m" + p + ">" + Math.max(0, aParentFor(is(p) ? now.places.get(p).kind : 3)) + "@" + day;
            case 3: return "s" + p + "@" + day + ":" + w;
            case 4: return "g" + p + ">" + Math.max(0, aSister(p)) + "@" + day;
            default: return "c" + p + "@" + day;
        }
    }

    private String aText() {
        int n = 1 + below(4);
        StringBuilder t = new StringBuilder();
        for (int i = 0; i < n; i++) t.append(i == 0 ? "" : ";").append(aCommand());
        if (below(6) == 0) t.setLength(below(t.length() + 1));
        if (below(8) == 0 && t.length() > 0) t.setCharAt(below(t.length()), ";>@:af019 `{"  .charAt(below(12)));
        if (t.length() > 80) t.setLength(80);
        return t.toString();
    }

    private void event() {
        int p = aPlace();
        int day = aDayFor(p);
        int kind = is(p) ? now.places.get(p).kind : 2;
        switch (busy && below(2) == 0 ? 7 : below(22)) {
            case 0: case 1: case 2: case 3: case 4: {
                int k = below(20) == 0 ? below(7) - 1 : now.places.size() < 2 ? 0 : below(4);
                int parent = aParentFor(k);
                int d = below(3) == 0 || !is(parent) ? aDay() : aDayFor(parent);
                feedText(aWord());
                String w = word();
                same("found(" + k + "," + parent + "," + d + ")", r -> r.found(k, parent, d),
                    k < 0 || k > 3 ? -1 : change('f', k, parent, d, w));
                break;
            }
            case 5: case 6: {
                feedText(aWord());
                same("rename(" + p + "," + day + ")", r -> r.rename(p, day), change('r', p, 0, day, word()));
                break;
            }
            case 7: case 8: case 9: case 10: case 11: {
                int parent = aParentFor(kind);
                same("move(" + p + "," + parent + "," + day + ")", r -> r.move(p, parent, day), change('m', p, parent, day, null));
                break;
            }
            case 12: case 13: {
                feedText(aWord());
                same("split(" + p + "," + day + ")", r -> r.split(p, day), change('s', p, 0, day, word()));
                break;
            }
            case 14: case 15: case 16: {
                if (busy && below(3) > 0) break;
                int into = aSister(p);
                same("merge(" + p + "," + into + "," + day + ")", r -> r.merge(p, into, day), change('g', p, into, day, null));
                break;
            }
            case 17:
                if (busy && below(4) > 0) break;
                same("close(" + p + "," + day + ")", r -> r.close(p, day), change('c', p, 0, day, null));
                break;
            case 18: case 19: case 20:
                feedText(aText());
                same("run()", r -> r.run(), run());
                break;
            default:
                if (below(3) == 0) same("image()", r -> r.image(), image());
                else if (below(busy ? 12 : 4) == 0) same("undo()", r -> r.undo(), undo());
                else same("back()", r -> r.back(), back());
        }
    }

    private void filtering() {
        int v = below(3) == 0 ? below(DAYS + 2) - 1 : below(25);
        int f = below(10) - 1;
        switch (below(4)) {
            case 0: {
                int sort = below(12) == 0 ? below(9) - 2 : below(5);
                same("filter(" + sort + "," + v + ")", r -> r.filter(sort, v), filter(sort, v));
                break;
            }
            case 1: case 2: {
                int how = below(12) == 0 ? below(9) - 2 : below(3);
                int g = below(10) - 1;
                same("join(" + how + "," + f + "," + g + ")", r -> r.join(how, f, g), join(how, f, g));
                break;
            }
            default:
                same("drop(" + f + ")", r -> r.drop(f), drop(f));
        }
    }

    private void question() {
        int p = aPlace();
        int day = aDay();
        int what = below(12) - 1;
        switch (below(14)) {
            case 0: {
                int w = below(22) - 1;
                same("on(" + p + "," + day + "," + w + ")", r -> r.on(p, day, w), on(p, day, w));
                break;
            }
            case 1: same("of(" + p + "," + what + ")", r -> r.of(p, what), of(p, what)); break;
            case 2: {
                int i = below(27) - 1;
                int w = below(5) - 1;
                same("event(" + p + "," + i + "," + w + ")", r -> r.event(p, i, w), event(p, i, w));
                break;
            }
            case 3: same("again(" + p + "," + day + ")", r -> r.again(p, day), again(p, day)); break;
            case 4: {
                int distance = below(12) == 0 ? below(8) - 2 : below(4);
                feedText(aWord());
                same("lookup(" + day + "," + distance + ")", r -> r.lookup(day, distance), lookup(day, distance));
                break;
            }
            case 5: same("sought(" + what + ")", r -> r.sought(what), sought(what)); break;
            case 6: same("fits(" + what + "," + day + ")", r -> r.fits(what, day), fits(what, day)); break;
            case 7: same("write(" + p + ")", r -> r.write(p), write(p)); break;
            case 8: {
                int i = below(80) - 1;
                same("paper(" + i + ")", r -> r.paper(i), paper(i));
                break;
            }
            case 9: {
                int other = aDay();
                same("changed(" + day + "," + other + ")", r -> r.changed(day, other), changed(day, other));
                break;
            }
            case 10: same("longest(" + p + "," + what + ")", r -> r.longest(p, what), longest(p, what)); break;
            case 11: same("account(" + day + "," + what + ")", r -> r.account(day, what), account(day, what)); break;
            case 12: same("reason()", r -> r.reason(), reason); break;
            default: same("count(" + what + ")", r -> r.count(what), count(what));
        }
    }

    /** Asks for all that is held. */
    private void everything() {
        twinCalls = CALLS;
        for (int i = -1; i < 21; i++) {
            int w = i;
            ask("count(" + w + ")", r -> r.count(w), count(w));
            ask("sought(" + w + ")", r -> r.sought(w), sought(w));
            ask("paper(" + w + ")", r -> r.paper(w), paper(w));
        }
        ask("reason()", PlaceRegister::reason, reason);
        for (int p = 0; p < now.places.size(); p++) {
            everythingOf(p);
        }
        for (int i = 0; i < 30; i++) {
            everythingOn(i < 8 ? i : aDay(), aDay());
        }
    }

    private void everythingOf(int p) {
        for (int i = 0; i < 6; i++) {
            int w = i;
            ask("of(" + p + "," + w + ")", r -> r.of(p, w), of(p, w));
            ask("longest(" + p + "," + w + ")", r -> r.longest(p, w), longest(p, w));
        }
        for (int i = 0; i < 25; i++) {
            for (int w = 0; w < 3; w++) {
                int what = w;
                int e = i;
                ask("event(" + p + "," + e + "," + what + ")", r -> r.event(p, e, what), event(p, e, what));
            }
        }
        String before = paper;
        ask("write(" + p + ")", r -> r.write(p), write(p));
        for (int i = 0; i <= paper.length(); i++) {
            int at = i;
            ask("write(" + p + "), paper(" + at + ")", r -> r.write(p) < 0 ? -9 : r.paper(at), paper(at));
        }
        paper = before;
    }

    private void everythingOn(int day, int other) {
        for (int i = 0; i < now.places.size(); i++) {
            int p = i;
            ask("again(" + p + "," + day + ")", r -> r.again(p, day), again(p, day));
            for (int w = 0; w < 19; w++) {
                int what = w;
                ask("on(" + p + "," + day + "," + what + ")", r -> r.on(p, day, what), on(p, day, what));
            }
        }
        for (int i = 0; i < 9; i++) {
            int w = i;
            ask("account(" + day + "," + w + ")", r -> r.account(day, w), account(day, w));
            ask("fits(" + w + "," + day + ")", r -> r.fits(w, day), fits(w, day));
        }
        ask("changed(" + day + "," + other + ")", r -> r.changed(day, other), changed(day, other));
    }

    private void live() {
        while (told.size() < TOLD && !wrong) {
            int sort = below(10);
            if (sort < 7) event();
            else if (sort < 8) filtering();
            else question();
            if (below(60) == 0) everything();
        }
        everything();
    }

    public static void main(String[] args) {
        int runs = args.length > 0 ? Integer.parseInt(args[0]) : 300;
        int[] seen = new int[10];
        for (int seed = 0; seed < runs; seed++) {
            ModelTest t = new ModelTest(seed);
            t.live();
            if (t.wrong) {
                System.out.println("the run of seed " + seed + " went wrong");
                System.exit(1);
            }
            for (P p : t.now.places) {
                for (int[] e : p.events) seen[e[1]]++;
                if (p.told > 24) seen[9]++;
            }
        }
        for (int sort = 0; sort < seen.length; sort++) {
            if (seen[sort] == 0) {
                System.out.println("the runs never came to sort " + sort);
                System.exit(1);
            }
        }
        System.out.println("all answers are as due; events by sort, and long histories: " + Arrays.toString(seen));
    }
}
