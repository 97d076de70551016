import java.math.BigInteger;
import java.util.ArrayList;
import java.util.Collections;
import java.util.HashSet;
import java.util.LinkedHashMap;
import java.util.List;
import java.util.Map;
import java.util.Set;
import java.util.TreeMap;
import java.util.function.ToIntFunction;
import java.util.regex.Matcher;
import java.util.regex.Pattern;

/**
 * The document told a second time, by other means than the class: objects that know one another,
 * recursion, sums over all that can happen. It is what RandomRunsTest holds the class against.
 */
final class Model {
    static final int BAD = -2, NO = -3, FULL = -4;

    interface Passing {
        int on(int t, int u);
    }

    interface Pulling {
        int by(int p, int f, int d);
    }

    static final Passing PLAIN = (t, u) -> t - 1;
    static final Passing RUSTY = (t, u) -> Math.max(0, PLAIN.on(t, u) - (u > 4 ? 4 : u));
    static final Passing BRIGHT = (t, u) -> PLAIN.on(t, u) + 1;
    static final Passing BENT = (t, u) -> (int) Math.floor(RUSTY.on(t, u) / 2.0);
    static final Passing COPPER = (t, u) -> t < 5 ? 0 : PLAIN.on(t, u);
    static final Passing MINISTER = (t, u) -> Math.min(20, BRIGHT.on(t, u) + BRIGHT.on(t, u));
    static final List<Passing> CLERK_KINDS = List.of(PLAIN, RUSTY, BRIGHT, BENT, COPPER, MINISTER);

    static final Pulling MAGNET = (p, f, d) -> Math.max(0, p + p - f);
    static final Pulling HORSESHOE = (p, f, d) -> f > 2 ? MAGNET.by(p, f, d) : 2 * MAGNET.by(p, f, d);
    static final Pulling KEEPER = (p, f, d) -> (int) Math.ceil(MAGNET.by(p, f, d) / 2.0);
    static final Pulling COLD = (p, f, d) -> (d & 1) == 1 ? 0 : KEEPER.by(p, f, d);
    static final Pulling TURNED = (p, f, d) -> 0 - MAGNET.by(p, f, d);
    static final Pulling GREAT = (p, f, d) -> HORSESHOE.by(p, f, d) + (HORSESHOE.by(p, f, d) > 0 ? 3 : 0);
    static final List<Pulling> MAGNET_KINDS = List.of(MAGNET, HORSESHOE, KEEPER, COLD, TURNED, GREAT);

    static final class Clerk {
        int kind, desk, weight, rust, on = -1;

        Clerk(int kind, int desk, int weight) {
            this.kind = kind;
            this.desk = desk;
            this.weight = weight;
        }

        Clerk copy() {
            Clerk c = new Clerk(kind, desk, weight);
            c.rust = rust;
            c.on = on;
            return c;
        }
    }

    /** CLERKS and the DAY: what UNDO brings back. */
    static final class Scene {
        List<Clerk> clerks = new ArrayList<>();
        int day;

        Scene copy() {
            Scene s = new Scene();
            for (Clerk c : clerks) {
                s.clerks.add(c.copy());
            }
            s.day = day;
            return s;
        }

        List<Integer> neighbours(int c) {
            List<Integer> all = new ArrayList<>();
            for (int other = 0; other < clerks.size(); other++) {
                if (clerks.get(other).on == c || clerks.get(c).on == other) {
                    all.add(other);
                }
            }
            return all;
        }

        void flood(int c, Set<Integer> seen) {
            if (seen.add(c)) {
                for (int n : neighbours(c)) {
                    flood(n, seen);
                }
            }
        }

        Set<Integer> stringOf(int c) {
            Set<Integer> seen = new HashSet<>();
            flood(c, seen);
            return seen;
        }

        Set<Set<Integer>> allStrings() {
            Set<Set<Integer>> all = new HashSet<>();
            for (int c = 0; c < clerks.size(); c++) {
                all.add(stringOf(c));
            }
            return all;
        }

        int weight(Set<Integer> string) {
            int w = 0;
            for (int c : string) {
                w += clerks.get(c).weight;
            }
            return w;
        }

        Map<Integer, Integer> tug(int i, int t) {
            Map<Integer, Integer> feels = new TreeMap<>();
            give(i, t, -1, feels);
            return feels;
        }

        private void give(int c, int t, int giver, Map<Integer, Integer> feels) {
            if (t <= 0) {
                return;
            }
            feels.put(c, t);
            int goes = CLERK_KINDS.get(clerks.get(c).kind).on(t, clerks.get(c).rust);
            for (int n : neighbours(c)) {
                if (n != giver) {
                    give(n, goes, c, feels);
                }
            }
        }

        int longestFrom(int c, int giver) {
            int most = 0;
            for (int n : neighbours(c)) {
                if (n != giver) {
                    most = Math.max(most, longestFrom(n, c));
                }
            }
            return most + 1;
        }

        boolean cycleBy(int i, int j) {
            Set<Integer> below = new HashSet<>(List.of(i));
            for (int again = 0; again < 7; again++) {
                for (int c = 0; c < clerks.size(); c++) {
                    if (below.contains(clerks.get(c).on)) {
                        below.add(c);
                    }
                }
            }
            return below.contains(j);
        }

        int on(int j) {
            int n = 0;
            for (Clerk c : clerks) {
                n += c.on == j ? 1 : 0;
            }
            return n;
        }

        int drawn(Set<Integer> string, List<int[]> magnets) {
            int all = 0;
            for (int c : string) {
                for (int[] m : magnets) {
                    int far = Math.abs(m[1] - clerks.get(c).desk);
                    int pull = MAGNET_KINDS.get(m[0]).by(m[2], far, day);
                    if (m[1] > clerks.get(c).desk) {
                        all += pull;
                    } else if (m[1] < clerks.get(c).desk) {
                        all -= pull;
                    }
                }
            }
            return all;
        }

        int passOne(List<int[]> magnets) {
            Map<Set<Integer>, Integer> ways = new LinkedHashMap<>();
            for (Set<Integer> string : allStrings()) {
                int drawn = drawn(string, magnets);
                int way = drawn >= weight(string) ? 1 : -drawn >= weight(string) ? -1 : 0;
                for (int c : string) {
                    int desk = clerks.get(c).desk;
                    if (way == 1 && desk == 11 || way == -1 && desk == 0) {
                        way = 0;
                    }
                }
                ways.put(string, way);
            }
            int went = 0;
            for (Map.Entry<Set<Integer>, Integer> e : ways.entrySet()) {
                went += e.getValue() == 0 ? 0 : 1;
                for (int c : e.getKey()) {
                    Clerk one = clerks.get(c);
                    one.desk += e.getValue();
                    one.rust = e.getValue() == 0 ? Math.min(99, one.rust + 1) : 0;
                }
            }
            day++;
            return went;
        }
    }

    /** What an IMAGE keeps. */
    static final class Whole {
        Scene scene = new Scene();
        List<int[]> magnets = new ArrayList<>();
        List<int[]> told = new ArrayList<>(), notes = new ArrayList<>(), marks = new ArrayList<>();
        List<Scene> past = new ArrayList<>();

        Whole copy() {
            Whole w = new Whole();
            w.scene = scene.copy();
            w.magnets = new ArrayList<>(magnets);
            w.told = new ArrayList<>(told);
            w.notes = new ArrayList<>(notes);
            w.marks = new ArrayList<>(marks);
            for (Scene s : past) {
                w.past.add(s.copy());
            }
            return w;
        }

        void keepPast() {
            past.add(scene.copy());
            if (past.size() == 9) {
                past.remove(0);
            }
        }

        int pass(int n) {
            int went = 0;
            for (int k = 0; k < n; k++) {
                if (scene.day < 999) {
                    went = scene.passOne(magnets);
                }
            }
            return went;
        }
    }

    Whole now = new Whole();
    Whole[] images = new Whole[2];
    StringBuilder text = new StringBuilder();
    BigInteger above = BigInteger.ZERO, below = BigInteger.ONE;
    int[] refused = new int[3];

    int refuse(int reason) {
        refused[-2 - reason]++;
        return reason;
    }

    int size() {
        return now.scene.clerks.size();
    }

    Clerk at(int c) {
        return now.scene.clerks.get(c);
    }

    boolean noClerk(int c) {
        return c < 0 || c >= size();
    }

    boolean noMagnet(int m) {
        return m < 0 || m >= now.magnets.size();
    }

    static boolean out(int x, int least, int most) {
        return x < least || x > most;
    }

    static int bits(Iterable<Integer> all) {
        int b = 0;
        for (int c : all) {
            b += 1 << c;
        }
        return b;
    }

    int office() {
        int n = size();
        now = new Whole();
        return n;
    }

    int clerk(int kind, int desk, int weight) {
        if (out(kind, 0, 5) || out(desk, 0, 11) || out(weight, 1, 9)) {
            return refuse(BAD);
        }
        if (size() == 7) {
            return refuse(FULL);
        }
        now.past.clear();
        now.scene.clerks.add(new Clerk(kind, desk, weight));
        return size() - 1;
    }

    int magnet(int kind, int desk, int power) {
        if (out(kind, 0, 5) || out(desk, 0, 11) || out(power, 1, 9)) {
            return refuse(BAD);
        }
        if (now.magnets.size() == 3) {
            return refuse(FULL);
        }
        now.past.clear();
        now.magnets.add(new int[] {kind, desk, power});
        return now.magnets.size() - 1;
    }

    int type(int c) {
        if (out(c, 0, 127)) {
            return refuse(BAD);
        }
        if (text.length() == 150) {
            return refuse(FULL);
        }
        text.append((char) c);
        return text.length();
    }

    int clear() {
        int n = text.length();
        text.setLength(0);
        return n;
    }

    int read() {
        List<String> tokens = new ArrayList<>();
        List<Integer> places = new ArrayList<>();
        Matcher m = Pattern.compile("[a-z]+|[0-9]+|[^ ]", Pattern.DOTALL).matcher(text);
        while (m.find()) {
            tokens.add(m.group());
            places.add(m.start());
        }
        places.add(text.length());
        Whole made = new Whole();
        int k = 0;
        int items = 0;
        while (k < tokens.size() || items == 0) {
            List<ToIntFunction<Integer>> wants = wantsBy(k < tokens.size() ? tokens.get(k) : "", items, made);
            if (wants == null) {
                return -10 - places.get(k);
            }
            k++;
            List<Integer> numbers = new ArrayList<>();
            for (ToIntFunction<Integer> want : wants) {
                if (k == tokens.size() || !tokens.get(k).matches("[0-9][0-9]?")) {
                    return -10 - places.get(k);
                }
                int number = Integer.parseInt(tokens.get(k));
                numbers.add(number);
                lastFirst = numbers.get(0);
                if (want.applyAsInt(number) == 0) {
                    return -10 - places.get(k);
                }
                k++;
            }
            if (k == tokens.size() || !tokens.get(k).equals(";")) {
                return -10 - places.get(k);
            }
            apply(tokens.get(k - 1 - numbers.size()), numbers, made);
            k++;
            items++;
        }
        now = made;
        return items;
    }

    private int lastFirst;

    private List<ToIntFunction<Integer>> wantsBy(String word, int items, Whole made) {
        if (word.equals("office") != (items == 0)) {
            return null;
        }
        ToIntFunction<Integer> kind = n -> n < 6 ? 1 : 0;
        ToIntFunction<Integer> desk = n -> n < 12 ? 1 : 0;
        ToIntFunction<Integer> heavy = n -> n > 0 && n < 10 ? 1 : 0;
        ToIntFunction<Integer> days = n -> n > 0 ? 1 : 0;
        int there = made.scene.clerks.size();
        ToIntFunction<Integer> i = n -> n < there && made.scene.clerks.get(n).on == -1 ? 1 : 0;
        ToIntFunction<Integer> j = n -> n < there && !made.scene.cycleBy(lastFirst, n) && made.scene.on(n) < 2 ? 1 : 0;
        switch (word) {
            case "office":
                return List.of();
            case "clerk":
                return there == 7 ? null : List.of(kind, desk, heavy);
            case "magnet":
                return made.magnets.size() == 3 ? null : List.of(kind, desk, heavy);
            case "hook":
                return List.of(i, j);
            case "days":
                return List.of(days);
            default:
                return null;
        }
    }

    private static void apply(String word, List<Integer> n, Whole made) {
        switch (word) {
            case "clerk":
                made.scene.clerks.add(new Clerk(n.get(0), n.get(1), n.get(2)));
                break;
            case "magnet":
                made.magnets.add(new int[] {n.get(0), n.get(1), n.get(2)});
                break;
            case "hook":
                made.scene.clerks.get(n.get(0)).on = n.get(1);
                break;
            case "days":
                made.pass(n.get(0));
                break;
            default:
        }
    }

    int hook(int i, int j) {
        if (noClerk(i) || noClerk(j) || i == j) {
            return refuse(BAD);
        }
        if (at(i).on >= 0 || now.scene.cycleBy(i, j)) {
            return refuse(NO);
        }
        if (now.scene.on(j) == 2) {
            return refuse(FULL);
        }
        now.keepPast();
        at(i).on = j;
        return now.scene.stringOf(j).size();
    }

    int unbend(int i) {
        if (noClerk(i)) {
            return refuse(BAD);
        }
        if (at(i).on < 0) {
            return refuse(NO);
        }
        now.keepPast();
        int was = at(i).on;
        at(i).on = -1;
        return was;
    }

    int day(int n) {
        if (out(n, 1, 60)) {
            return refuse(BAD);
        }
        now.keepPast();
        return now.pass(n);
    }

    int undo() {
        if (now.past.isEmpty()) {
            return refuse(NO);
        }
        now.scene = now.past.remove(now.past.size() - 1);
        return now.scene.day;
    }

    int of(int i, int what) {
        if (noClerk(i) || out(what, 0, 4)) {
            return refuse(BAD);
        }
        Clerk c = at(i);
        return new int[] {c.kind, c.desk, c.weight, c.rust, c.on}[what];
    }

    int felt(int i, int t, int j) {
        if (noClerk(i) || out(t, 1, 20) || j != -1 && noClerk(j)) {
            return refuse(BAD);
        }
        Map<Integer, Integer> feels = now.scene.tug(i, t);
        return j == -1 ? bits(feels.keySet()) : feels.getOrDefault(j, 0);
    }

    int least(int i, int j) {
        if (noClerk(i) || noClerk(j)) {
            return refuse(BAD);
        }
        int least = -1;
        for (int t = 20; t >= 1; t--) {
            if (now.scene.tug(i, t).containsKey(j)) {
                least = t;
            }
        }
        return least;
    }

    int quiet(int j, int others) {
        if (noClerk(j) || others < 0 || others >= 1 << size()) {
            return refuse(BAD);
        }
        int best = -1;
        for (int i = 0; i < size(); i++) {
            for (int t = 1; t <= 20; t++) {
                Set<Integer> who = now.scene.tug(i, t).keySet();
                boolean fits = who.contains(j);
                for (int c : who) {
                    fits &= (others & 1 << c) == 0;
                }
                if (fits && (best == -1 || 100 * t + i < best)) {
                    best = 100 * t + i;
                }
            }
        }
        return best;
    }

    int string(int i, int what) {
        if (noClerk(i) || out(what, 0, 3)) {
            refuse(BAD);
            return -1000;
        }
        Set<Integer> s = now.scene.stringOf(i);
        if (what == 0) {
            return bits(s);
        }
        if (what == 1) {
            return now.scene.weight(s);
        }
        if (what == 3) {
            return now.scene.drawn(s, now.magnets);
        }
        int most = 0;
        for (int c : s) {
            most = Math.max(most, now.scene.longestFrom(c, -1));
        }
        return most;
    }

    int strings(int what) {
        if (out(what, 0, 1)) {
            return refuse(BAD);
        }
        if (what == 0) {
            return now.scene.allStrings().size();
        }
        int b = 0;
        for (int c = 0; c < size(); c++) {
            b |= now.scene.neighbours(c).size() < 2 ? 1 << c : 0;
        }
        return b;
    }

    int then(int i, int m) {
        if (noClerk(i) || out(m, 0, 60)) {
            return refuse(BAD);
        }
        Scene s = now.scene.copy();
        for (int k = 0; k < m; k++) {
            s.passOne(now.magnets);
        }
        return s.clerks.get(i).desk;
    }

    int lunch(int n) {
        if (out(n, 1, 7)) {
            return refuse(BAD);
        }
        List<Integer> parties = new ArrayList<>();
        for (Set<Integer> s : now.scene.allStrings()) {
            parties.add(s.size());
        }
        return parties.isEmpty() ? 0 : Collections.max(parties) > n ? -1 : seat(parties, 0, new ArrayList<>(), n);
    }

    private static int seat(List<Integer> parties, int k, List<Integer> tables, int n) {
        if (k == parties.size()) {
            return tables.size();
        }
        int party = parties.get(k);
        tables.add(party);
        int best = seat(parties, k + 1, tables, n);
        tables.remove(tables.size() - 1);
        for (int table = 0; table < tables.size(); table++) {
            int sit = tables.get(table);
            if (sit + party <= n) {
                tables.set(table, sit + party);
                best = Math.min(best, seat(parties, k + 1, tables, n));
                tables.set(table, sit);
            }
        }
        return best;
    }

    int free(int w) {
        if (out(w, 1, 63)) {
            return refuse(BAD);
        }
        List<Integer> fitting = new ArrayList<>();
        for (int b = 0; b < 1 << size(); b++) {
            Scene s = now.scene.copy();
            boolean may = true;
            for (int c = 0; c < size(); c++) {
                if ((b & 1 << c) != 0) {
                    may &= s.clerks.get(c).on >= 0;
                    s.clerks.get(c).on = -1;
                }
            }
            for (Set<Integer> string : s.allStrings()) {
                may &= s.weight(string) <= w;
            }
            if (may) {
                fitting.add(1000 * Integer.bitCount(b) + b);
            }
        }
        return fitting.isEmpty() ? -1 : Collections.min(fitting) % 1000;
    }

    int caught(int i) {
        if (noClerk(i)) {
            return refuse(BAD);
        }
        if (at(i).on >= 0) {
            return refuse(NO);
        }
        int b = 0;
        for (int j = 0; j < size(); j++) {
            b |= now.scene.on(j) < 2 && !now.scene.cycleBy(i, j) ? 1 << j : 0;
        }
        return b;
    }

    int told(int a, int t, int b, int x) {
        if (noClerk(a) || out(t, 1, 20) || noClerk(b) || out(x, 0, 20)) {
            return refuse(BAD);
        }
        return add(now.told, 5, a, t, b, x);
    }

    private int add(List<int[]> rows, int most, int... row) {
        if (rows.size() == most) {
            return refuse(FULL);
        }
        rows.add(row);
        return rows.size();
    }

    int found(int i) {
        int may = caught(i);
        if (may < 0) {
            return may;
        }
        int b = 0;
        for (int j = -1; j < size(); j++) {
            if (j >= 0 && (may & 1 << j) == 0) {
                continue;
            }
            Scene s = now.scene.copy();
            s.clerks.get(i).on = j;
            boolean so = true;
            for (int[] told : now.told) {
                so &= s.tug(told[0], told[1]).getOrDefault(told[2], 0) == told[3];
            }
            b |= so ? 1 << (j < 0 ? 7 : j) : 0;
        }
        return b;
    }

    int note(int i, int t, int u, int x) {
        if (noClerk(i) || out(t, 1, 20) || out(u, 0, 99) || out(x, 0, 20)) {
            return refuse(BAD);
        }
        return add(now.notes, 6, i, t, u, x);
    }

    int mark(int m, int p, int f, int d, int x) {
        if (noMagnet(m) || out(p, 1, 9) || out(f, 0, 11) || out(d, 0, 99) || out(x, -40, 40)) {
            return refuse(BAD);
        }
        return add(now.marks, 6, m, p, f, d, x);
    }

    int forget(int what) {
        if (out(what, 0, 2)) {
            return refuse(BAD);
        }
        List<int[]> rows = List.of(now.told, now.notes, now.marks).get(what);
        int n = rows.size();
        rows.clear();
        return n;
    }

    private int clerkKinds(int i) {
        int b = 63;
        for (int[] note : now.notes) {
            for (int kind = 0; kind < 6; kind++) {
                if (note[0] == i && CLERK_KINDS.get(kind).on(note[1], note[2]) != note[3]) {
                    b &= ~(1 << kind);
                }
            }
        }
        return b;
    }

    private int magnetKinds(int m) {
        int b = 63;
        for (int[] mark : now.marks) {
            for (int kind = 0; kind < 6; kind++) {
                if (mark[0] == m && MAGNET_KINDS.get(kind).by(mark[1], mark[2], mark[3]) != mark[4]) {
                    b &= ~(1 << kind);
                }
            }
        }
        return b;
    }

    int is(int i) {
        return noClerk(i) ? refuse(BAD) : clerkKinds(i);
    }

    int kinds(int m) {
        return noMagnet(m) ? refuse(BAD) : magnetKinds(m);
    }

    /** The most of the kinds for which the value is the same. */
    private static int most(int kinds, ToIntFunction<Integer> valueOf) {
        Map<Integer, Integer> times = new TreeMap<>();
        for (int kind = 0; kind < 6; kind++) {
            if ((kinds & 1 << kind) != 0) {
                times.merge(valueOf.applyAsInt(kind), 1, Integer::sum);
            }
        }
        return Collections.max(times.values());
    }

    int look(int i) {
        if (noClerk(i)) {
            return refuse(BAD);
        }
        int kinds = clerkKinds(i);
        List<Integer> ranked = new ArrayList<>();
        for (int t = 1; t <= 20 && kinds != 0; t++) {
            for (int u = 0; u <= 9; u++) {
                final int tt = t;
                final int uu = u;
                ranked.add(1000 * most(kinds, kind -> CLERK_KINDS.get(kind).on(tt, uu)) + 10 * t + u);
            }
        }
        return ranked.isEmpty() ? -1 : Collections.min(ranked) % 1000;
    }

    int ask(int m) {
        if (noMagnet(m)) {
            return refuse(BAD);
        }
        int kinds = magnetKinds(m);
        int power = now.magnets.get(m)[2];
        List<Integer> ranked = new ArrayList<>();
        for (int d = 0; d <= 1 && kinds != 0; d++) {
            for (int f = 0; f <= 11; f++) {
                final int dd = d;
                final int ff = f;
                ranked.add(1000 * most(kinds, kind -> MAGNET_KINDS.get(kind).by(power, ff, dd)) + 100 * d + f);
            }
        }
        return ranked.isEmpty() ? -1 : Collections.min(ranked) % 1000;
    }

    int lifts(int a, int b, int k) {
        if (noClerk(a) || noClerk(b) || a == b || k < -1) {
            refuse(BAD);
            return -10;
        }
        int first = now.scene.weight(now.scene.stringOf(a));
        int second = now.scene.weight(now.scene.stringOf(b));
        List<Integer> rest = new ArrayList<>();
        for (int i = 0; i < 10; i++) {
            for (int j = 0; j < 10; j++) {
                int bestFirst = Integer.MIN_VALUE;
                int bestSecond = Integer.MIN_VALUE;
                for (int o = 0; o < 10; o++) {
                    bestFirst = Math.max(bestFirst, gets(o, o >= j, first));
                    bestSecond = Math.max(bestSecond, gets(o, o > i, second));
                }
                if (gets(i, i >= j, first) == bestFirst && gets(j, j > i, second) == bestSecond) {
                    rest.add(10 * i + j);
                }
            }
        }
        return k == -1 ? rest.size() : k < rest.size() ? rest.get(k) : -5;
    }

    private static int gets(int hands, boolean stronger, int weight) {
        return (stronger && 3 * hands >= weight ? weight : 0) - hands;
    }

    /** The sum of the chances of all the ways in which hooks may slip. */
    int slips(int i, int t, int j, int c) {
        if (noClerk(i) || out(t, 1, 20) || noClerk(j) || out(c, 0, 10)) {
            return refuse(BAD);
        }
        List<Integer> hooked = new ArrayList<>();
        for (int k = 0; k < size(); k++) {
            if (at(k).on >= 0) {
                hooked.add(k);
            }
        }
        BigInteger chances = BigInteger.ZERO;
        for (int b = 0; b < 1 << hooked.size(); b++) {
            Scene s = now.scene.copy();
            BigInteger chance = BigInteger.ONE;
            for (int k = 0; k < hooked.size(); k++) {
                boolean slipped = (b & 1 << k) != 0;
                chance = chance.multiply(BigInteger.valueOf(slipped ? c : 10 - c));
                if (slipped) {
                    s.clerks.get(hooked.get(k)).on = -1;
                }
            }
            chances = s.tug(i, t).containsKey(j) ? chances.add(chance) : chances;
        }
        BigInteger whole = BigInteger.TEN.pow(hooked.size());
        BigInteger gcd = chances.gcd(whole);
        above = chances.divide(gcd);
        below = whole.divide(gcd);
        return 1;
    }

    int decades(int seed, int n) {
        if (out(seed, 0, 999999) || out(n, 0, 60)) {
            return refuse(BAD);
        }
        Scene s = now.scene.copy();
        BigInteger x = BigInteger.valueOf(seed);
        int all = 0;
        for (int k = 0; k < n; k++) {
            x = x.multiply(BigInteger.valueOf(1103515245)).add(BigInteger.valueOf(12345))
                    .mod(BigInteger.valueOf(2147483648L));
            int t = x.divide(BigInteger.valueOf(65536)).mod(BigInteger.valueOf(20)).intValue() + 1;
            int c = x.divide(BigInteger.valueOf(1048576)).mod(BigInteger.valueOf(7)).intValue();
            all += c < size() ? s.tug(c, t).size() : 0;
            s.passOne(now.magnets);
        }
        return all;
    }

    long part(int what) {
        return what == 0 ? above.longValueExact() : what == 1 ? below.longValueExact() : refuse(BAD);
    }

    int image(int i) {
        if (out(i, 0, 1)) {
            return refuse(BAD);
        }
        images[i] = now.copy();
        return 1;
    }

    int from(int i) {
        if (out(i, 0, 1)) {
            return refuse(BAD);
        }
        if (images[i] == null) {
            return refuse(NO);
        }
        now = images[i].copy();
        return 1;
    }

    int status(int what) {
        if (out(what, 0, 2)) {
            refuse(BAD);
            return -1;
        }
        return refused[what];
    }

    private int[] counts() {
        int hooks = 0;
        int rust = 0;
        for (Clerk c : now.scene.clerks) {
            hooks += c.on >= 0 ? 1 : 0;
            rust += c.rust;
        }
        return new int[] {size(), now.magnets.size(), now.scene.day, hooks, rust, now.told.size(),
            now.notes.size(), now.marks.size(), now.past.size(), text.length()};
    }

    int count(int what) {
        return out(what, 0, 9) ? refuse(BAD) : counts()[what];
    }

    long digest() {
        List<Long> all = new ArrayList<>();
        for (int n : counts()) {
            all.add((long) n);
        }
        for (Clerk c : now.scene.clerks) {
            for (int n : new int[] {c.kind, c.desk, c.weight, c.rust, c.on}) {
                all.add((long) n);
            }
        }
        for (List<int[]> rows : List.of(now.magnets, now.told, now.notes, now.marks)) {
            for (int[] row : rows) {
                for (int n : row) {
                    all.add((long) n);
                }
            }
        }
        all.add(above.longValueExact());
        all.add(below.longValueExact());
        long h = 1553;
        for (long v : all) {
            h = 31 * h + v;
        }
        return h;
    }
}
