import java.util.ArrayList;
import java.util.Arrays;
import java.util.Comparator;
import java.util.List;
import java.util.Random;
import java.util.function.IntPredicate;
import java.util.regex.Matcher;
import java.util.regex.Pattern;

/**
 * Runs of calls by lot on NotYetSaid and on a twin that was written from the document by itself: it lists all ROWS and
 * looks at them, evaluates conditions on their words, and lets the machine throw where the host refuses.
 * Arguments: how many runs (120), the first run's number (1).
 */
public final class TwinTests {
    private static final int BAD = -1, FULL = -2, NONE = -3, STATE = -4;

    // ---- the twin's state

    private static final class Told {
        int kind, holds, costs, left, told;

        Told(int kind, int holds, int costs, int left, int told) {
            this.kind = kind;
            this.holds = holds;
            this.costs = costs;
            this.left = left;
            this.told = told;
        }
    }

    private record Rule(int kind, List<String> condition, String deed, int amount) {
    }

    private static final class Trip {
        List<Told> answers = new ArrayList<>();
        List<int[]> legs = new ArrayList<>();
        List<Rule> rules = new ArrayList<>();
        List<int[]> reports = new ArrayList<>();
        int minute = 0, belief = 100, z = 1;

        Trip copy() {
            Trip c = new Trip();
            for (Told t : answers) {
                c.answers.add(new Told(t.kind, t.holds, t.costs, t.left, t.told));
            }
            for (int[] leg : legs) {
                c.legs.add(leg.clone());
            }
            c.rules = rules;
            c.reports.addAll(reports);
            c.minute = minute;
            c.belief = belief;
            c.z = z;
            return c;
        }

        int end() {
            return legs.stream().mapToInt(l -> l[0]).sum();
        }

        boolean over() {
            return minute >= end();
        }

        int legNow() {
            int end = 0, k = 0;
            for (int[] leg : legs) {
                end += leg[0];
                if (end > minute) {
                    return k;
                }
                k++;
            }
            return k;
        }

        int mood() {
            return over() ? 0 : legs.get(legNow())[1];
        }

        int h(int a) {
            Told t = answers.get(a);
            for (Rule r : rules) {
                if (chain(t.kind).contains(r.kind) && so(r.condition, a)) {
                    return switch (r.deed) {
                        case "more" -> t.holds + r.amount;
                        case "less" -> t.holds > r.amount ? t.holds - r.amount : 0;
                        default -> 0;
                    };
                }
            }
            return t.holds;
        }

        int holdsNow(int a) {
            Told t = answers.get(a);
            int h = h(a), now;
            int game = mood() == 2 ? h + 5 : h;
            int biscuit = mood() == 1 ? h / 2 : h;
            if (t.kind == 1) {
                now = h / (1 + t.told);
            } else if (t.kind == 2) {
                now = game;
            } else if (t.kind == 3) {
                now = game - 2 * t.told < 0 ? 0 : game - 2 * t.told;
            } else if (t.kind == 4) {
                now = biscuit;
            } else {
                now = biscuit * 2;
            }
            return now < 1 ? 1 : now;
        }

        boolean can(int a) {
            Told t = answers.get(a);
            return !over() && t.told < t.left && t.costs <= belief;
        }

        boolean some() {
            for (int a = 0; a < answers.size(); a++) {
                if (can(a)) {
                    return true;
                }
            }
            return false;
        }

        Trip behind(int a) {
            Trip c = copy();
            c.tell(a);
            return c;
        }

        int tell(int a) {
            if (a < 0 || a >= answers.size()) {
                return BAD;
            }
            if (!can(a)) {
                return STATE;
            }
            int was = minute;
            minute = Math.min(minute + holdsNow(a), end());
            belief -= answers.get(a).costs;
            answers.get(a).told++;
            return minute - was;
        }

        // ---- conditions, on their words

        boolean so(List<String> words, int a) {
            return words.isEmpty() || or(words, a);
        }

        private boolean or(List<String> words, int a) {
            return parts(words, "or").stream().anyMatch(p -> parts(p, "and").stream().allMatch(q -> one(q, a)));
        }

        private boolean one(List<String> words, int a) {
            if (words.get(0).equals("not")) {
                return !one(words.subList(1, words.size()), a);
            }
            if (words.get(0).equals("(")) {
                return or(words.subList(1, words.size() - 1), a);
            }
            int left = value(words.get(0), a), right = value(words.get(2), a);
            return switch (words.get(1)) {
                case "<" -> left < right;
                case ">" -> left > right;
                default -> left == right;
            };
        }

        private int value(String word, int a) {
            return switch (word) {
                case "leg" -> legNow();
                case "mood" -> mood();
                case "told" -> answers.get(a).told;
                case "belief" -> belief;
                case "number" -> a;
                default -> Integer.parseInt(word);
            };
        }

        private static List<List<String>> parts(List<String> words, String by) {
            List<List<String>> all = new ArrayList<>();
            int open = 0, from = 0;
            for (int k = 0; k < words.size(); k++) {
                open += words.get(k).equals("(") ? 1 : words.get(k).equals(")") ? -1 : 0;
                if (open == 0 && words.get(k).equals(by)) {
                    all.add(words.subList(from, k));
                    from = k + 1;
                }
            }
            all.add(words.subList(from, words.size()));
            return all;
        }
    }

    private static List<Integer> chain(int kind) {
        return switch (kind) {
            case 3 -> List.of(3, 2, 0);
            case 5 -> List.of(5, 4, 0);
            default -> List.of(kind, 0);
        };
    }

    // ---- rows, all of them

    private record Behind(List<Integer> row, Trip trip) {
    }

    private static final Comparator<Behind> FIRST = (x, y) -> {
        for (int k = 0; k < Math.min(x.row.size(), y.row.size()); k++) {
            int order = Integer.compare(x.row.get(k), y.row.get(k));
            if (order != 0) {
                return order;
            }
        }
        return 0;
    };

    private static List<Behind> rows(Trip trip, int n) {
        List<Behind> all = new ArrayList<>();
        all.add(new Behind(List.of(), trip));
        int from = 0;
        for (int length = 1; length <= n; length++) {
            int till = all.size();
            for (int k = from; k < till; k++) {
                for (int a = 0; a < trip.answers.size(); a++) {
                    if (all.get(k).trip.can(a)) {
                        List<Integer> row = new ArrayList<>(all.get(k).row);
                        row.add(a);
                        all.add(new Behind(row, all.get(k).trip.behind(a)));
                    }
                }
            }
            from = till;
        }
        return all;
    }

    private static List<Behind> arriving(Trip trip, int n) {
        return rows(trip, n).stream().filter(b -> b.trip.over()).toList();
    }

    private static Behind shortest(Trip trip) {
        List<Behind> all = arriving(trip, 4);
        int least = all.stream().mapToInt(b -> b.row.size()).min().orElse(NONE);
        return all.stream().filter(b -> b.row.size() == least).min(FIRST).orElse(null);
    }

    private static int kind(Trip trip, int n) {
        return arriving(trip, n).stream().mapToInt(b -> b.trip.belief).max().orElse(NONE);
    }

    /** 1: who is to begin wins, 0: nobody, -1: the other one wins. */
    private static int outcome(Trip trip, int n) {
        if (n == 0 || trip.over()) {
            return 0;
        }
        int best = -1;
        for (int a = 0; a < trip.answers.size(); a++) {
            if (trip.can(a)) {
                best = Math.max(best, -outcome(trip.behind(a), n - 1));
            }
        }
        return best;
    }

    // ---- things

    private static class Thing {
        final int n, a;
        final List<Integer> trace;

        Thing(int n, int a, List<Integer> trace) {
            this.n = n;
            this.a = a;
            this.trace = trace;
        }

        int says(int x) {
            trace.add(10);
            return x + a;
        }

        int sways(int x) {
            trace.add(11);
            return says(x) - n;
        }

        int shares(int x) {
            trace.add(12);
            return x / (a - n);
        }

        int tells(int x) {
            trace.add(13);
            return sways(x) ^ a;
        }
    }

    private static class Soon extends Thing {
        Soon(int n, int a, List<Integer> trace) {
            super(n, a, trace);
        }

        @Override
        int says(int x) {
            trace.add(20);
            return super.says(x) * 2;
        }
    }

    private static class Game extends Thing {
        Game(int n, int a, List<Integer> trace) {
            super(n, a, trace);
        }

        @Override
        int sways(int x) {
            trace.add(30);
            return super.sways(x) ^ n;
        }
    }

    private static class Song extends Game {
        Song(int n, int a, List<Integer> trace) {
            super(n, a, trace);
        }

        @Override
        int says(int x) {
            trace.add(50);
            return super.says(x) - 1;
        }

        @Override
        int tells(int x) {
            trace.add(51);
            return super.tells(x) + shares(a);
        }
    }

    private static class Biscuit extends Thing {
        Biscuit(int n, int a, List<Integer> trace) {
            super(n, a, trace);
        }

        @Override
        int shares(int x) {
            trace.add(40);
            return super.shares(x - 3);
        }
    }

    private static class Stop extends Biscuit {
        Stop(int n, int a, List<Integer> trace) {
            super(n, a, trace);
        }

        @Override
        int sways(int x) {
            trace.add(60);
            return 0 - super.sways(x);
        }

        @Override
        int shares(int x) {
            trace.add(61);
            return super.shares(x) - says(n);
        }
    }

    // ---- the twin

    private static final class Twin {
        Trip trip = new Trip();
        Trip kept;
        StringBuilder tape = new StringBuilder();
        List<int[]> rows = new ArrayList<>();
        Object[] sheets = new Object[4];
        Object[] shelves = new Object[4];
        List<Integer> trace = new ArrayList<>();

        private boolean is(int a) {
            return a >= 0 && a < trip.answers.size();
        }

        private static boolean fit(int v, int least, int most) {
            return v >= least && v <= most;
        }

        int answer(int kind, int holds, int costs, int left) {
            if (!fit(kind, 1, 5) || !fit(holds, 1, 60) || !fit(costs, 0, 100) || !fit(left, 0, 9)) {
                return BAD;
            }
            if (trip.answers.size() == 9) {
                return FULL;
            }
            trip.answers.add(new Told(kind, holds, costs, left, 0));
            return trip.answers.size() - 1;
        }

        int answerOf(int a, int what) {
            if (!is(a) || !fit(what, 0, 6)) {
                return BAD;
            }
            Told t = trip.answers.get(a);
            return new int[] {t.kind, t.holds, t.costs, t.left, t.told, trip.holdsNow(a), trip.can(a) ? 1 : 0}[what];
        }

        int change(int a, int what, int v) {
            if (!is(a) || !fit(what, 1, 3) || !fit(v, what == 1 ? 1 : 0, what == 1 ? 60 : what == 2 ? 100 : 9)) {
                return BAD;
            }
            int was = answerOf(a, what);
            Told t = trip.answers.get(a);
            trip.answers.set(a, new Told(t.kind, what == 1 ? v : t.holds, what == 2 ? v : t.costs, what == 3 ? v : t.left, t.told));
            return was;
        }

        int remake(int a, int kind) {
            if (!is(a) || !fit(kind, 1, 5)) {
                return BAD;
            }
            int was = trip.answers.get(a).kind;
            trip.answers.get(a).kind = kind;
            return was;
        }

        int leg(int minutes, int mood) {
            if (!fit(minutes, 1, 99) || !fit(mood, 0, 2)) {
                return BAD;
            }
            if (trip.legs.size() == 8) {
                return FULL;
            }
            trip.legs.add(new int[] {minutes, mood});
            return trip.legs.size() - 1;
        }

        int legOf(int k, int what) {
            return fit(k, 0, trip.legs.size() - 1) && fit(what, 0, 1) ? trip.legs.get(k)[what] : BAD;
        }

        int drives(int k, int minutes, int mood) {
            if (!fit(k, 0, trip.legs.size() - 1) || !fit(minutes, 1, 99) || !fit(mood, 0, 2)) {
                return BAD;
            }
            if (k < trip.legNow() || k == trip.legNow() && trip.minute > 0) {
                return STATE;
            }
            trip.legs.set(k, new int[] {minutes, mood});
            return trip.end();
        }

        int belief(int v) {
            if (!fit(v, 0, 100)) {
                return BAD;
            }
            int was = trip.belief;
            trip.belief = v;
            return was;
        }

        int state(int what) {
            return fit(what, 0, 4)
                    ? new int[] {trip.minute, trip.belief, trip.legNow(), trip.mood(), trip.end()}[what] : BAD;
        }

        int anew() {
            int was = trip.minute;
            trip.minute = 0;
            trip.belief = 100;
            trip.answers.forEach(t -> t.told = 0);
            return was;
        }

        int feed(long eight, int n) {
            if (!fit(n, 1, 8)) {
                return BAD;
            }
            if (tape.length() + n > 200) {
                return FULL;
            }
            for (int k = 0; k < n; k++) {
                tape.append((char) (eight >> 8 * k & 255));
            }
            return tape.length();
        }

        private static boolean isDeed(String w) {
            return w.equals("more") || w.equals("less") || w.equals("nil");
        }

        /** Goes through the words by what may come next; no tree is made. */
        int rules() {
            List<String> words = new ArrayList<>();
            List<Integer> places = new ArrayList<>();
            Matcher m = Pattern.compile("[a-z]+|[0-9]+|[^ ]", Pattern.DOTALL).matcher(tape);
            while (m.find()) {
                words.add(m.group());
                places.add(m.start());
            }
            int length = tape.length();
            tape.setLength(0);
            List<Rule> made = new ArrayList<>();
            List<String> kinds = List.of("answer", "soon", "game", "song", "biscuit", "stop");
            String next = "kind";
            int kind = 0, open = 0;
            List<String> condition = new ArrayList<>();
            String deed = "";
            int amount = 0;
            for (int k = 0; k < words.size(); k++) {
                String w = words.get(k);
                boolean number = w.matches("[0-9]{1,4}");
                boolean value = number || List.of("leg", "mood", "told", "belief", "number").contains(w);
                boolean fault = false;
                switch (next) {
                    case "kind":
                        fault = !kinds.contains(w) || made.size() == 8;
                        kind = kinds.indexOf(w);
                        condition = new ArrayList<>();
                        next = "if";
                        break;
                    case "if":
                        if (w.equals("if")) {
                            next = "one";
                        } else if (isDeed(w)) {
                            deed = w;
                            next = w.equals("nil") ? ";" : "amount";
                        } else {
                            fault = true;
                        }
                        break;
                    case "one":
                        if (w.equals("(")) {
                            open++;
                            fault = open > 3;
                        } else if (value) {
                            next = "sign";
                        } else {
                            fault = !w.equals("not");
                        }
                        condition.add(w);
                        break;
                    case "sign":
                        fault = !w.equals("<") && !w.equals("=") && !w.equals(">");
                        condition.add(w);
                        next = "right";
                        break;
                    case "right":
                        fault = !value;
                        condition.add(w);
                        next = "behind";
                        break;
                    case "behind":
                        if (w.equals("and") || w.equals("or")) {
                            condition.add(w);
                            next = "one";
                        } else if (w.equals(")") && open > 0) {
                            open--;
                            condition.add(w);
                        } else if (isDeed(w) && open == 0) {
                            deed = w;
                            next = w.equals("nil") ? ";" : "amount";
                        } else {
                            fault = true;
                        }
                        break;
                    case "amount":
                        fault = !number || Integer.parseInt(w) > 99;
                        amount = fault ? 0 : Integer.parseInt(w);
                        next = ";";
                        break;
                    default:
                        fault = !w.equals(";");
                        made.add(new Rule(kind, condition, deed, amount));
                        next = "kind";
                        break;
                }
                if (fault) {
                    return -100 - places.get(k);
                }
            }
            if (!next.equals("kind")) {
                return -100 - length;
            }
            trip.rules = made;
            return made.size();
        }

        int say(int a) {
            return trip.tell(a);
        }

        int can() {
            int set = 0;
            for (int a = 0; a < trip.answers.size(); a++) {
                set += trip.can(a) ? 1 << a : 0;
            }
            return set;
        }

        int fewest() {
            Behind b = shortest(trip);
            return b == null ? NONE : b.row.size();
        }

        int ith(int i) {
            if (!fit(i, 0, 3)) {
                return BAD;
            }
            Behind b = shortest(trip);
            return b == null || b.row.size() <= i ? NONE : b.row.get(i);
        }

        int ways(int n) {
            return fit(n, 0, 4) ? arriving(trip, n).size() : BAD;
        }

        int far(int n) {
            return fit(n, 0, 4) ? rows(trip, n).stream().mapToInt(b -> b.trip.minute).max().getAsInt() : BAD;
        }

        int kind(int n) {
            return fit(n, 0, 4) ? TwinTests.kind(trip, n) : BAD;
        }

        int kindly(int n, int i) {
            if (!fit(n, 0, 4) || !fit(i, 0, 3)) {
                return BAD;
            }
            List<Behind> all = arriving(trip, n);
            int most = all.stream().mapToInt(b -> b.trip.belief).max().orElse(NONE);
            Behind b = all.stream().filter(x -> x.trip.belief == most).min(FIRST).orElse(null);
            return b == null || b.row.size() <= i ? NONE : b.row.get(i);
        }

        int needs() {
            if (arriving(trip, 4).isEmpty()) {
                return 0;
            }
            int set = 0;
            for (int a = 0; a < trip.answers.size(); a++) {
                Trip other = trip.copy();
                other.answers.get(a).left = other.answers.get(a).told;
                set |= arriving(other, 4).isEmpty() ? 1 << a : 0;
            }
            return set;
        }

        int more() {
            int best = TwinTests.kind(trip, 4), by = NONE;
            for (int a = 0; a < trip.answers.size(); a++) {
                Trip other = trip.copy();
                other.answers.get(a).left++;
                int then = TwinTests.kind(other, 4);
                if (then > best) {
                    best = then;
                    by = a;
                }
            }
            return by;
        }

        int beliefFor(int n) {
            if (!fit(n, 1, 3)) {
                return BAD;
            }
            for (int b = 0; b <= 100; b++) {
                Trip other = trip.copy();
                other.belief = b;
                if (!arriving(other, n).isEmpty()) {
                    return b;
                }
            }
            return NONE;
        }

        int game(int n) {
            return fit(n, 1, 4) ? new int[] {1, 2, 0}[outcome(trip, n) + 1] : BAD;
        }

        int play(int n) {
            if (!fit(n, 1, 4)) {
                return BAD;
            }
            for (int a = 0; a < trip.answers.size(); a++) {
                if (trip.can(a) && -outcome(trip.behind(a), n - 1) == outcome(trip, n)) {
                    return a;
                }
            }
            return NONE;
        }

        int report(int since, int till, int held) {
            if (!fit(since, 0, 999) || !fit(till, since, 999) || !fit(held, 0, 1)) {
                return BAD;
            }
            if (trip.reports.size() == 6) {
                return FULL;
            }
            trip.reports.add(new int[] {since, till, held});
            return trip.reports.size() - 1;
        }

        int forget() {
            int were = trip.reports.size();
            trip.reports.clear();
            return were;
        }

        private List<Integer> fitting(IntPredicate counts) {
            List<Integer> all = new ArrayList<>();
            for (int h = 1; h <= 60; h++) {
                boolean fits = true;
                for (int r = 0; r < trip.reports.size(); r++) {
                    int[] report = trip.reports.get(r);
                    // it holds in each minute from since to since + h - 1
                    int held = report[1] <= report[0] + h - 1 ? 1 : 0;
                    fits &= !counts.test(r) || held == report[2];
                }
                if (fits) {
                    all.add(h);
                }
            }
            return all;
        }

        int span(int what) {
            if (!fit(what, 0, 2)) {
                return BAD;
            }
            List<Integer> all = fitting(r -> true);
            if (what == 0) {
                return all.size();
            }
            return all.isEmpty() ? NONE : all.get(what == 1 ? 0 : all.size() - 1);
        }

        int liar() {
            if (!fitting(r -> true).isEmpty()) {
                return NONE;
            }
            for (int l = 0; l < trip.reports.size(); l++) {
                int but = l;
                if (!fitting(r -> r != but).isEmpty()) {
                    return l;
                }
            }
            return NONE;
        }

        int seed(int v) {
            int was = trip.z;
            trip.z = v;
            return was;
        }

        private static int draw(Trip t) {
            List<Integer> all = new ArrayList<>();
            for (int a = 0; a < t.answers.size(); a++) {
                if (t.can(a)) {
                    all.add(a);
                }
            }
            if (all.isEmpty()) {
                return NONE;
            }
            t.z = t.z * 1103515245 + 12345;
            int a = all.get((t.z >>> 16) % all.size());
            t.tell(a);
            return a;
        }

        int draw() {
            return draw(trip);
        }

        int often(int n) {
            if (!fit(n, 1, 60)) {
                return BAD;
            }
            int over = 0, z = trip.z;
            for (int run = 0; run < n; run++) {
                Trip t = trip.copy();
                t.z = z;
                for (int k = 0; k < 30 && t.some(); k++) {
                    draw(t);
                }
                z = t.z;
                over += t.over() ? 1 : 0;
            }
            return over;
        }

        int prove() {
            Behind b = shortest(trip);
            if (b == null) {
                return NONE;
            }
            rows.clear();
            Trip t = trip;
            for (int a : b.row) {
                t = t.behind(a);
                rows.add(new int[] {a, t.minute, t.belief});
            }
            return rows.size();
        }

        int row(int k, int what) {
            return fit(k, 0, rows.size() - 1) && fit(what, 0, 2) ? rows.get(k)[what] : -9;
        }

        int alterRow(int k, int what, int v) {
            if (!fit(k, 0, rows.size() - 1) || !fit(what, 0, 2)) {
                return -9;
            }
            int was = rows.get(k)[what];
            rows.get(k)[what] = v;
            return was;
        }

        int judge() {
            Trip t = trip.copy();
            for (int k = 0; k < rows.size(); k++) {
                int[] row = rows.get(k);
                if (t.tell(row[0]) < 0 || t.minute != row[1] || t.belief != row[2]) {
                    return k + 1;
                }
            }
            return rows.isEmpty() || t.over() ? 0 : rows.size();
        }

        int sheet(int sheet, int sort, int n) {
            if (!fit(sheet, 0, 3) || !fit(sort, -1, 4) || sort != -1 && n > 40) {
                return BAD;
            }
            try {
                sheets[sheet] = switch (sort) {
                    case 0 -> new byte[n];
                    case 1 -> new short[n];
                    case 2 -> new int[n];
                    case 3 -> new long[n];
                    case 4 -> new boolean[n];
                    default -> null;
                };
            } catch (NegativeArraySizeException e) {
                return -14;
            }
            return 1;
        }

        int write(int sheet, int i, int v) {
            if (!fit(sheet, 0, 3)) {
                return BAD;
            }
            Object row = sheets[sheet];
            try {
                if (row instanceof byte[] r) {
                    r[i] = (byte) v;
                } else if (row instanceof short[] r) {
                    r[i] = (short) v;
                } else if (row instanceof int[] r) {
                    r[i] = v;
                } else if (row instanceof long[] r) {
                    r[i] = v;
                } else {
                    ((boolean[]) row)[i] = v != 0;
                }
            } catch (NullPointerException e) {
                return -11;
            } catch (ArrayIndexOutOfBoundsException e) {
                return -12;
            }
            return 1;
        }

        int item(int sheet, int sort, int i) {
            if (!fit(sheet, 0, 3) || !fit(sort, 0, 4)) {
                return BAD;
            }
            try {
                return switch (sort) {
                    case 0 -> ((byte[]) sheets[sheet])[i];
                    case 1 -> ((short[]) sheets[sheet])[i];
                    case 2 -> ((int[]) sheets[sheet])[i];
                    case 3 -> (int) ((long[]) sheets[sheet])[i];
                    default -> ((boolean[]) sheets[sheet])[i] ? 1 : 0;
                };
            } catch (ClassCastException e) {
                return -13;
            } catch (NullPointerException e) {
                return -11;
            } catch (ArrayIndexOutOfBoundsException e) {
                return -12;
            }
        }

        private byte[] bytes(int sheet) {
            byte[] row = (byte[]) sheets[sheet];
            return row.clone();
        }

        int tellAll(int sheet, int i, int n) {
            if (!fit(sheet, 0, 3) || !fit(n, 0, 20)) {
                return BAD;
            }
            try {
                byte[] row = bytes(sheet);
                int minutes = 0;
                for (int k = i; k != i + n; k++) {
                    int passed = trip.tell(row[k]);
                    minutes += passed < 0 ? 0 : passed;
                }
                return minutes;
            } catch (ClassCastException e) {
                return -13;
            } catch (NullPointerException e) {
                return -11;
            } catch (ArrayIndexOutOfBoundsException e) {
                return -12;
            }
        }

        int wouldCost(int sheet, int i, int n) {
            if (!fit(sheet, 0, 3) || !fit(n, 0, 20)) {
                return BAD;
            }
            try {
                byte[] row = bytes(sheet);
                Trip t = trip.copy();
                for (int k = i; k != i + n; k++) {
                    if (t.tell(row[k]) < 0) {
                        return STATE;
                    }
                }
                return trip.belief - t.belief;
            } catch (ClassCastException e) {
                return -13;
            } catch (NullPointerException e) {
                return -11;
            } catch (ArrayIndexOutOfBoundsException e) {
                return -12;
            }
        }

        int shelf(int shelf, int what, int n) {
            if (!fit(shelf, 0, 3) || !fit(what, 0, 2) || what == 0 && !is(n) || what == 1 && !fit(n, 0, 3)) {
                return BAD;
            }
            shelves[shelf] = what == 0 ? (Object) n : what == 1 ? sheets[n] : null;
            return 1;
        }

        private Object on(int shelf) {
            return shelves[shelf] instanceof Integer n && !is(n) ? null : shelves[shelf];
        }

        int taken(int shelf, int as) {
            if (!fit(shelf, 0, 3) || !fit(as, 0, 5) && !fit(as, 10, 14)) {
                return BAD;
            }
            Object thing = on(shelf);
            try {
                return switch (as) {
                    case 10 -> ((byte[]) thing).length;
                    case 11 -> ((short[]) thing).length;
                    case 12 -> ((int[]) thing).length;
                    case 13 -> ((long[]) thing).length;
                    case 14 -> ((boolean[]) thing).length;
                    default -> {
                        int n = (Integer) thing;
                        yield chain(trip.answers.get(n).kind).contains(as) ? n : -13;
                    }
                };
            } catch (ClassCastException e) {
                return -13;
            } catch (NullPointerException e) {
                return -11;
            }
        }

        int act(int shelf, int act, int x) {
            trace = new ArrayList<>();
            if (!fit(shelf, 0, 3) || !fit(act, 0, 3) || !(on(shelf) instanceof Integer n)) {
                return 0;
            }
            Told t = trip.answers.get(n);
            Thing thing = switch (t.kind) {
                case 1 -> new Soon(n, t.holds, trace);
                case 2 -> new Game(n, t.holds, trace);
                case 3 -> new Song(n, t.holds, trace);
                case 4 -> new Biscuit(n, t.holds, trace);
                default -> new Stop(n, t.holds, trace);
            };
            try {
                return switch (act) {
                    case 0 -> thing.says(x);
                    case 1 -> thing.sways(x);
                    case 2 -> thing.shares(x);
                    default -> thing.tells(x);
                };
            } catch (ArithmeticException e) {
                return -15;
            }
        }

        int trace(int i) {
            return fit(i, 0, Math.min(trace.size(), 30) - 1) ? trace.get(i) : NONE;
        }

        int many(int what) {
            return fit(what, 0, 6) ? new int[] {trip.answers.size(), trip.rules.size(), trip.legs.size(),
                trip.reports.size(), rows.size(), tape.length(), Math.min(trace.size(), 30)}[what] : BAD;
        }

        int keep() {
            kept = trip.copy();
            return 1;
        }

        int again() {
            if (kept == null) {
                return NONE;
            }
            trip = kept.copy();
            return trip.answers.size();
        }
    }

    // ---- calls by lot

    private static Random lots;

    private static int any(int least, int most) {
        return least + lots.nextInt(most - least + 1);
    }

    /** Mostly within, now and then at the edges, just outside, or far away. */
    private static int about(int least, int most) {
        return switch (lots.nextInt(40)) {
            case 0 -> least - 1;
            case 1 -> most + 1;
            case 2 -> least;
            case 3 -> most;
            case 4 -> lots.nextInt(6) == 0 ? lots.nextInt() : any(least, most);
            case 5 -> lots.nextInt(6) == 0 ? (lots.nextBoolean() ? Integer.MIN_VALUE : Integer.MAX_VALUE) : any(least, most);
            default -> any(least, most);
        };
    }

    private static String one(String... of) {
        return of[lots.nextInt(of.length)];
    }

    private static String value() {
        return lots.nextInt(3) > 0 ? one("leg", "mood", "told", "belief", "number") : one("0", "1", "2", "3", "50", "90", "0099", "9999");
    }

    private static String blank() {
        return one("", " ", " ", "  ");
    }

    private static String ones(int open) {
        StringBuilder s = new StringBuilder();
        while (lots.nextInt(5) == 0) {
            s.append("not ").append(blank());
        }
        if (open < 3 && lots.nextInt(4) == 0) {
            s.append('(').append(blank()).append(condition(open + 1)).append(blank()).append(')');
        } else {
            s.append(value()).append(blank()).append(one("<", "=", ">")).append(blank()).append(value());
        }
        return s.toString();
    }

    private static String condition(int open) {
        StringBuilder s = new StringBuilder(ones(open));
        while (lots.nextInt(3) == 0) {
            s.append(' ').append(one("and", "or")).append(' ').append(ones(open));
        }
        return s.toString();
    }

    private static String text() {
        StringBuilder s = new StringBuilder(blank());
        int rules = lots.nextInt(12) == 0 ? any(7, 10) : any(0, 3);
        for (int r = 0; r < rules; r++) {
            s.append(one("answer", "answer", "soon", "game", "song", "biscuit", "stop")).append(' ');
            if (rules < 7 && lots.nextInt(3) > 0) {
                s.append("if ").append(condition(0)).append(' ');
            }
            s.append(lots.nextInt(4) == 0 ? "nil" : one("more", "less") + blank() + one("0", "5", "12", "30", "99"));
            s.append(blank()).append(';').append(blank());
        }
        int spoilt = lots.nextInt(5);
        if (spoilt == 0 && s.length() > 0) {
            s.setLength(lots.nextInt(s.length()));
        } else if (spoilt == 1) {
            String wrong = one("(", "((((", ")", "x", "A", "12345", "100", " 100 ", ";", "and", " or ", " not ", "\n", "<", " if ",
                    " leg ", " nil ", "\u00e9", " 7 ", " soon ");
            int place = lots.nextInt(s.length() + 1);
            if (lots.nextBoolean()) {
                s.insert(place, wrong);
            } else {
                s.replace(place, Math.min(place + wrong.length(), s.length()), wrong);
            }
        }
        return s.substring(0, Math.min(s.length(), 200));
    }

    // ---- both, side by side

    private static int wrong;
    private static int run;
    private static final List<String> log = new ArrayList<>();

    private static void same(String call, int got, int due) {
        log.add(call + " = " + due);
        if (got != due) {
            wrong++;
            System.out.println("run " + run + ", call " + log.size() + ": " + call + " answered " + got + ", the twin " + due);
            if (wrong <= 3) {
                log.forEach(line -> System.out.println("    " + line));
            }
        }
    }

    private static String told(String call, int... with) {
        String list = Arrays.toString(with);
        return call + "(" + list.substring(1, list.length() - 1) + ")";
    }

    private static void tape(NotYetSaid x, Twin y) {
        String text = text();
        for (int from = 0; from < text.length(); from += 8) {
            int n = Math.min(8, text.length() - from);
            long eight = 0;
            for (int k = n - 1; k >= 0; k--) {
                eight = eight << 8 | text.charAt(from + k);
            }
            same("feed(" + eight + "L, " + n + ")", x.feed(eight, n), y.feed(eight, n));
        }
        same("rules() /* " + text + " */", x.rules(), y.rules());
    }

    /** All that can be seen without much work. */
    private static void look(NotYetSaid x, Twin y) {
        for (int what = 0; what <= 6; what++) {
            same(told("many", what), x.many(what), y.many(what));
        }
        for (int what = 0; what <= 4; what++) {
            same(told("state", what), x.state(what), y.state(what));
        }
        for (int a = 0; a < y.trip.answers.size(); a++) {
            for (int what = 0; what <= 6; what++) {
                same(told("answerOf", a, what), x.answerOf(a, what), y.answerOf(a, what));
            }
        }
        for (int k = 0; k < y.rows.size(); k++) {
            for (int what = 0; what <= 2; what++) {
                same(told("row", k, what), x.row(k, what), y.row(k, what));
            }
        }
        for (int i = 0; i < y.trace.size(); i++) {
            same(told("trace", i), x.trace(i), y.trace(i));
        }
    }

    private static void call(NotYetSaid x, Twin y, int limit) {
        int a = about(0, y.trip.answers.size() - 1 < 0 ? 0 : y.trip.answers.size() - 1);
        int b, c, d;
        switch (lots.nextInt(66)) {
            case 0, 1:
                if (y.trip.answers.size() < limit || lots.nextInt(8) == 0) {
                    a = about(1, 5);
                    b = lots.nextInt(4) == 0 ? any(1, 9) : about(1, 60);
                    c = lots.nextBoolean() ? any(0, 12) : about(0, 100);
                    d = about(0, 9);
                    same(told("answer", a, b, c, d), x.answer(a, b, c, d), y.answer(a, b, c, d));
                }
                break;
            case 2:
                b = about(0, 6);
                same(told("answerOf", a, b), x.answerOf(a, b), y.answerOf(a, b));
                break;
            case 3, 4:
                b = about(1, 3);
                c = b == 1 ? about(1, 60) : b == 2 ? about(0, 100) : about(0, 9);
                same(told("change", a, b, c), x.change(a, b, c), y.change(a, b, c));
                break;
            case 5:
                b = about(1, 5);
                same(told("remake", a, b), x.remake(a, b), y.remake(a, b));
                break;
            case 6:
                b = lots.nextBoolean() ? any(1, 30) : about(1, 99);
                c = about(0, 2);
                same(told("leg", b, c), x.leg(b, c), y.leg(b, c));
                break;
            case 7:
                b = about(0, 7);
                c = about(0, 1);
                same(told("legOf", b, c), x.legOf(b, c), y.legOf(b, c));
                break;
            case 8, 9:
                b = about(0, Math.max(0, y.trip.legs.size() - 1));
                c = about(1, 99);
                d = about(0, 2);
                same(told("drives", b, c, d), x.drives(b, c, d), y.drives(b, c, d));
                break;
            case 10, 11:
                b = lots.nextBoolean() ? any(0, 20) : about(0, 100);
                same(told("belief", b), x.belief(b), y.belief(b));
                break;
            case 12:
                b = about(0, 4);
                same(told("state", b), x.state(b), y.state(b));
                break;
            case 13, 14:
                same("anew()", x.anew(), y.anew());
                break;
            case 15:
                long eight = lots.nextLong();
                b = about(1, 8);
                same("feed(" + eight + "L, " + b + ")", x.feed(eight, b), y.feed(eight, b));
                break;
            case 16:
                same("rules()", x.rules(), y.rules());
                break;
            case 17, 18, 19:
                if (y.tape.isEmpty()) {
                    tape(x, y);
                }
                break;
            case 20, 21, 22:
                same(told("say", a), x.say(a), y.say(a));
                break;
            case 23:
                same("can()", x.can(), y.can());
                break;
            case 24:
                same("fewest()", x.fewest(), y.fewest());
                break;
            case 25, 26:
                b = about(0, 3);
                same(told("ith", b), x.ith(b), y.ith(b));
                break;
            case 27:
                b = about(0, 4);
                same(told("ways", b), x.ways(b), y.ways(b));
                break;
            case 28:
                b = about(0, 4);
                same(told("far", b), x.far(b), y.far(b));
                break;
            case 29:
                b = about(0, 4);
                same(told("kind", b), x.kind(b), y.kind(b));
                break;
            case 30, 31:
                b = about(0, 4);
                c = about(0, 3);
                same(told("kindly", b, c), x.kindly(b, c), y.kindly(b, c));
                break;
            case 32:
                same("needs()", x.needs(), y.needs());
                break;
            case 33:
                same("more()", x.more(), y.more());
                break;
            case 34:
                b = about(1, 3);
                same(told("beliefFor", b), x.beliefFor(b), y.beliefFor(b));
                break;
            case 35, 36:
                b = about(1, 4);
                same(told("game", b), x.game(b), y.game(b));
                same(told("play", b), x.play(b), y.play(b));
                break;
            case 37, 38:
                b = about(0, 999);
                c = lots.nextInt(6) == 0 ? about(0, 999) : Math.min(b, 900) + about(0, 70);
                d = about(0, 1);
                same(told("report", b, c, d), x.report(b, c, d), y.report(b, c, d));
                break;
            case 39:
                if (lots.nextInt(3) == 0) {
                    same("forget()", x.forget(), y.forget());
                }
                break;
            case 40:
                b = about(0, 2);
                same(told("span", b), x.span(b), y.span(b));
                break;
            case 41:
                same("liar()", x.liar(), y.liar());
                break;
            case 42:
                b = lots.nextInt();
                same(told("seed", b), x.seed(b), y.seed(b));
                break;
            case 43, 44:
                same("draw()", x.draw(), y.draw());
                break;
            case 45:
                b = about(1, 60);
                same(told("often", b), x.often(b), y.often(b));
                break;
            case 46:
                same("prove()", x.prove(), y.prove());
                break;
            case 47:
                b = about(0, 3);
                c = about(0, 2);
                same(told("row", b, c), x.row(b, c), y.row(b, c));
                break;
            case 48:
                b = about(0, 3);
                c = about(0, 2);
                d = c == 0 ? a : about(0, 100);
                same(told("alterRow", b, c, d), x.alterRow(b, c, d), y.alterRow(b, c, d));
                break;
            case 49, 50:
                same("judge()", x.judge(), y.judge());
                break;
            case 51, 52:
                a = about(0, 3);
                b = lots.nextBoolean() ? 0 : about(-1, 4);
                c = about(0, 40);
                same(told("sheet", a, b, c), x.sheet(a, b, c), y.sheet(a, b, c));
                break;
            case 53, 54, 55:
                c = lots.nextInt(3) > 0 ? a : lots.nextBoolean() ? lots.nextInt() : any(-300, 300);
                a = about(0, 3);
                b = lots.nextBoolean() ? any(0, 8) : about(0, 39);
                same(told("write", a, b, c), x.write(a, b, c), y.write(a, b, c));
                break;
            case 56:
                a = about(0, 3);
                b = lots.nextBoolean() ? 0 : about(0, 4);
                c = lots.nextBoolean() ? any(0, 8) : about(0, 39);
                same(told("item", a, b, c), x.item(a, b, c), y.item(a, b, c));
                break;
            case 57:
                a = about(0, 3);
                b = lots.nextBoolean() ? any(0, 8) : about(0, 39);
                c = about(0, 20);
                same(told("tellAll", a, b, c), x.tellAll(a, b, c), y.tellAll(a, b, c));
                break;
            case 58:
                a = about(0, 3);
                b = lots.nextBoolean() ? any(0, 8) : about(0, 39);
                c = lots.nextBoolean() ? any(0, 4) : about(0, 20);
                same(told("wouldCost", a, b, c), x.wouldCost(a, b, c), y.wouldCost(a, b, c));
                break;
            case 59, 60:
                b = about(0, 3);
                c = lots.nextInt(3) > 0 ? 0 : about(0, 2);
                d = c == 0 ? a : about(0, 3);
                same(told("shelf", b, c, d), x.shelf(b, c, d), y.shelf(b, c, d));
                break;
            case 61:
                b = about(0, 3);
                c = lots.nextBoolean() ? about(0, 5) : about(10, 14);
                same(told("taken", b, c), x.taken(b, c), y.taken(b, c));
                break;
            case 62, 63:
                b = about(0, 3);
                c = about(0, 3);
                d = lots.nextBoolean() ? lots.nextInt() : any(-50, 50);
                same(told("act", b, c, d), x.act(b, c, d), y.act(b, c, d));
                for (int i = 0; i <= y.many(6); i++) {
                    same(told("trace", i), x.trace(i), y.trace(i));
                }
                break;
            case 64:
                if (lots.nextInt(3) == 0) {
                    same("keep()", x.keep(), y.keep());
                }
                break;
            default:
                if (lots.nextInt(3) == 0) {
                    same("again()", x.again(), y.again());
                }
                break;
        }
    }

    /** Some runs begin with a ride, so that there is something to be asked of. */
    private static void begin(NotYetSaid x, Twin y, int limit) {
        for (int k = 0; k < limit; k++) {
            int a = any(1, 5), b = any(1, 25), c = any(0, 15), d = any(0, 4);
            same(told("answer", a, b, c, d), x.answer(a, b, c, d), y.answer(a, b, c, d));
        }
        for (int k = any(1, 4); k > 0; k--) {
            int a = any(1, 25), b = any(0, 2);
            same(told("leg", a, b), x.leg(a, b), y.leg(a, b));
        }
        tape(x, y);
    }

    public static void main(String[] args) {
        int runs = args.length > 0 ? Integer.parseInt(args[0]) : 120;
        int first = args.length > 1 ? Integer.parseInt(args[1]) : 1;
        for (run = first; run < first + runs; run++) {
            lots = new Random(run);
            NotYetSaid x = new NotYetSaid();
            Twin y = new Twin();
            log.clear();
            int limit = run % 8 == 0 ? 9 : any(1, 5);
            if (run % 5 > 0) {
                begin(x, y, limit);
            }
            int till = any(60, 380);
            while (log.size() < till) {
                call(x, y, limit);
            }
            look(x, y);
        }
        System.out.println(wrong == 0 ? "both always answered the same" : wrong + " answers are not the twin's");
        if (wrong != 0) {
            System.exit(1);
        }
    }
}
