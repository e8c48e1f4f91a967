import java.math.BigInteger;
import java.util.ArrayList;
import java.util.Comparator;
import java.util.HashMap;
import java.util.List;
import java.util.Map;
import java.util.TreeMap;
import java.util.function.IntPredicate;

/** The document once more, written without a thought of speed, to hold the class beside. */
final class Model {
    record Key(int player, int week, int day) {
    }

    record Round(int player, int week, int day, int hour, int[] strokes) {
        int value(int part) {
            return part >= 0 ? strokes[part] : strokes[0] + strokes[1] + strokes[2] + strokes[3];
        }
    }

    /** All that an IMAGE holds. */
    static final class State {
        List<int[]> gifts = new ArrayList<>();
        List<int[]> courses = new ArrayList<>();
        Map<Integer, Integer> weeks = new HashMap<>();
        Map<Key, Round> rounds = new HashMap<>();
        Map<Key, Integer> bets = new HashMap<>();
        BigInteger z = BigInteger.ONE;

        State copy() {
            State copy = new State();
            gifts.forEach(gift -> copy.gifts.add(gift.clone()));
            copy.courses.addAll(courses);
            copy.weeks.putAll(weeks);
            copy.rounds.putAll(rounds);
            copy.bets.putAll(bets);
            copy.z = z;
            return copy;
        }
    }

    State s = new State();
    final List<State> images = new ArrayList<>();
    ModelLaw law = new ModelLaw();
    final StringBuilder tape = new StringBuilder();
    int fault = -1;
    final int[] refused = new int[3];

    private int refuse(int reason) {
        refused[reason]++;
        return -1;
    }

    private static boolean in(int n, int least, int most) {
        return least <= n && n <= most;
    }

    private static boolean weeks(int from, int to) {
        return 0 <= from && from <= to && to <= 39;
    }

    private boolean player(int p) {
        return in(p, 0, s.gifts.size() - 1);
    }

    private int told(List<int[]> list, int least, int most, int limit, int... parts) {
        for (int part : parts) {
            if (!in(part, least, most)) {
                return refuse(0);
            }
        }
        if (list.size() == limit) {
            return refuse(1);
        }
        list.add(parts);
        return list.size() - 1;
    }

    int player(int a, int b, int c, int d) {
        return told(s.gifts, -20, 20, 20, a, b, c, d);
    }

    int course(int a, int b, int c, int d) {
        return told(s.courses, 0, 60, 6, a, b, c, d);
    }

    boolean week(int week, int course) {
        if (!in(week, 0, 39) || !in(course, 0, s.courses.size() - 1) || s.weeks.containsKey(week)) {
            refuse(0);
            return false;
        }
        s.weeks.put(week, course);
        return true;
    }

    private Round at(int player, int week, int day) {
        return s.rounds.get(new Key(player, week, day));
    }

    int round(int player, int week, int time, int strokes) {
        if (!player(player) || !s.weeks.containsKey(week) || !in(time, 0, 47) || !in(strokes, 0, 99999999)
                || at(player, week, time / 12) != null
                || (time >= 12 && at(player, week, time / 12 - 1) == null)) {
            return refuse(0);
        }
        if (s.rounds.size() == 1200) {
            return refuse(1);
        }
        int[] parts = {strokes % 100, strokes / 100 % 100, strokes / 10000 % 100, strokes / 1000000};
        put(new Round(player, week, time / 12, time % 12, parts));
        return s.rounds.size() - 1;
    }

    private void put(Round r) {
        s.rounds.put(new Key(r.player, r.week, r.day), r);
    }

    boolean bet(int player, int week, int v) {
        if (!player(player) || !in(week, 0, 39) || !in(v, -9999, 9999)) {
            refuse(0);
            return false;
        }
        s.bets.put(new Key(player, week, 0), v);
        return true;
    }

    boolean seed(int z) {
        if (!in(z, 0, 999999999)) {
            refuse(0);
            return false;
        }
        s.z = BigInteger.valueOf(z);
        return true;
    }

    int feed(int... numbers) {
        if (tape.length() + 20 > 700) {
            return -1;
        }
        for (int n : numbers) {
            tape.append((char) (n >>> 24)).append((char) (n >>> 16 & 255)).append((char) (n >>> 8 & 255)).append((char) (n & 255));
        }
        return tape.length();
    }

    int law(int n) {
        if (n < 0 || n > tape.length()) {
            refuse(0);
            return -2;
        }
        ModelLaw read = ModelLaw.read(tape.substring(0, n));
        tape.setLength(0);
        fault = read.fault;
        if (fault >= 0) {
            return refuse(2);
        }
        law = read;
        return law.rules;
    }

    int rule(int w) {
        if (in(w, 0, 3)) {
            return law.drift[w];
        }
        if (in(w, 10, 13)) {
            return law.luck[w - 10];
        }
        if (in(w, 20, 22)) {
            return law.cut.getOrDefault(w - 20, 0);
        }
        if (in(w, 31, 50)) {
            return law.prize.getOrDefault(w - 30, 0);
        }
        if (in(w, 61, 80)) {
            return law.points.getOrDefault(w - 60, 0);
        }
        if (in(w, 100, 139)) {
            return law.weight(w - 100);
        }
        return w == 200 ? law.rules : -1;
    }

    private int draw(int n) {
        BigInteger all = BigInteger.ONE.shiftLeft(64);
        s.z = s.z.multiply(new BigInteger("6364136223846793005")).add(new BigInteger("1442695040888963407")).mod(all);
        return s.z.shiftRight(33).mod(BigInteger.valueOf(2 * n + 1)).intValue() - n;
    }

    int run(int week, int field) {
        boolean empty = s.rounds.keySet().stream().noneMatch(k -> k.week == week);
        if (!s.weeks.containsKey(week) || !empty || field <= 0 || field >= 1 << s.gifts.size()) {
            return refuse(0);
        }
        if (s.rounds.size() + 4 * Integer.bitCount(field) > 1200) {
            return refuse(1);
        }
        int before = s.rounds.size();
        List<Integer> in = new ArrayList<>();
        for (int p = 0; p < 20; p++) {
            if ((field >> p & 1) == 1) {
                in.add(p);
            }
        }
        for (int p : in) {
            for (int part = 0; part < 4; part++) {
                int gift = s.gifts.get(p)[part] + draw(law.drift[part]);
                s.gifts.get(p)[part] = Math.min(40, Math.max(-40, gift));
            }
        }
        for (int day = 0; day < 4; day++) {
            int d = day;
            List<Integer> order = new ArrayList<>(in);
            order.sort(Comparator.<Integer>comparingInt(p -> -sum(p, week, d - 1)).thenComparingInt(p -> p));
            int least = order.stream().mapToInt(p -> sum(p, week, d - 1)).min().getAsInt();
            List<Round> drawn = new ArrayList<>();
            for (int place = 0; place < order.size(); place++) {
                int p = order.get(place);
                drawn.add(new Round(p, week, day, place % 12, strokes(p, week, day, place, sum(p, week, d - 1) - least)));
            }
            drawn.forEach(this::put);
            if (day < 3 && law.cut.containsKey(day)) {
                int line = keepSum(in, week, day, law.cut.get(day));
                in.removeIf(p -> sum(p, week, d) > line);
            }
        }
        return s.rounds.size() - before;
    }

    private int keepSum(List<Integer> who, int week, int day, int keep) {
        int[] sums = who.stream().mapToInt(p -> sum(p, week, day)).sorted().toArray();
        return sums.length < keep ? sums[sums.length - 1] : sums[keep - 1];
    }

    private int[] strokes(int p, int week, int day, int place, int behind) {
        int[] strokes = new int[4];
        for (int part = 0; part < 4; part++) {
            int t = part;
            int n = s.courses.get(s.weeks.get(week))[part] + s.gifts.get(p)[part];
            n += law.hours.stream().filter(h -> h.part() == t && place % 12 >= h.from()).mapToInt(ModelLaw.Hour::n).sum();
            Map<String, Integer> asked = Map.of("day", day, "hour", place % 12, "week", week,
                    "course", s.weeks.get(week), "behind", behind, "order", place);
            n += law.presses.stream().filter(q -> q.part() == t && q.node().holds(asked)).mapToInt(ModelLaw.Press::n).sum();
            n += draw(law.luck[part]);
            strokes[part] = Math.min(99, Math.max(0, n));
        }
        return strokes;
    }

    private int sum(int player, int week, int last) {
        int sum = 0;
        for (int day = 0; day <= last; day++) {
            Round r = at(player, week, day);
            sum += r == null ? 0 : r.value(-1);
        }
        return sum;
    }

    int gift(int p, int part) {
        return player(p) && in(part, 0, 3) ? s.gifts.get(p)[part] : -100;
    }

    int score(int p, int week, int day, int part) {
        Round r = at(p, week, day);
        if (r == null || !in(part, -1, 4)) {
            return -1;
        }
        return part == 4 ? r.hour : r.value(part);
    }

    /** Those with a ROUND on each DAY on which there is one, with their sums. */
    private Map<Integer, Integer> finishers(int week) {
        Map<Integer, Integer> sums = new TreeMap<>();
        for (int p = 0; p < s.gifts.size(); p++) {
            boolean all = false;
            boolean missing = false;
            for (int day = 0; day < 4; day++) {
                if (!on(week, day).isEmpty()) {
                    all |= at(p, week, day) != null;
                    missing |= at(p, week, day) == null;
                }
            }
            if (all && !missing) {
                sums.put(p, sum(p, week, 3));
            }
        }
        return sums;
    }

    private List<Round> on(int week, int day) {
        List<Round> found = new ArrayList<>();
        for (int p = 0; p < s.gifts.size(); p++) {
            if (at(p, week, day) != null) {
                found.add(at(p, week, day));
            }
        }
        return found;
    }

    int place(int p, int week) {
        Map<Integer, Integer> sums = finishers(week);
        return sums.containsKey(p) ? 1 + (int) sums.values().stream().filter(v -> v < sums.get(p)).count() : -1;
    }

    private int share(int p, int week, Map<Integer, Integer> table) {
        int place = place(p, week);
        if (place < 0) {
            return 0;
        }
        int alike = 0;
        int together = 0;
        for (int q : finishers(week).keySet()) {
            if (place(q, week) == place) {
                together += table.getOrDefault(place + alike, 0);
                alike++;
            }
        }
        return together / alike;
    }

    private int shares(int p, int from, int to, Map<Integer, Integer> table, IntPredicate which) {
        int together = 0;
        for (int week = from; week <= to; week++) {
            together += which.test(week) ? share(p, week, table) : 0;
        }
        return together;
    }

    int won(int p, int from, int to, int what) {
        if (!player(p) || !weeks(from, to) || !in(what, 0, 1)) {
            return -1;
        }
        return shares(p, from, to, what == 0 ? law.prize : law.points, w -> true);
    }

    int cut(int week, int day, int what) {
        if (!in(week, 0, 39) || !in(day, 0, 2) || !in(what, 0, 3) || !law.cut.containsKey(day) || on(week, day).isEmpty()) {
            return -1;
        }
        List<Integer> who = new ArrayList<>(on(week, day).stream().map(Round::player).toList());
        int all = who.size();
        int line = keepSum(who, week, day, law.cut.get(day));
        who.removeIf(p -> sum(p, week, day) > line);
        return switch (what) {
            case 0 -> all;
            case 1 -> who.size();
            case 2 -> who.stream().mapToInt(p -> sum(p, week, day)).max().getAsInt();
            default -> (int) who.stream().filter(p -> at(p, week, day + 1) == null).count();
        };
    }

    private List<Round> all(int from, int to) {
        return s.rounds.values().stream().filter(r -> in(r.week, from, to)).toList();
    }

    long luck(int part, int from, int to, int what) {
        if (!in(part, -1, 3) || !weeks(from, to) || !in(what, 0, 1)) {
            return -1;
        }
        long[] sums = new long[2];
        long[] many = new long[2];
        List<Round> all = all(from, to);
        for (int i = 0; i < all.size(); i++) {
            for (int j = 0; j < i; j++) {
                Round a = all.get(i);
                Round b = all.get(j);
                int kind = a.week != b.week ? 2 : a.player == b.player ? 0 : a.day == b.day ? 1 : 2;
                if (kind < 2) {
                    long d = a.value(part) - b.value(part);
                    sums[kind] += d * d;
                    many[kind]++;
                }
            }
        }
        if (many[0] == 0 || many[1] == 0 || sums[1] == 0) {
            return -1;
        }
        return Frac.of(sums[0], many[0]).by(Frac.of(sums[1], many[1])).pick(what);
    }

    int back(int day, int k, int from, int to, int what) {
        if (!in(day, 0, 2) || !in(k, 1, 20) || !weeks(from, to) || !in(what, 0, 2)) {
            return -1000000000;
        }
        int[] answer = new int[3];
        for (int week = from; week <= to; week++) {
            int w = week;
            List<Integer> who = new ArrayList<>();
            for (int p = 0; p < 20; p++) {
                if (at(p, week, day) != null && at(p, week, day + 1) != null) {
                    who.add(p);
                }
            }
            if (who.size() < 2) {
                continue;
            }
            List<Integer> leaders = new ArrayList<>(who);
            leaders.sort(Comparator.<Integer>comparingInt(p -> sum(p, w, day)).thenComparingInt(p -> p));
            for (int i = 0; i < k && i < leaders.size(); i++) {
                for (int next = 0; next < 2; next++) {
                    int d = day + next;
                    answer[next] += who.stream().mapToInt(p -> at(p, w, d).value(-1)).sum()
                            - who.size() * at(leaders.get(i), w, d).value(-1);
                }
                answer[2]++;
            }
        }
        return answer[what];
    }

    private Frac off(Round r, int part) {
        List<Round> day = on(r.week, r.day);
        long sum = day.stream().mapToLong(q -> q.value(part)).sum();
        return Frac.of(r.value(part), 1).minus(Frac.of(sum, day.size()));
    }

    private Frac mean(List<Round> rounds, int part) {
        Frac sum = Frac.ZERO;
        for (Round r : rounds) {
            sum = sum.plus(off(r, part));
        }
        return rounds.isEmpty() ? null : sum.by(rounds.size());
    }

    private List<Round> of(int p, int from, int to) {
        return all(from, to).stream().filter(r -> r.player == p).toList();
    }

    private Frac skillWithout(int p, int part, int week, int left) {
        Frac sum = Frac.ZERO;
        long weights = 0;
        for (Round r : of(p, 0, week - 1)) {
            if (r.week != left) {
                int weight = law.weight(week - r.week);
                sum = sum.plus(off(r, part).times(weight));
                weights += weight;
            }
        }
        return weights == 0 ? null : sum.by(weights);
    }

    private Frac skill(int p, int part, int week) {
        return skillWithout(p, part, week, -1);
    }

    private boolean skillAsked(int p, int part, int week, int what) {
        return player(p) && in(part, -1, 3) && in(week, 0, 40) && in(what, 0, 1);
    }

    long skill(int p, int part, int week, int what) {
        Frac skill = skillAsked(p, part, week, what) ? skill(p, part, week) : null;
        return skill == null ? -1000000000000L : skill.pick(what);
    }

    int span(int p, int part, int week, int what) {
        if (!skillAsked(p, part, week, what)) {
            return -1000000;
        }
        Frac end = null;
        for (int left : of(p, 0, week - 1).stream().mapToInt(Round::week).distinct().toArray()) {
            Frac skill = skillWithout(p, part, week, left);
            if (skill == null) {
                return -1000000;
            }
            if (end == null || (what == 0 ? skill.compareTo(end) < 0 : skill.compareTo(end) > 0)) {
                end = skill;
            }
        }
        return end == null ? -1000000 : (int) end.times(100).cut();
    }

    int best(int week) {
        int best = -1;
        Frac least = null;
        for (int p = 0; p < s.gifts.size() && in(week, 0, 40); p++) {
            Frac skill = skill(p, -1, week);
            if (skill != null && (least == null || skill.compareTo(least) < 0)) {
                best = p;
                least = skill;
            }
        }
        return best;
    }

    int years(int p) {
        if (!player(p)) {
            return -1;
        }
        int longest = 0;
        int row = 0;
        for (int week = 1; week <= 40; week++) {
            row = best(week) == p ? row + 1 : 0;
            longest = Math.max(longest, row);
        }
        return longest;
    }

    private Map<Integer, Long> lot() {
        Map<Integer, Long> lot = new TreeMap<>();
        long ways = 0;
        int[] n = law.luck;
        for (int a = -n[0]; a <= n[0]; a++) {
            for (int b = -n[1]; b <= n[1]; b++) {
                for (int c = -n[2]; c <= n[2]; c++) {
                    for (int d = -n[3]; d <= n[3]; d++) {
                        lot.merge(a + b + c + d, 1L, Long::sum);
                        ways++;
                    }
                }
            }
        }
        long all = ways;
        lot.replaceAll((sum, many) -> many * 1000000 / all);
        return lot;
    }

    int odds(int p, int field, int week) {
        if (!player(p) || field < 0 || field >= 1 << s.gifts.size() || (field >> p & 1) == 0 || !in(week, 0, 40)) {
            return -1;
        }
        long[] whole = new long[20];
        for (int q = 0; q < s.gifts.size(); q++) {
            Frac skill = skill(q, -1, week);
            whole[q] = skill == null ? 0 : skill.cut();
        }
        Map<Integer, Long> lot = lot();
        long together = 0;
        for (int sum : lot.keySet()) {
            long chance = lot.get(sum);
            for (int q = 0; q < 20; q++) {
                if (q != p && (field >> q & 1) == 1) {
                    long above = 0;
                    for (int other : lot.keySet()) {
                        above += whole[q] + other > whole[p] + sum ? lot.get(other) : 0;
                    }
                    chance = chance * above / 1000000;
                }
            }
            together += chance;
        }
        return (int) together;
    }

    int need(int d, int part) {
        if (!in(d, 1, 40) || !in(part, 1, 100)) {
            return -1;
        }
        Map<Integer, Long> lot = lot();
        Map<Integer, Long> one = new TreeMap<>();
        for (int a : lot.keySet()) {
            for (int b : lot.keySet()) {
                one.merge(b - a, lot.get(a) * lot.get(b) / 1000000, Long::sum);
            }
        }
        Map<Integer, Long> so = one;
        for (int rounds = 1; rounds <= 30; rounds++) {
            long lesser = 0;
            for (int gap : so.keySet()) {
                lesser += gap + rounds * d > 0 ? so.get(gap) : 0;
            }
            if (lesser >= part * 10000L) {
                return rounds;
            }
            Map<Integer, Long> next = new TreeMap<>();
            for (int a : so.keySet()) {
                for (int b : one.keySet()) {
                    next.merge(a + b, so.get(a) * one.get(b) / 1000000, Long::sum);
                }
            }
            next.values().removeIf(v -> v == 0);
            so = next;
        }
        return -1;
    }

    int lasts(int part, int from, int half, int to, int what) {
        if (!in(part, -1, 3) || !in(from, 0, half - 1) || !in(half, 0, to) || to > 39 || !in(what, 0, 2)) {
            return -1;
        }
        List<Integer> both = new ArrayList<>();
        for (int p = 0; p < s.gifts.size(); p++) {
            if (!of(p, from, half - 1).isEmpty() && !of(p, half, to).isEmpty()) {
                both.add(p);
            }
        }
        int[] answer = {0, 0, both.size()};
        for (int a : both) {
            for (int b : both) {
                if (a < b) {
                    int first = mean(of(a, from, half - 1), part).compareTo(mean(of(b, from, half - 1), part));
                    int later = mean(of(a, half, to), part).compareTo(mean(of(b, half, to), part));
                    if (first * later > 0) {
                        answer[0]++;
                    } else if (first * later < 0) {
                        answer[1]++;
                    }
                }
            }
        }
        return answer[what];
    }

    int most(int from, int half, int to) {
        int most = -1;
        int greatest = Integer.MIN_VALUE;
        for (int part = 0; part < 4; part++) {
            if (lasts(part, from, half, to, 2) >= 0) {
                int last = lasts(part, from, half, to, 0) - lasts(part, from, half, to, 1);
                if (last > greatest) {
                    most = part;
                    greatest = last;
                }
            }
        }
        return most;
    }

    long right(int week, int day, int what) {
        if (!in(week, 0, 39) || !in(day, 2, 3) || !in(what, 0, 1)) {
            return -1;
        }
        Frac above = Frac.ZERO;
        int others = 0;
        for (Round r : on(week, day)) {
            above = above.plus(Frac.of(r.value(-1), 1)).minus(Frac.of(sum(r.player, week, 1), 2));
            others++;
        }
        if (others == 0) {
            return -1;
        }
        Frac sum = Frac.ZERO;
        List<Round> played = on(week, 1);
        for (Round r : played) {
            Round then = at(r.player, week, day);
            sum = sum.plus(then != null ? Frac.of(then.value(-1), 1) : Frac.of(sum(r.player, week, 1), 2).plus(above.by(others)));
        }
        return sum.by(played.size()).pick(what);
    }

    private List<Integer> list(int from, int to, IntPredicate which) {
        List<Integer> list = new ArrayList<>();
        int[] points = new int[20];
        for (int p = 0; p < s.gifts.size(); p++) {
            list.add(p);
            points[p] = shares(p, from, to, law.points, which);
        }
        list.sort(Comparator.<Integer>comparingInt(p -> -points[p]).thenComparingInt(p -> p));
        return list;
    }

    int listed(int from, int to, int k) {
        return weeks(from, to) && in(k, 0, s.gifts.size() - 1) ? list(from, to, w -> true).get(k) : -1;
    }

    int line(int k, int from, int to, int what) {
        if (!in(k, 1, 20) || !weeks(from, to) || !in(what, 0, 2)) {
            return -1;
        }
        int first = Math.min(k, s.gifts.size());
        List<Integer> all = new ArrayList<>(list(from, to, w -> true).subList(0, first));
        List<Integer> even = list(from, to, w -> w % 2 == 0).subList(0, first);
        List<Integer> odd = list(from, to, w -> w % 2 == 1).subList(0, first);
        if (what != 1) {
            all.removeAll(even);
        }
        if (what != 0) {
            all.removeAll(odd);
        }
        return all.size();
    }

    int held(int week, int what) {
        if (!in(week, 0, 39) || !in(what, 0, 4)) {
            return -1;
        }
        long together = 0;
        for (Round r : on(week, 0)) {
            Frac foretold = Frac.ZERO;
            if (what == 0) {
                foretold = skill(r.player, -1, week);
            } else if (what == 1) {
                foretold = Frac.of(s.bets.getOrDefault(new Key(r.player, week, 0), 0), 100);
            } else if (what == 2) {
                int latest = of(r.player, 0, week - 1).stream().mapToInt(Round::week).max().orElse(-1);
                foretold = mean(of(r.player, latest, latest), -1);
            }
            long hundredths = foretold == null ? 0 : foretold.times(100).cut();
            together += what == 4 ? 1 : Math.abs(off(r, -1).times(100).cut() - hundredths);
        }
        return (int) together;
    }

    private Frac worth(int hour, int from, int to) {
        long up = 0;
        long low = 0;
        for (int week = from; week <= to; week++) {
            for (int day = 0; day < 4; day++) {
                List<Round> ahead = on(week, day).stream().filter(r -> r.hour < hour).toList();
                List<Round> later = on(week, day).stream().filter(r -> r.hour >= hour).toList();
                up += (long) ahead.size() * later.stream().mapToInt(r -> r.value(-1)).sum();
                up -= (long) later.size() * ahead.stream().mapToInt(r -> r.value(-1)).sum();
                low += (long) ahead.size() * later.size();
            }
        }
        return low == 0 ? null : Frac.of(up, low);
    }

    long worth(int hour, int from, int to, int what) {
        Frac worth = in(hour, 1, 11) && weeks(from, to) && in(what, 0, 1) ? worth(hour, from, to) : null;
        return worth == null ? -1000000000L : worth.pick(what);
    }

    long cost(int p, int hour, int from, int to, int what) {
        Frac worth = in(hour, 1, 11) && weeks(from, to) && in(what, 0, 1) ? worth(hour, from, to) : null;
        if (worth == null || !player(p)) {
            return -1000000000L;
        }
        long later = all(from, to).stream().filter(r -> r.hour >= hour).count();
        long ownLater = of(p, from, to).stream().filter(r -> r.hour >= hour).count();
        Frac due = Frac.of(of(p, from, to).size() * later, all(from, to).size());
        return worth.times(Frac.of(ownLater, 1).minus(due)).pick(what);
    }

    private long[] pressed(int p) {
        long[] answer = new long[3];
        for (int week = 0; week < 40; week++) {
            if (of(p, week, week).size() == 4) {
                Frac others = off(at(p, week, 0), -1).plus(off(at(p, week, 1), -1)).plus(off(at(p, week, 2), -1));
                answer[0] += off(at(p, week, 3), -1).times(3).compareTo(others) < 0 ? 1 : 0;
                answer[1]++;
            }
        }
        BigInteger[] ways = new BigInteger[42];
        java.util.Arrays.fill(ways, BigInteger.ZERO);
        ways[0] = BigInteger.ONE;
        for (int i = 0; i < answer[1]; i++) {
            for (int yes = 40; yes > 0; yes--) {
                ways[yes] = ways[yes].add(ways[yes - 1]);
            }
        }
        for (int yes = (int) answer[0]; yes <= answer[1]; yes++) {
            answer[2] += ways[yes].longValueExact();
        }
        return answer;
    }

    long pressed(int p, int what) {
        return player(p) && in(what, 0, 2) ? pressed(p)[what] : -1;
    }

    int other(int what) {
        int other = -1;
        int looked = 0;
        Frac least = null;
        for (int p = 0; p < s.gifts.size(); p++) {
            long[] pressed = pressed(p);
            if (pressed[1] > 0) {
                looked++;
                Frac part = Frac.of(pressed[2], 1L << pressed[1]);
                if (least == null || part.compareTo(least) < 0) {
                    least = part;
                    other = p;
                }
            }
        }
        if (least == null || !in(what, 0, 2)) {
            return -1;
        }
        return what == 0 ? other : what == 1 ? looked : (int) Math.min(100, least.times(100L * looked).cut());
    }

    long beside(int p, int what) {
        if (!player(p) || !in(what, 0, 1)) {
            return -1000000000000L;
        }
        List<Round> others = new ArrayList<>();
        for (Round own : of(p, 0, 39)) {
            on(own.week, own.day).stream().filter(r -> r.player != p && r.hour == own.hour).forEach(others::add);
        }
        Frac mean = mean(others, -1);
        return mean == null ? -1000000000000L : mean.pick(what);
    }

    int image() {
        if (images.size() == 3) {
            return refuse(1);
        }
        images.add(s.copy());
        return images.size() - 1;
    }

    boolean restore(int image) {
        if (!in(image, 0, images.size() - 1)) {
            refuse(0);
            return false;
        }
        s = images.get(image).copy();
        return true;
    }

    int count(int what) {
        if (in(what, 10, 49)) {
            return s.weeks.getOrDefault(what - 10, -1);
        }
        return switch (what) {
            case 0 -> s.gifts.size();
            case 1 -> s.courses.size();
            case 2 -> s.rounds.size();
            case 3 -> tape.length();
            case 4 -> images.size();
            case 5, 6, 7 -> refused[what - 5];
            default -> -1;
        };
    }
}
