import java.lang.reflect.Method;
import java.math.BigInteger;
import java.util.ArrayList;
import java.util.Arrays;
import java.util.Comparator;
import java.util.List;
import java.util.Random;
import java.util.regex.Matcher;
import java.util.regex.Pattern;

/**
 * Runs of drawn calls against a slow model, written apart from the program and as the document's
 * words say: it keeps only what happened and derives all else from that anew at each call.
 */
public final class ModelTest {
    private static final int RUNS = 700;
    private static final int CALLS = 512;

    record Team(int kind, int strength, int tells) { }

    record Match(int first, int other, int worth) {
        boolean has(int side) {
            return side == first || side == other;
        }
    }

    record Past(int winner, int given, int firstEffort, int otherEffort) { }

    /** What has a league, and all that follows from it. */
    static final class World {
        List<Team> teams = new ArrayList<>();
        List<Match> matches = new ArrayList<>();
        List<Past> past = new ArrayList<>();
        List<Integer> spots = new ArrayList<>(java.util.Collections.nCopies(10, -1));
        int law = 1;
        int z = 1;
        Integer effortTold = null;
        int effortTeller = -1;
        int effortGame = -1;

        World copied() {
            World w = new World();
            w.teams = new ArrayList<>(teams);
            w.matches = new ArrayList<>(matches);
            w.past = new ArrayList<>(past);
            w.spots = new ArrayList<>(spots);
            w.law = law;
            w.z = z;
            w.effortTold = effortTold;
            w.effortTeller = effortTeller;
            w.effortGame = effortGame;
            return w;
        }

        boolean over() {
            return past.size() == matches.size();
        }

        int points(int side) {
            int sum = 0;
            for (int g = 0; g < past.size(); g++) {
                if (past.get(g).given == side) {
                    sum += matches.get(g).worth;
                }
            }
            return sum;
        }

        List<Integer> playedBy(int side) {
            List<Integer> all = new ArrayList<>();
            for (int g = 0; g < past.size(); g++) {
                if (matches.get(g).has(side)) {
                    all.add(g);
                }
            }
            return all;
        }

        boolean barred(int side) {
            List<Integer> mine = playedBy(side);
            if (mine.size() < law) {
                return false;
            }
            return mine.subList(mine.size() - law, mine.size()).stream().allMatch(g -> past.get(g).given == side);
        }

        boolean tired(int side) {
            List<Integer> mine = playedBy(side);
            if (mine.isEmpty()) {
                return false;
            }
            int g = mine.get(mine.size() - 1);
            return (matches.get(g).first == side ? past.get(g).firstEffort : past.get(g).otherEffort) == 3;
        }

        int asSide() {
            return 2;
        }

        int asSpare(int side) {
            return barred(side) ? 1 : asSide();
        }

        int effort(int side) {
            int now = past.size();
            if (effortTold != null && effortGame == now && effortTeller == side) {
                return effortTold;
            }
            Match m = matches.get(now);
            Team t = teams.get(side);
            int rival = m.first + m.other - side;
            if (t.kind == 0) {
                return asSide();
            } else if (t.kind == 1) {
                return 3;
            } else if (t.kind == 2) {
                return asSpare(side);
            } else if (t.kind == 3) {
                return barred(side) ? 0 : barred(rival) ? 3 : asSpare(side);
            } else if (t.kind == 4) {
                for (int g = now + 1; g < matches.size(); g++) {
                    if (matches.get(g).has(side)) {
                        return !barred(side) && matches.get(g).worth > m.worth ? 0 : asSpare(side);
                    }
                }
                return asSpare(side);
            } else if (t.kind == 5) {
                return m.worth < t.tells ? 0 : 3;
            }
            return t.tells > 3 ? 3 : t.tells;
        }

        int force(int side) {
            int s = teams.get(side).strength;
            if (tired(side) && s > 1) {
                s--;
            }
            return s * effort(side);
        }

        int chance() {
            Match m = matches.get(past.size());
            int a = force(m.first);
            int b = force(m.other);
            return a == 0 && b == 0 ? 5 : 10 * a / (a + b);
        }

        int win(int winner) {
            Match m = matches.get(past.size());
            int rival = m.first + m.other - winner;
            int given;
            if (!barred(winner)) {
                given = winner;
            } else if (!barred(rival)) {
                given = rival;
            } else if (points(m.first) != points(m.other)) {
                given = points(m.first) < points(m.other) ? m.first : m.other;
            } else {
                given = m.first < m.other ? m.first : m.other;
            }
            past.add(new Past(winner, given, effort(m.first), effort(m.other)));
            return given;
        }

        int draw() {
            z = z * 1103515245 + 12345;
            return z >>> 8;
        }

        int play() {
            Match m = matches.get(past.size());
            return win(draw() % 10 < chance() ? m.first : m.other);
        }

        int leader() {
            int best = 0;
            for (int s = 1; s < teams.size(); s++) {
                if (points(s) > points(best)) {
                    best = s;
                }
            }
            return best;
        }
    }

    record Way(World end, BigInteger weight) { }

    static List<Way> waysOf(World start) {
        int left = start.matches.size() - start.past.size();
        List<Way> all = new ArrayList<>();
        for (int row = 0; row < 1 << left; row++) {
            World w = start.copied();
            BigInteger weight = BigInteger.ONE;
            for (int i = 0; i < left; i++) {
                Match m = w.matches.get(w.past.size());
                int chance = w.chance();
                boolean firstWins = (row >> i & 1) == 0;
                weight = weight.multiply(BigInteger.valueOf(firstWins ? chance : 10 - chance));
                w.win(firstWins ? m.first : m.other);
            }
            all.add(new Way(w, weight));
        }
        return all;
    }

    interface Worth {
        long of(World end);
    }

    static BigInteger sum(List<Way> ways, Worth worth) {
        BigInteger sum = BigInteger.ZERO;
        for (Way way : ways) {
            sum = sum.add(way.weight.multiply(BigInteger.valueOf(worth.of(way.end))));
        }
        return sum;
    }

    static BigInteger sum(World world, Worth worth) {
        return sum(waysOf(world), worth);
    }

    static BigInteger all(World world) {
        return BigInteger.TEN.pow(world.matches.size() - world.past.size());
    }

    /** The public face, as the document tells it. */
    static final class Model {
        static final int BEYOND = -1000001;
        static final int FULL = -1000002;
        static final int KIND = -1000003;
        static final int NONE = -1000004;
        static final int STATE = -1000005;
        static final int MISSING = -1000006;
        static final int SIZE = -1000007;
        World now = new World();
        World kept = null;
        List<Integer> tape = new ArrayList<>();
        long[][] sheets = new long[4][];
        int[] bits = new int[4];

        boolean noSide(int s) {
            return s < 0 || s >= now.teams.size();
        }

        boolean noGame(int g) {
            return g < 0 || g >= now.matches.size();
        }

        static boolean out(int v, int least, int most) {
            return v < least || v > most;
        }

        int side(int kind, int strength) {
            if (out(kind, 0, 6) || out(strength, 1, 9)) {
                return BEYOND;
            }
            if (now.teams.size() == 6) {
                return FULL;
            }
            now.teams.add(new Team(kind, strength, 0));
            return now.teams.size() - 1;
        }

        int sideOf(int side, int what) {
            if (noSide(side) || out(what, 0, 7)) {
                return BEYOND;
            }
            Team t = now.teams.get(side);
            int given = 0;
            for (Past p : now.past) {
                given += p.given == side ? 1 : 0;
            }
            int[] answers = {t.kind, t.strength, t.tells, now.points(side), now.barred(side) ? 1 : 0,
                now.tired(side) ? 1 : 0, now.playedBy(side).size(), given};
            return answers[what];
        }

        int change(int side, int what, int v) {
            if (noSide(side) || out(what, 0, 2)) {
                return BEYOND;
            }
            int[] lows = {0, 1, 0};
            int[] highs = {6, 9, 9};
            if (out(v, lows[what], highs[what])) {
                return BEYOND;
            }
            Team t = now.teams.get(side);
            int[] is = {t.kind, t.strength, t.tells};
            int was = is[what];
            is[what] = v;
            now.teams.set(side, new Team(is[0], is[1], is[2]));
            return was;
        }

        int game(int first, int other, int worth) {
            if (noSide(first) || noSide(other) || first == other || out(worth, 1, 9)) {
                return BEYOND;
            }
            if (now.matches.size() == 8) {
                return FULL;
            }
            now.matches.add(new Match(first, other, worth));
            return now.matches.size() - 1;
        }

        int gameOf(int game, int what) {
            if (noGame(game) || out(what, 0, 4)) {
                return BEYOND;
            }
            Match m = now.matches.get(game);
            if (what < 3) {
                return new int[] {m.first, m.other, m.worth}[what];
            }
            if (game >= now.past.size()) {
                return NONE;
            }
            return what == 3 ? now.past.get(game).winner : now.past.get(game).given;
        }

        int swap(int one, int other) {
            if (noGame(one) || noGame(other)) {
                return BEYOND;
            }
            if (Math.min(one, other) < now.past.size()) {
                return STATE;
            }
            java.util.Collections.swap(now.matches, one, other);
            return 1;
        }

        int law(int v) {
            if (out(v, 1, 3)) {
                return BEYOND;
            }
            int was = now.law;
            now.law = v;
            return was;
        }

        int feed(int bytes, int n) {
            if (out(n, 1, 4)) {
                return BEYOND;
            }
            if (tape.size() + n > 120) {
                return FULL;
            }
            byte[] four = java.nio.ByteBuffer.allocate(4).putInt(bytes).array();
            for (int i = 4 - n; i < 4; i++) {
                tape.add(four[i] & 255);
            }
            return tape.size();
        }

        int wipe() {
            int was = tape.size();
            tape.clear();
            return was;
        }

        int text() {
            StringBuilder all = new StringBuilder();
            for (int b : tape) {
                all.append((char) b);
            }
            tape.clear();
            World then = now.copied();
            TextOfModel text = new TextOfModel(all.toString(), then);
            int answer = text.read();
            if (answer >= 0) {
                now = then;
            }
            return answer;
        }

        int next(int what) {
            if (out(what, 0, 4)) {
                return BEYOND;
            }
            if (now.over()) {
                return NONE;
            }
            Match m = now.matches.get(now.past.size());
            return new int[] {now.effort(m.first), now.effort(m.other), now.chance(),
                now.force(m.first), now.force(m.other)}[what];
        }

        int win(int side) {
            if (now.over()) {
                return NONE;
            }
            if (!now.matches.get(now.past.size()).has(side)) {
                return BEYOND;
            }
            return now.win(side);
        }

        int play() {
            return now.over() ? NONE : now.play();
        }

        int anew() {
            int was = now.past.size();
            now.past.clear();
            return was;
        }

        int leads() {
            return now.teams.isEmpty() ? NONE : now.leader();
        }

        int place(int side) {
            if (noSide(side)) {
                return BEYOND;
            }
            int better = 0;
            for (int s = 0; s < now.teams.size(); s++) {
                better += now.points(s) > now.points(side) ? 1 : 0;
            }
            return better + 1;
        }

        long told(BigInteger sum, int part) {
            BigInteger below = all(now);
            BigInteger common = sum.gcd(below);
            return (part == 0 ? sum : below).divide(common).longValueExact();
        }

        long gets(int game, int side, int part) {
            if (noGame(game) || noSide(side) || out(part, 0, 1)) {
                return BEYOND;
            }
            return told(sum(now, end -> end.past.get(game).given == side ? 1 : 0), part);
        }

        long first(int side, int part) {
            if (noSide(side) || out(part, 0, 1)) {
                return BEYOND;
            }
            return told(sum(now, end -> end.leader() == side ? 1 : 0), part);
        }

        long mean(int side, int part) {
            if (noSide(side) || out(part, 0, 1)) {
                return BEYOND;
            }
            return told(sum(now, end -> end.points(side)), part);
        }

        long least(int side, int n, int part) {
            if (noSide(side) || out(n, 0, 99) || out(part, 0, 1)) {
                return BEYOND;
            }
            return told(sum(now, end -> end.points(side) >= n ? 1 : 0), part);
        }

        int most(int side) {
            if (noSide(side)) {
                return BEYOND;
            }
            return waysOf(now).stream().mapToInt(way -> way.end.points(side)).max().getAsInt();
        }

        int ways() {
            return (int) waysOf(now).stream().filter(way -> way.weight.signum() > 0).count();
        }

        long moved(int game, int part) {
            if (noGame(game) || out(part, 0, 1)) {
                return BEYOND;
            }
            return told(sum(now, end -> end.past.get(game).given != end.past.get(game).winner ? 1 : 0), part);
        }

        int greatest(int from, List<BigInteger> sums) {
            int at = 0;
            for (int i = 1; i < sums.size(); i++) {
                if (sums.get(i).compareTo(sums.get(at)) > 0) {
                    at = i;
                }
            }
            return from + at;
        }

        int best(int side) {
            if (noSide(side)) {
                return BEYOND;
            }
            if (now.over()) {
                return NONE;
            }
            if (!now.matches.get(now.past.size()).has(side)) {
                return STATE;
            }
            List<BigInteger> sums = new ArrayList<>();
            for (int e = 0; e <= 3; e++) {
                World w = now.copied();
                w.effortTold = e;
                w.effortTeller = side;
                w.effortGame = now.past.size();
                sums.add(sum(w, end -> end.points(side)));
            }
            return greatest(0, sums);
        }

        int kindFor(int side) {
            if (noSide(side)) {
                return BEYOND;
            }
            List<BigInteger> sums = new ArrayList<>();
            for (int k = 0; k <= 6; k++) {
                World w = now.copied();
                w.teams.set(side, new Team(k, w.teams.get(side).strength, w.teams.get(side).tells));
                sums.add(sum(w, end -> end.points(side)));
            }
            return greatest(0, sums);
        }

        int tellsFor(int side) {
            if (noSide(side)) {
                return BEYOND;
            }
            List<BigInteger> sums = new ArrayList<>();
            for (int t = 0; t <= 9; t++) {
                World w = now.copied();
                w.teams.set(side, new Team(w.teams.get(side).kind, w.teams.get(side).strength, t));
                sums.add(sum(w, end -> end.points(side)));
            }
            return greatest(0, sums);
        }

        List<List<Integer>> orders(List<Integer> of) {
            if (of.isEmpty()) {
                return List.of(List.of());
            }
            List<List<Integer>> all = new ArrayList<>();
            for (int head : of) {
                List<Integer> rest = new ArrayList<>(of);
                rest.remove(Integer.valueOf(head));
                for (List<Integer> tail : orders(rest)) {
                    List<Integer> whole = new ArrayList<>(List.of(head));
                    whole.addAll(tail);
                    all.add(whole);
                }
            }
            return all;
        }

        int order(int side) {
            if (noSide(side)) {
                return BEYOND;
            }
            if (now.over()) {
                return NONE;
            }
            if (now.matches.size() - now.past.size() > 4) {
                return SIZE;
            }
            List<Integer> left = new ArrayList<>();
            for (int g = now.past.size(); g < now.matches.size(); g++) {
                left.add(g);
            }
            List<List<Integer>> orders = orders(left);
            List<BigInteger> sums = new ArrayList<>();
            for (List<Integer> order : orders) {
                World w = now.copied();
                for (int i = 0; i < order.size(); i++) {
                    w.matches.set(now.past.size() + i, now.matches.get(order.get(i)));
                }
                sums.add(sum(w, end -> end.leader() == side ? 1 : 0));
            }
            StringBuilder digits = new StringBuilder();
            orders.get(greatest(0, sums)).forEach(digits::append);
            return Integer.parseInt(digits.toString());
        }

        World underLaw(int law) {
            World w = now.copied();
            w.law = law;
            return w;
        }

        int lawFor(int side) {
            if (noSide(side)) {
                return BEYOND;
            }
            List<BigInteger> sums = new ArrayList<>();
            for (int v = 1; v <= 3; v++) {
                sums.add(sum(underLaw(v), end -> end.points(side)));
            }
            return greatest(1, sums);
        }

        int gains() {
            if (now.teams.isEmpty()) {
                return NONE;
            }
            List<Way> one = waysOf(underLaw(1));
            List<Way> three = waysOf(underLaw(3));
            List<BigInteger> gained = new ArrayList<>();
            for (int s = 0; s < now.teams.size(); s++) {
                int side = s;
                gained.add(sum(one, end -> end.points(side)).subtract(sum(three, end -> end.points(side))));
            }
            return greatest(0, gained);
        }

        int wronged() {
            List<Way> ways = waysOf(now);
            int answer = 0;
            for (int g = now.past.size(); g < now.matches.size(); g++) {
                int game = g;
                Match m = now.matches.get(g);
                List<Integer> two = new ArrayList<>(List.of(m.first, m.other));
                two.sort(Comparator.comparingInt(s -> -now.teams.get(s).strength));
                if (now.teams.get(m.first).strength != now.teams.get(m.other).strength) {
                    BigInteger strong = sum(ways, end -> end.past.get(game).given == two.get(0) ? 1 : 0);
                    BigInteger weak = sum(ways, end -> end.past.get(game).given == two.get(1) ? 1 : 0);
                    answer += strong.compareTo(weak) < 0 ? 1 : 0;
                }
            }
            return answer;
        }

        int tries(int side, int n) {
            if (noSide(side) || out(n, 1, 40)) {
                return BEYOND;
            }
            int answer = 0;
            for (int i = 0; i < n; i++) {
                World w = now.copied();
                while (!w.over()) {
                    w.play();
                }
                now.z = w.z;
                answer += w.leader() == side ? 1 : 0;
            }
            return answer;
        }

        int seed(int v) {
            int was = now.z;
            now.z = v;
            return was;
        }

        int hold(int spot, int side) {
            if (out(spot, 0, 9) || side != -1 && noSide(side)) {
                return BEYOND;
            }
            now.spots.set(spot, side);
            return 1;
        }

        int as(int spot, int kind) {
            if (out(spot, 0, 9) || out(kind, 0, 6)) {
                return BEYOND;
            }
            int held = now.spots.get(spot);
            if (held == -1) {
                return MISSING;
            }
            int[] above = {-1, 0, 0, 2, 2, 1, 0};
            for (int k = now.teams.get(held).kind; k >= 0; k = above[k]) {
                if (k == kind) {
                    return held;
                }
            }
            return KIND;
        }

        int sheet(int s, int b, int n) {
            if (out(s, 0, 3) || !List.of(0, 8, 16, 32).contains(b)) {
                return BEYOND;
            }
            if (n < 0) {
                return SIZE;
            }
            if (n > 40) {
                return BEYOND;
            }
            bits[s] = b;
            sheets[s] = b == 0 ? null : new long[n];
            return b == 0 ? 0 : n;
        }

        int write(int s, int i, int v) {
            if (out(s, 0, 3)) {
                return BEYOND;
            }
            if (sheets[s] == null) {
                return MISSING;
            }
            if (out(i, 0, sheets[s].length - 1)) {
                return BEYOND;
            }
            long range = 1L << bits[s];
            long low = Math.floorMod((long) v, range);
            sheets[s][i] = low >= range / 2 ? low - range : low;
            return 1;
        }

        int copy(int s, int from, int t, int to, int n) {
            if (out(s, 0, 3) || out(t, 0, 3)) {
                return BEYOND;
            }
            if (sheets[s] == null || sheets[t] == null) {
                return MISSING;
            }
            if (bits[s] != bits[t]) {
                return KIND;
            }
            if (from < 0 || to < 0 || n < 0 || (long) from + n > sheets[s].length || (long) to + n > sheets[t].length) {
                return BEYOND;
            }
            long[] were = sheets[s].clone();
            for (int i = 0; i < n; i++) {
                sheets[t][to + i] = were[from + i];
            }
            return n;
        }

        int load(int s) {
            if (out(s, 0, 3)) {
                return BEYOND;
            }
            if (sheets[s] == null) {
                return MISSING;
            }
            int answer = 0;
            for (long v : sheets[s]) {
                if (now.over() || !now.matches.get(now.past.size()).has((int) v)) {
                    break;
                }
                now.win((int) v);
                answer++;
            }
            return answer;
        }

        int judge(int s) {
            if (out(s, 0, 3)) {
                return BEYOND;
            }
            if (sheets[s] == null) {
                return MISSING;
            }
            World w = now.copied();
            int given = -1;
            for (int i = 0; i < sheets[s].length; i++) {
                int v = (int) sheets[s][i];
                if (i % 2 == 1) {
                    if (v != given) {
                        return 1 + i;
                    }
                } else if (w.over() || !w.matches.get(w.past.size()).has(v)) {
                    return 1 + i;
                } else {
                    given = w.win(v);
                }
            }
            return sheets[s].length % 2 == 1 ? 1 + sheets[s].length : 0;
        }

        int image() {
            kept = now.copied();
            return 1;
        }

        int undo() {
            if (kept == null) {
                return NONE;
            }
            now = kept.copied();
            return now.past.size();
        }

        int tear() {
            int answer = kept == null ? 0 : 1;
            kept = null;
            return answer;
        }

        int count(int what) {
            if (out(what, 0, 6)) {
                return BEYOND;
            }
            return new int[] {now.teams.size(), now.matches.size(), now.past.size(), now.law, tape.size(), now.z,
                (int) now.spots.stream().filter(s -> s != -1).count()}[what];
        }
    }

    /** Reads by first cutting all the text into tokens, then by what may stand next. */
    static final class TextOfModel {
        record Token(int place, String text) { }

        static final List<String> KINDS = List.of("side", "try", "spare", "choose", "feed", "bar", "told");
        static final Pattern TOKEN = Pattern.compile(" *([a-z]+|[0-9]+|[^ ])", Pattern.DOTALL);
        final List<Token> tokens = new ArrayList<>();
        final World world;
        int at = 0;

        static final class Fault extends Exception {
            private static final long serialVersionUID = 1;
            final int place;

            Fault(int place) {
                this.place = place;
            }
        }

        TextOfModel(String all, World world) {
            Matcher m = TOKEN.matcher(all);
            while (m.find()) {
                tokens.add(new Token(m.start(1), m.group(1)));
            }
            tokens.add(new Token(all.length(), ""));
            this.world = world;
        }

        boolean here(String text) {
            return tokens.get(at).text.equals(text);
        }

        Fault fault() {
            return new Fault(tokens.get(at).place);
        }

        int number(int least, int most, int butNot) throws Fault {
            String t = tokens.get(at).text;
            if (!t.matches("[0-9]+")) {
                throw fault();
            }
            BigInteger v = new BigInteger(t);
            if (v.compareTo(BigInteger.valueOf(least)) < 0 || v.compareTo(BigInteger.valueOf(most)) > 0
                    || v.intValueExact() == butNot) {
                throw fault();
            }
            at++;
            return v.intValueExact();
        }

        int perhaps(String word, int least, int most, int without) throws Fault {
            if (!here(word)) {
                return without;
            }
            at++;
            return number(least, most, -1);
        }

        void item() throws Fault {
            String word = tokens.get(at).text;
            if (KINDS.contains(word) && world.teams.size() < 6) {
                at++;
                int strength = number(1, 9, -1);
                world.teams.add(new Team(KINDS.indexOf(word), strength, perhaps("tells", 0, 9, 0)));
            } else if (word.equals("game") && world.matches.size() < 8) {
                at++;
                int first = number(0, world.teams.size() - 1, -1);
                int other = number(0, world.teams.size() - 1, first);
                world.matches.add(new Match(first, other, perhaps("worth", 1, 9, 1)));
            } else if (word.equals("law")) {
                at++;
                world.law = number(1, 3, -1);
            } else {
                throw fault();
            }
        }

        int read() {
            try {
                int items = 1;
                item();
                while (here(";")) {
                    at++;
                    item();
                    items++;
                }
                if (!here("")) {
                    throw fault();
                }
                return items;
            } catch (Fault f) {
                return -1 - f.place;
            }
        }
    }

    // ---- drawing the calls

    private final Random random;
    private final TwiceRunning program = new TwiceRunning();
    private final Model model = new Model();
    private final int[] findings = new int[7];
    private final StringBuilder story = new StringBuilder();
    private int calls = 0;

    private ModelTest(long seed) {
        random = new Random(seed);
    }

    private static final List<Method> FACE = face();

    private static List<Method> face() {
        List<Method> all = new ArrayList<>(Arrays.asList(TwiceRunning.class.getDeclaredMethods()));
        all.removeIf(m -> !java.lang.reflect.Modifier.isPublic(m.getModifiers()));
        all.sort(Comparator.comparing(Method::getName));
        return all;
    }

    private static Method named(String name) {
        return FACE.stream().filter(m -> m.getName().equals(name)).findFirst().orElseThrow();
    }

    private long dueOf(Method method, Object[] args) throws Exception {
        if (method.getName().equals("status")) {
            int which = (Integer) args[0];
            if (which < -1 || which > 6) {
                return Model.BEYOND;
            }
            return which == -1 ? Arrays.stream(findings).sum() : findings[which];
        }
        Method twin = Model.class.getDeclaredMethod(method.getName(), method.getParameterTypes());
        return ((Number) twin.invoke(model, args)).longValue();
    }

    private boolean call(String name, int... given) throws Exception {
        calls++;
        Method method = named(name);
        Object[] args = new Object[given.length];
        for (int i = 0; i < given.length; i++) {
            args[i] = given[i];
        }
        long due = dueOf(method, args);
        long got = ((Number) method.invoke(program, args)).longValue();
        boolean tellsZ = name.equals("seed") || name.equals("count") && given[0] == 5;
        if (due <= -1000001 && due >= -1000007 && !tellsZ) {
            findings[(int) (-1000001 - due)]++;
        }
        story.append(name).append(Arrays.toString(given)).append(" -> ").append(got).append('\n');
        if (got != due) {
            System.out.println(story);
            System.out.println("due was " + due);
        }
        return got == due;
    }

    private int below(int n) {
        return random.nextInt(n);
    }

    private int oneOf(int... values) {
        return values[below(values.length)];
    }

    /** Mostly from least to most, now and then beside it or far off. */
    private int about(int least, int most) {
        int chance = below(40);
        if (chance == 0) {
            return oneOf(least - 1, most + 1);
        }
        if (chance == 1) {
            return oneOf(Integer.MIN_VALUE, Integer.MAX_VALUE, -1, random.nextInt(), 1 << 30);
        }
        return most < least ? least : least + below(most - least + 1);
    }

    private int aSide() {
        return about(0, model.now.teams.size() - 1);
    }

    private int aGame() {
        return about(0, model.now.matches.size() - 1);
    }

    private int aPlayer() {
        if (model.now.over() || below(8) == 0) {
            return aSide();
        }
        Match m = model.now.matches.get(model.now.past.size());
        return below(2) == 0 ? m.first : m.other;
    }

    private String blanks() {
        return " ".repeat(oneOf(0, 0, 1, 1, 1, 2));
    }

    private String drawnItem() {
        String kind = TextOfModel.KINDS.get(below(7));
        String b = blanks();
        int sides = Math.max(2, model.now.teams.size());
        switch (below(5)) {
            case 0:
                return b + kind + blanks() + about(1, 9) + (below(2) == 0 ? "" : blanks() + "tells" + blanks() + about(0, 9));
            case 1:
                return b + kind + blanks() + "00" + about(1, 9);
            case 2:
                return b + "law" + blanks() + about(1, 3);
            default:
                return b + "game" + blanks() + below(sides) + " " + blanks() + below(sides)
                    + (below(2) == 0 ? "" : blanks() + "worth" + blanks() + about(1, 9));
        }
    }

    private String drawnText() {
        StringBuilder all = new StringBuilder(drawnItem());
        for (int i = oneOf(0, 0, 1, 2, 3); i > 0; i--) {
            all.append(blanks()).append(';').append(drawnItem());
        }
        all.append(blanks());
        if (below(4) == 0 && all.length() > 0) {
            int at = below(all.length());
            String other = List.of("", " ", ";", "a", "7", "A", "\u00e9", "\u0000", "{", "`", "/", ":", "law", "worth")
                .get(below(14));
            all.replace(at, at + below(2), other);
        }
        return all.toString();
    }

    private boolean feedText(String text) throws Exception {
        for (int i = 0; i < text.length();) {
            int n = Math.min(1 + below(4), text.length() - i);
            int number = random.nextInt();
            for (int k = 0; k < n; k++) {
                number = number << 8 | text.charAt(i + k);
            }
            if (!call("feed", number, n)) {
                return false;
            }
            i += n;
        }
        return call("text");
    }

    private boolean writeRow() throws Exception {
        int s = below(4);
        boolean right = call("sheet", s, oneOf(8, 8, 16, 32), about(0, 17));
        World w = model.now.copied();
        boolean both = below(2) == 0;
        int size = model.sheets[s] == null ? 0 : model.sheets[s].length;
        for (int i = 0; i < size && right && !w.over(); i++) {
            Match m = w.matches.get(w.past.size());
            int winner = below(25) == 0 ? about(0, 5) : below(2) == 0 ? m.first : m.other;
            right = call("write", s, i, winner + oneOf(0, 0, 0, 256, 65536));
            if (!m.has(winner)) {
                break;
            }
            int given = w.win(winner);
            if (both && i + 1 < size && right) {
                i++;
                right = call("write", s, i, below(25) == 0 ? aSide() : given);
            }
        }
        return right && call(both ? "judge" : "load", s) && call("judge", s);
    }

    private boolean drawnCall() throws Exception {
        switch (below(46)) {
            case 0: return call("side", about(0, 6), about(1, 9));
            case 1: case 2: case 3: return call("sideOf", aSide(), about(0, 7));
            case 4: case 5: case 6: return call("change", aSide(), oneOf(0, 0, 1, 2, 2, 3, -1), about(0, 9));
            case 7: return call("game", aSide(), aSide(), about(1, 9));
            case 8: case 9: return call("gameOf", aGame(), about(0, 4));
            case 10: return call("swap", aGame(), aGame());
            case 11: return call("law", about(1, 3));
            case 12: return call("feed", random.nextInt(), about(1, 4));
            case 13: return call("wipe");
            case 14: return feedText(drawnText());
            case 15: return call("next", about(0, 4));
            case 16: case 17: case 18: return call("win", aPlayer());
            case 19: case 20: return call("play");
            case 21: return call(below(3) == 0 ? "anew" : "leads");
            case 22: return call("place", aSide());
            case 23: return call("gets", aGame(), aSide(), about(0, 1));
            case 24: return call("first", aSide(), about(0, 1));
            case 25: return call("mean", aSide(), about(0, 1));
            case 26: return call("least", aSide(), below(3) == 0 ? about(0, 99) : about(0, 20), about(0, 1));
            case 27: return call("most", aSide());
            case 28: return call("ways");
            case 29: return call("moved", aGame(), about(0, 1));
            case 30: return call("best", aPlayer());
            case 31: return call("kindFor", aSide());
            case 32: return call("tellsFor", aSide());
            case 33: return call("order", aSide());
            case 34: return call("lawFor", aSide());
            case 35: return call("gains");
            case 36: return call("wronged");
            case 37: return call("tries", aSide(), about(1, 40));
            case 38: return call("seed", oneOf(random.nextInt(), -1000001, 0, 1));
            case 39: return call("hold", about(0, 9), below(3) == 0 ? -1 : aSide());
            case 40: return call("as", about(0, 9), about(0, 6));
            case 41: return call("sheet", about(0, 3), oneOf(0, 8, 16, 32, 32, 7), about(0, 40));
            case 42: return call("write", about(0, 3), about(0, 12), random.nextInt()) && writeRow();
            case 43: return call("copy", about(0, 3), about(0, 6), about(0, 3), about(0, 6), about(0, 5));
            case 44: return call(oneOf(0, 1) == 0 ? "load" : "judge", about(0, 3));
            default: return imageCall();
        }
    }

    private boolean imageCall() throws Exception {
        switch (below(6)) {
            case 0: return call("image");
            case 1: return call("undo");
            case 2: return call(below(3) == 0 ? "tear" : "image");
            case 3: return call("status", about(-1, 6));
            default: return call("count", about(0, 6));
        }
    }

    /** Leagues with many games make the model slow; few runs have them. */
    private boolean begin(int games) throws Exception {
        boolean right = true;
        int sides = 2 + below(5);
        for (int s = 0; s < sides && right; s++) {
            right = call("side", below(7), 1 + below(9)) && call("change", s, 2, below(10));
        }
        for (int g = 0; g < games && right; g++) {
            int first = below(sides);
            right = call("game", first, (first + 1 + below(sides - 1)) % sides, 1 + below(9));
        }
        return right;
    }

    private boolean run() throws Exception {
        int games = below(12) == 0 ? below(9) : below(5);
        boolean right = below(10) == 0 || begin(games);
        int most = games > 5 ? 60 : 200;
        while (right && calls < Math.min(most, CALLS - 60)) {
            right = drawnCall();
        }
        for (int which = -1; which <= 6 && right; which++) {
            right = call("status", which);
        }
        return right;
    }

    public static void main(String[] args) throws Exception {
        long from = args.length > 0 ? Long.parseLong(args[0]) : 0;
        long runs = args.length > 1 ? Long.parseLong(args[1]) : RUNS;
        int wrong = 0;
        long calls = 0;
        for (long seed = from; seed < from + runs && wrong < 3; seed++) {
            ModelTest test = new ModelTest(seed);
            if (!test.run()) {
                System.out.println("run " + seed + " is wrong");
                wrong++;
            }
            calls += test.calls;
        }
        System.out.println(calls + " calls against the model, " + wrong + " wrong runs");
        if (wrong != 0) {
            System.exit(1);
        }
    }
}
