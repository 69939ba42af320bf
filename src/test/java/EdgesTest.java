import java.util.ArrayList;
import java.util.HashSet;
import java.util.List;
import java.util.Set;
import java.util.function.Supplier;
import java.util.function.ToLongFunction;

/**
 * Each sentence of the document that names an edge (too small, too large, empty, full, none, all,
 * a wrap-around, a refused call) with a test of its own. What is wrong is told with its sentence.
 */
public final class EdgesTest {
    private static final int BEYOND = -1000001;
    private static final int FULL = -1000002;
    private static final int KIND = -1000003;
    private static final int NONE = -1000004;
    private static final int STATE = -1000005;
    private static final int MISSING = -1000006;
    private static final int SIZE = -1000007;
    private static final int SIDE = 0;
    private static final int TRY = 1;
    private static final int SPARE = 2;
    private static final int CHOOSE = 3;
    private static final int FEED = 4;
    private static final int BAR = 5;
    private static final int TOLD = 6;
    private static final int LEAST_INT = Integer.MIN_VALUE;
    private static final int MOST_INT = Integer.MAX_VALUE;
    private static final int[] KINDS = {SIDE, TRY, SPARE, CHOOSE, FEED, BAR, TOLD};

    private static int wrong = 0;
    private static final Set<String> SENTENCES = new HashSet<>();
    private static int checks = 0;
    private static String sentence = "";

    private static void says(String words) {
        sentence = words;
        SENTENCES.add(words);
        checks = 0;
    }

    private static void due(long want, long got) {
        checks++;
        if (got != want) {
            wrong++;
            System.out.println(sentence + " | check " + checks + " answered " + got + ", due is " + want);
        }
    }

    private static void dueTerms(long above, long below, long gotAbove, long gotBelow) {
        due(above, gotAbove);
        due(below, gotBelow);
    }

    /** All numbers that are out of what goes from least to most: beside it, and far off on both ends. */
    private static int[] outOf(int least, int most) {
        return new int[] {least - 1, least - 2, most + 1, most + 2, most + 256, LEAST_INT, LEAST_INT + 1, MOST_INT,
            MOST_INT - 1, 1 << 16, 1 << 30};
    }

    // ---- leagues to begin with

    private static TwiceRunning fresh() {
        return new TwiceRunning();
    }

    /** SIDES of kind SIDE, so many, each of strength 5. */
    private static TwiceRunning sides(int n) {
        TwiceRunning x = new TwiceRunning();
        for (int s = 0; s < n; s++) {
            x.side(SIDE, 5);
        }
        return x;
    }

    /** Two like SIDES and GAMES of these WORTHS between 0 and 1. */
    private static TwiceRunning pair(int... worths) {
        return pairOf(SIDE, 5, SIDE, 5, worths);
    }

    private static TwiceRunning pairOf(int kind, int strength, int otherKind, int otherStrength, int... worths) {
        TwiceRunning x = new TwiceRunning();
        x.side(kind, strength);
        x.side(otherKind, otherStrength);
        for (int worth : worths) {
            x.game(0, 1, worth);
        }
        return x;
    }

    /** Two TOLD ones that make the first one's CHANCE so many tenths. */
    private static TwiceRunning chanceOf(int tenths, int... worths) {
        TwiceRunning x = pairOf(TOLD, Math.max(1, Math.min(9, tenths)), TOLD, Math.max(1, Math.min(9, 10 - tenths)), worths);
        x.change(0, 2, tenths == 0 ? 0 : 1);
        x.change(1, 2, tenths == 10 ? 0 : 1);
        return x;
    }

    /** With something everywhere: 6 SIDES, 8 GAMES, 3 played, 117 bytes, two images, SPOTS, SHEETS of each width. */
    private static TwiceRunning rich() {
        TwiceRunning x = new TwiceRunning();
        int[] strengths = {5, 4, 9, 3, 2, 6};
        int[] kinds = {SIDE, TRY, SPARE, CHOOSE, FEED, BAR};
        for (int s = 0; s < 6; s++) {
            x.side(kinds[s], strengths[s]);
        }
        x.change(5, 2, 4);
        int[][] games = {{0, 1, 2}, {2, 3, 9}, {4, 5, 3}, {0, 2, 5}, {1, 3, 1}, {5, 0, 4}, {3, 4, 7}, {1, 2, 6}};
        for (int[] g : games) {
            x.game(g[0], g[1], g[2]);
        }
        x.seed(1234567);
        x.hold(0, 0);
        x.hold(4, 3);
        x.hold(9, 5);
        x.win(1);
        x.image();
        x.law(2);
        x.win(2);
        x.win(5);
        x.hold(5, 2);
        int[] bits = {8, 16, 8, 32};
        for (int s = 0; s < 4; s++) {
            x.sheet(s, bits[s], 3 + s);
            for (int i = 0; i < 3 + s; i++) {
                x.write(s, i, games[i][(i + s) % 2]);
            }
        }
        x.sheet(3, 0, 3);
        feed(x, "law 1;law 3 ");
        feed(x, " ".repeat(105));
        return x;
    }

    /** All GAMES are played, two SIDES of three in both. */
    private static TwiceRunning ended() {
        TwiceRunning x = pair(3, 4);
        x.side(CHOOSE, 1);
        x.win(0);
        x.win(0);
        return x;
    }

    private static void feed(TwiceRunning x, String text) {
        for (int at = 0; at < text.length(); at += 4) {
            int n = Math.min(4, text.length() - at);
            int number = 0;
            for (int i = 0; i < n; i++) {
                number = number << 8 | text.charAt(at + i);
            }
            x.feed(number, n);
        }
    }

    private static int text(TwiceRunning x, String text) {
        feed(x, text);
        return x.text();
    }

    // ---- what can be seen of a league

    private static void look(TwiceRunning x, List<Long> seen) {
        for (int what = 0; what <= 6; what++) {
            seen.add((long) x.count(what));
        }
        int sides = x.count(0);
        int games = x.count(1);
        for (int s = 0; s < sides; s++) {
            for (int what = 0; what < 8; what++) {
                seen.add((long) x.sideOf(s, what));
            }
        }
        int played = x.count(2);
        for (int g = 0; g < games; g++) {
            for (int what = 0; what < (g < played ? 5 : 3); what++) {
                seen.add((long) x.gameOf(g, what));
            }
        }
        for (int spot = 0; spot < 10; spot++) {
            seen.add((long) x.as(spot, 0));
        }
    }

    /** All of it, but for status(): the league, THE TAPE by reading it, SHEETS by loading them, the image by undo(). */
    private static List<Long> lookAtAll(TwiceRunning x) {
        List<Long> seen = new ArrayList<>();
        look(x, seen);
        for (int what = 0; what <= 4; what++) {
            seen.add((long) x.next(what));
        }
        seen.add((long) x.text());
        seen.add((long) x.count(0));
        seen.add((long) x.count(3));
        for (int s = 0; s < 4; s++) {
            x.anew();
            seen.add((long) x.copy(s, 0, 0, 0, 0));
            seen.add((long) x.load(s));
            for (int g = 0; g < x.count(2); g++) {
                seen.add((long) x.gameOf(g, 3));
            }
        }
        seen.add((long) x.undo());
        look(x, seen);
        seen.add((long) x.tear());
        return seen;
    }

    /** The call answers a finding, is counted as that one alone, and all else is as without the call. */
    private static void refused(Supplier<TwiceRunning> league, ToLongFunction<TwiceRunning> call, int finding) {
        TwiceRunning without = league.get();
        TwiceRunning with = league.get();
        due(finding, call.applyAsLong(with));
        for (int which = -1; which <= 6; which++) {
            int more = which == -1 || which == BEYOND - finding ? 1 : 0;
            due(without.status(which) + more, with.status(which));
        }
        List<Long> due = lookAtAll(without);
        List<Long> seen = lookAtAll(with);
        due(due.size(), seen.size());
        for (int i = 0; i < Math.min(due.size(), seen.size()); i++) {
            due(due.get(i), seen.get(i));
        }
    }

    /** Like refused(), for a parameter that may be from least to most alone. */
    private static void refusedOut(Supplier<TwiceRunning> league, int least, int most, Asked call) {
        for (int v : outOf(least, most)) {
            if (v < least || v > most) {
                refused(league, x -> call.of(x, v), BEYOND);
            }
        }
    }

    private interface Asked {
        long of(TwiceRunning x, int v);
    }

    // ---- terms: findings

    private static void findings() {
        says("Terms: findings are told in the order in which they are asked");
        refused(EdgesTest::rich, x -> x.side(7, 1), BEYOND);
        refused(EdgesTest::rich, x -> x.side(0, 10), BEYOND);
        refused(EdgesTest::rich, x -> x.side(0, 1), FULL);
        refused(EdgesTest::rich, x -> x.game(0, 0, 1), BEYOND);
        refused(EdgesTest::rich, x -> x.game(0, 1, 1), FULL);
        refused(EdgesTest::rich, x -> x.gameOf(8, 3), BEYOND);
        refused(EdgesTest::rich, x -> x.gameOf(3, 5), BEYOND);
        refused(EdgesTest::rich, x -> x.gameOf(3, 3), NONE);
        refused(EdgesTest::rich, x -> x.swap(0, 8), BEYOND);
        refused(EdgesTest::rich, x -> x.swap(-1, 0), BEYOND);
        refused(EdgesTest::rich, x -> x.swap(0, 7), STATE);
        refused(EdgesTest::rich, x -> x.feed(0, 5), BEYOND);
        refused(EdgesTest::rich, x -> x.feed(0, 4), FULL);
        refused(EdgesTest::ended, x -> x.next(5), BEYOND);
        refused(EdgesTest::ended, x -> x.next(4), NONE);
        refused(EdgesTest::ended, x -> x.win(9), NONE);
        refused(EdgesTest::ended, x -> x.best(3), BEYOND);
        refused(EdgesTest::ended, x -> x.best(2), NONE);
        refused(EdgesTest::rich, x -> x.best(6), BEYOND);
        refused(EdgesTest::rich, x -> x.best(1), STATE);
        refused(EdgesTest::ended, x -> x.order(3), BEYOND);
        refused(EdgesTest::ended, x -> x.order(2), NONE);
        refused(EdgesTest::rich, x -> x.order(6), BEYOND);
        refused(EdgesTest::rich, x -> x.order(0), SIZE);
        refused(EdgesTest::rich, x -> x.as(1, 7), BEYOND);
        refused(EdgesTest::rich, x -> x.as(1, TRY), MISSING);
        refused(EdgesTest::rich, x -> x.as(0, TRY), KIND);
        refused(EdgesTest::rich, x -> x.sheet(4, 8, -1), BEYOND);
        refused(EdgesTest::rich, x -> x.sheet(0, 7, -1), BEYOND);
        refused(EdgesTest::rich, x -> x.sheet(0, 7, 41), BEYOND);
        refused(EdgesTest::rich, x -> x.sheet(0, 8, -1), SIZE);
        refused(EdgesTest::rich, x -> x.sheet(0, 8, 41), BEYOND);
        refused(EdgesTest::rich, x -> x.write(4, 9, 0), BEYOND);
        refused(EdgesTest::rich, x -> x.write(3, 9, 0), MISSING);
        refused(EdgesTest::rich, x -> x.write(0, 9, 0), BEYOND);
        refused(EdgesTest::rich, x -> x.copy(4, -1, 3, 0, 0), BEYOND);
        refused(EdgesTest::rich, x -> x.copy(3, -1, 4, 0, 0), BEYOND);
        refused(EdgesTest::rich, x -> x.copy(3, -1, 0, 0, 0), MISSING);
        refused(EdgesTest::rich, x -> x.copy(0, -1, 3, 0, 0), MISSING);
        refused(EdgesTest::rich, x -> x.copy(0, -1, 1, 0, 0), KIND);
        refused(EdgesTest::rich, x -> x.copy(0, -1, 2, 0, 0), BEYOND);
        refused(EdgesTest::rich, x -> x.load(4), BEYOND);
        refused(EdgesTest::rich, x -> x.load(3), MISSING);
        refused(EdgesTest::rich, x -> x.judge(4), BEYOND);
        refused(EdgesTest::rich, x -> x.judge(3), MISSING);
    }

    private static void findingsInLongs() {
        says("Terms: findings in longs, too");
        refused(EdgesTest::rich, x -> x.gets(8, 0, 0), BEYOND);
        refused(EdgesTest::rich, x -> x.first(6, 0), BEYOND);
        refused(EdgesTest::rich, x -> x.mean(6, 0), BEYOND);
        refused(EdgesTest::rich, x -> x.least(6, 0, 0), BEYOND);
        refused(EdgesTest::rich, x -> x.moved(8, 0), BEYOND);
        says("Terms: findings where there is nothing yet");
        Supplier<TwiceRunning> none = EdgesTest::fresh;
        refused(none, x -> x.next(0), NONE);
        refused(none, x -> x.win(0), NONE);
        refused(none, x -> x.play(), NONE);
        refused(none, x -> x.leads(), NONE);
        refused(none, x -> x.gains(), NONE);
        refused(none, x -> x.undo(), NONE);
        refused(none, x -> x.as(0, 0), MISSING);
        refused(none, x -> x.write(0, 0, 0), MISSING);
        refused(none, x -> x.copy(0, 0, 0, 0, 0), MISSING);
        refused(none, x -> x.load(0), MISSING);
        refused(none, x -> x.judge(0), MISSING);
        refused(none, x -> x.hold(0, 0), BEYOND);
        refused(none, x -> x.gets(0, 0, 0), BEYOND);
        refused(none, x -> x.swap(0, 0), BEYOND);
    }

    private static void anyZ() {
        says("Terms: what seed() and count(5) tell, z, may be any int: that is no finding");
        for (int z : new int[] {BEYOND, FULL, KIND, NONE, STATE, MISSING, SIZE, SIZE - 1, LEAST_INT, MOST_INT, -1, 0}) {
            TwiceRunning x = fresh();
            due(1, x.seed(z));
            due(z, x.count(5));
            due(z, x.seed(z));
            due(z, x.seed(1));
            for (int which = -1; which <= 6; which++) {
                due(0, x.status(which));
            }
        }
    }

    // ---- terms: sides, games, law

    private static void barred() {
        says("Terms 1: one that has played fewer than LAW GAMES isn't BARRED");
        for (int law = 1; law <= 3; law++) {
            TwiceRunning x = pair(1, 1, 1, 1);
            x.law(law);
            due(0, x.sideOf(0, 4));
            for (int played = 1; played <= law; played++) {
                due(0, x.win(0));
                due(played < law ? 0 : 1, x.sideOf(0, 4));
                due(0, x.sideOf(1, 4));
            }
            due(1, x.win(0));
            due(0, x.sideOf(0, 4));
            due(law == 1 ? 1 : 0, x.sideOf(1, 4));
        }
        says("Terms 1: BARRED by its latest GAMES that were played by it, not by others");
        TwiceRunning x = sides(4);
        x.game(0, 1, 1);
        x.game(2, 3, 1);
        x.game(0, 2, 1);
        x.law(2);
        x.win(0);
        x.win(2);
        due(0, x.win(0));
        due(1, x.sideOf(0, 4));
        due(0, x.sideOf(2, 4));
        due(0, x.sideOf(3, 4));
        says("Terms 1: BARRED by the LAW as it is now");
        int[] barred = {1, 1, 0};
        for (int law = 1; law <= 3; law++) {
            x.law(law);
            due(barred[law - 1], x.sideOf(0, 4));
        }
    }

    private static void tired() {
        says("Terms 1: TIRED is not at first, and by an EFFORT of 3 alone");
        for (int tells = 0; tells <= 9; tells++) {
            TwiceRunning x = pairOf(TOLD, 5, TOLD, 5, 1, 1);
            x.change(0, 2, tells);
            due(0, x.sideOf(0, 5));
            x.win(1);
            due(tells >= 3 ? 1 : 0, x.sideOf(0, 5));
            due(0, x.sideOf(1, 5));
            x.change(0, 2, 2);
            x.win(1);
            due(0, x.sideOf(0, 5));
        }
        says("Terms 1: TIRED by its own latest GAME, as its EFFORT was then");
        TwiceRunning x = pairOf(TRY, 5, SIDE, 5, 1);
        x.side(SIDE, 5);
        x.game(1, 2, 1);
        x.win(0);
        x.win(1);
        due(1, x.sideOf(0, 5));
        x.change(0, 0, SIDE);
        due(1, x.sideOf(0, 5));
        says("Terms 1: FORCE is STRENGTH, less 1 if it is TIRED (1 at least), times EFFORT");
        int[] strengths = {1, 2, 9};
        int[] tired = {1, 1, 8};
        for (int i = 0; i < 3; i++) {
            TwiceRunning y = pairOf(TRY, strengths[i], TRY, strengths[i], 1, 1);
            due(3 * strengths[i], y.next(3));
            due(3 * strengths[i], y.next(4));
            y.win(0);
            due(3 * tired[i], y.next(3));
            due(3 * tired[i], y.next(4));
            y.change(0, 0, TOLD);
            due(0, y.next(3));
        }
    }

    private static void efforts() {
        says("Terms 1: SPARE makes 1 if it is BARRED, else 2");
        TwiceRunning x = pairOf(SPARE, 5, SPARE, 5, 1, 1);
        due(2, x.next(0));
        due(2, x.next(1));
        x.win(0);
        due(1, x.next(0));
        due(2, x.next(1));
        says("Terms 1: CHOOSE makes 0 if it is BARRED (also if both are), 3 if the other one alone is, else 2");
        TwiceRunning y = sides(4);
        for (int s = 0; s < 4; s++) {
            y.change(s, 0, CHOOSE);
        }
        y.game(0, 2, 1);
        y.game(1, 3, 1);
        y.game(0, 1, 1);
        due(2, y.next(0));
        due(2, y.next(1));
        y.win(0);
        y.image();
        y.win(1);
        due(0, y.next(0));
        due(0, y.next(1));
        y.undo();
        y.win(3);
        due(0, y.next(0));
        due(3, y.next(1));
        says("Terms 1: FEED makes 0 if its next GAME behind this one is of a greater WORTH, not of the same");
        for (int worth = 1; worth <= 9; worth++) {
            due(worth > 5 ? 0 : 2, pairOf(FEED, 5, SIDE, 5, 5, worth).next(0));
            due(worth > 5 ? 0 : 2, pairOf(SIDE, 5, FEED, 5, 5, worth).next(1));
        }
        says("Terms 1: FEED looks at its next GAME alone, and may have none");
        due(2, pairOf(FEED, 5, SIDE, 5, 5).next(0));
        due(2, pairOf(FEED, 5, SIDE, 5, 5, 5, 9).next(0));
        due(0, pairOf(FEED, 5, SIDE, 5, 5, 9, 1).next(0));
        says("Terms 1: FEED, if it is BARRED, is as a SPARE one");
        TwiceRunning z = pairOf(FEED, 5, SIDE, 5, 1, 5, 9);
        z.win(0);
        due(1, z.next(0));
        z.law(2);
        due(0, z.next(0));
        says("Terms 1: BAR makes 0 if the WORTH is less than its TELLS, not if it is as much");
        for (int tells = 0; tells <= 9; tells++) {
            for (int worth = 1; worth <= 9; worth++) {
                TwiceRunning b = pairOf(BAR, 5, SIDE, 5, worth);
                b.change(0, 2, tells);
                due(worth < tells ? 0 : 3, b.next(0));
            }
        }
        says("Terms 1: TOLD makes its TELLS, 3 at most (0 at first)");
        for (int tells = 0; tells <= 9; tells++) {
            TwiceRunning t = pairOf(SIDE, 5, TOLD, 5, 1);
            due(0, t.next(1));
            t.change(1, 2, tells);
            due(Math.min(3, tells), t.next(1));
        }
        says("Terms 1: SIDE makes 2 and TRY 3, BARRED or not");
        TwiceRunning s = pairOf(SIDE, 5, TRY, 5, 1, 1, 1);
        for (int g = 0; g < 3; g++) {
            due(2, s.next(0));
            due(3, s.next(1));
            s.win(0);
        }
    }

    private static void chances() {
        says("Terms 1: CHANCE is 10 times the FORCE by both, cut");
        for (int first = 1; first <= 9; first++) {
            for (int other = 1; other <= 9; other++) {
                TwiceRunning x = pairOf(SIDE, first, TRY, other, 1);
                due(20 * first / (2 * first + 3 * other), x.next(2));
            }
        }
        says("Terms 1: CHANCE is 5 if both FORCES are 0, 0 and 10 if one is");
        due(5, pairOf(TOLD, 9, TOLD, 1, 1).next(2));
        due(0, pairOf(TOLD, 9, SIDE, 1, 1).next(2));
        due(10, pairOf(SIDE, 1, TOLD, 9, 1).next(2));
        for (int tenths = 0; tenths <= 10; tenths++) {
            due(tenths, chanceOf(tenths, 1).next(2));
        }
    }

    private static void given() {
        says("Terms 1: GIVEN to the winner, if it isn't BARRED; else to the other one, if that isn't");
        for (int winner = 0; winner <= 1; winner++) {
            TwiceRunning x = pair(1, 2);
            due(winner, x.win(winner));
            x.image();
            due(1 - winner, x.win(winner));
            x.undo();
            due(1 - winner, x.win(1 - winner));
        }
        says("Terms 1: GIVEN to the other one, if that isn't BARRED, whatever POINTS it has");
        TwiceRunning more = sides(3);
        more.game(1, 2, 9);
        more.game(1, 2, 1);
        more.game(0, 2, 1);
        more.game(0, 1, 1);
        more.win(1);
        more.win(2);
        more.win(0);
        due(1, more.win(0));
        due(10, more.sideOf(1, 3));
        says("Terms 1: if both are BARRED: GIVEN to the one with less POINTS, of like ones to the lesser number");
        int[][] worths = {{3, 4}, {4, 3}, {5, 5}};
        int[] due = {0, 1, 0};
        for (int i = 0; i < 3; i++) {
            for (int turned = 0; turned < 2; turned++) {
                for (int winner = 0; winner <= 1; winner++) {
                    TwiceRunning x = sides(4);
                    x.game(0, 2, worths[i][0]);
                    x.game(1, 3, worths[i][1]);
                    x.game(turned, 1 - turned, 1);
                    x.win(0);
                    x.win(1);
                    due(due[i], x.win(winner));
                    due(winner, x.gameOf(2, 3));
                    due(due[i], x.gameOf(2, 4));
                }
            }
        }
    }

    // ---- promises 1 to 8

    private static void newObject() {
        says("1: all as at first: no SIDES, no GAMES, THE TAPE is empty, LAW is 1, z is 1, SPOTS hold nothing");
        TwiceRunning x = fresh();
        int[] counts = {0, 0, 0, 1, 0, 1, 0};
        for (int what = 0; what <= 6; what++) {
            due(counts[what], x.count(what));
        }
        for (int which = -1; which <= 6; which++) {
            due(0, x.status(which));
        }
        says("1: SPOTS hold nothing, SHEETS are MISSING, no image is kept");
        for (int spot = 0; spot <= 9; spot++) {
            due(MISSING, x.as(spot, 0));
        }
        for (int s = 0; s <= 3; s++) {
            due(MISSING, x.load(s));
        }
        due(NONE, x.undo());
        due(0, x.tear());
        says("1: a new object has nothing of another one");
        rich();
        ended();
        due(lookAtAll(x).hashCode(), lookAtAll(fresh()).hashCode());
    }

    private static void side() {
        says("2: BEYOND: no such KIND");
        refusedOut(() -> sides(2), 0, 6, (x, v) -> x.side(v, 5));
        for (int kind : KINDS) {
            TwiceRunning x = fresh();
            due(0, x.side(kind, 1));
            due(kind, x.sideOf(0, 0));
        }
        says("2: BEYOND: STRENGTH is 1 to 9");
        refusedOut(() -> sides(2), 1, 9, (x, v) -> x.side(0, v));
        for (int strength = 1; strength <= 9; strength++) {
            TwiceRunning x = fresh();
            due(0, x.side(TOLD, strength));
            due(strength, x.sideOf(0, 1));
        }
        says("2: FULL: at most 6 SIDES; a new one's number, TELLS 0");
        TwiceRunning x = fresh();
        for (int s = 0; s < 6; s++) {
            due(s, x.side(SIDE, 1));
            due(0, x.sideOf(s, 2));
        }
        due(FULL, x.side(SIDE, 1));
        refused(() -> sides(6), y -> y.side(TOLD, 9), FULL);
        says("2: a new SIDE is as at first, also behind a league that had more");
        TwiceRunning y = sides(2);
        y.game(0, 1, 3);
        y.image();
        y.side(TRY, 9);
        y.change(2, 2, 7);
        y.game(2, 0, 9);
        y.win(0);
        y.win(2);
        y.undo();
        due(2, y.side(SPARE, 4));
        int[] as = {SPARE, 4, 0, 0, 0, 0, 0, 0};
        for (int what = 0; what < 8; what++) {
            due(as[what], y.sideOf(2, what));
        }
    }

    private static void sideOf() {
        says("3: BEYOND: no such SIDE");
        refusedOut(() -> sides(1), 0, 0, (x, v) -> x.sideOf(v, 0));
        refusedOut(EdgesTest::rich, 0, 5, (x, v) -> x.sideOf(v, 7));
        says("3: BEYOND: what is 0 to 7");
        refusedOut(EdgesTest::rich, 0, 7, (x, v) -> x.sideOf(0, v));
        says("3: of one that played none, and one that played all 8 GAMES");
        TwiceRunning x = pair(9, 9, 9, 9, 9, 9, 9, 9);
        x.side(SIDE, 1);
        for (int g = 0; g < 8; g++) {
            x.win(0);
        }
        int[] first = {SIDE, 5, 0, 36, 0, 0, 8, 4};
        int[] other = {SIDE, 5, 0, 36, 1, 0, 8, 4};
        int[] third = {SIDE, 1, 0, 0, 0, 0, 0, 0};
        for (int what = 0; what < 8; what++) {
            due(first[what], x.sideOf(0, what));
            due(other[what], x.sideOf(1, what));
            due(third[what], x.sideOf(2, what));
        }
    }

    private static void change() {
        says("4: BEYOND: no such SIDE");
        refusedOut(EdgesTest::rich, 0, 5, (x, v) -> x.change(v, 1, 1));
        says("4: BEYOND: what is 0, 1 or 2");
        refusedOut(EdgesTest::rich, 0, 2, (x, v) -> x.change(0, v, 1));
        says("4: BEYOND: KIND is 0 to 6, STRENGTH 1 to 9, TELLS 0 to 9");
        int[] least = {0, 1, 0};
        int[] most = {6, 9, 9};
        for (int what = 0; what <= 2; what++) {
            int w = what;
            refusedOut(EdgesTest::rich, least[w], most[w], (x, v) -> x.change(5, w, v));
        }
        says("4: becomes v: what it was");
        for (int what = 0; what <= 2; what++) {
            TwiceRunning x = sides(6);
            int was = x.sideOf(5, what);
            for (int v = least[what]; v <= most[what]; v++) {
                due(was, x.change(5, what, v));
                due(v, x.sideOf(5, what));
                was = v;
            }
            due(was, x.change(5, what, was));
            due(what == 1 ? 5 : 0, x.sideOf(4, what));
        }
    }

    private static void game() {
        says("5: BEYOND: no such SIDE");
        refusedOut(() -> pair(1), 0, 1, (x, v) -> x.game(v, 0, 1));
        refusedOut(() -> pair(1), 0, 1, (x, v) -> x.game(0, v, 1));
        refused(EdgesTest::fresh, x -> x.game(0, 1, 1), BEYOND);
        says("5: BEYOND: the two are unlike SIDES");
        for (int s = 0; s < 3; s++) {
            int both = s;
            refused(() -> sides(3), x -> x.game(both, both, 1), BEYOND);
        }
        says("5: BEYOND: WORTH is 1 to 9");
        refusedOut(() -> pair(1), 1, 9, (x, v) -> x.game(0, 1, v));
        for (int worth = 1; worth <= 9; worth++) {
            due(worth, pair(worth).gameOf(0, 2));
        }
        says("5: FULL: at most 8 GAMES; a new one is the last one: its number");
        TwiceRunning x = sides(6);
        for (int g = 0; g < 8; g++) {
            due(g, x.game(5, g % 5, g + 1));
            due(5, x.gameOf(g, 0));
            due(g % 5, x.gameOf(g, 1));
        }
        due(FULL, x.game(0, 1, 1));
        refused(() -> pair(1, 2, 3, 4, 5, 6, 7, 8), y -> y.game(1, 0, 9), FULL);
        says("5: a new GAME behind played ones, all of which were played");
        TwiceRunning y = ended();
        due(2, y.game(2, 0, 6));
        due(2, y.count(2));
        due(2, y.win(2));
        due(3, y.count(2));
    }

    private static void gameOf() {
        says("6: BEYOND: no such GAME");
        refusedOut(() -> pair(1, 2), 0, 1, (x, v) -> x.gameOf(v, 0));
        refusedOut(EdgesTest::rich, 0, 7, (x, v) -> x.gameOf(v, 3));
        says("6: BEYOND: what is 0 to 4");
        refusedOut(EdgesTest::rich, 0, 4, (x, v) -> x.gameOf(0, v));
        refusedOut(EdgesTest::rich, 0, 4, (x, v) -> x.gameOf(7, v));
        says("6: NONE: 3 or 4, and it isn't played");
        for (int what = 3; what <= 4; what++) {
            int w = what;
            refused(EdgesTest::rich, x -> x.gameOf(3, w), NONE);
            refused(EdgesTest::rich, x -> x.gameOf(7, w), NONE);
            due(5, rich().gameOf(2, w));
            TwiceRunning x = rich();
            x.anew();
            due(NONE, x.gameOf(0, w));
        }
        due(0, rich().gameOf(3, 0));
        due(2, rich().gameOf(3, 1));
        due(5, rich().gameOf(3, 2));
    }

    private static void swap() {
        says("7: BEYOND: no such GAME");
        refusedOut(EdgesTest::rich, 0, 7, (x, v) -> x.swap(v, 4));
        refusedOut(EdgesTest::rich, 0, 7, (x, v) -> x.swap(4, v));
        refused(EdgesTest::fresh, x -> x.swap(0, 0), BEYOND);
        says("7: STATE: one is played");
        refused(EdgesTest::rich, x -> x.swap(2, 3), STATE);
        refused(EdgesTest::rich, x -> x.swap(3, 2), STATE);
        refused(EdgesTest::rich, x -> x.swap(0, 1), STATE);
        refused(EdgesTest::rich, x -> x.swap(2, 2), STATE);
        says("7: two GAMES that aren't played change their places: 1");
        TwiceRunning x = rich();
        due(1, x.swap(3, 7));
        int[][] due = {{1, 2, 6}, {0, 2, 5}};
        for (int what = 0; what < 3; what++) {
            due(due[0][what], x.gameOf(3, what));
            due(due[1][what], x.gameOf(7, what));
        }
        says("7: a GAME with itself");
        due(1, x.swap(3, 3));
        due(6, x.gameOf(3, 2));
    }

    private static void law() {
        says("8: BEYOND: LAW is 1 to 3");
        refusedOut(EdgesTest::rich, 1, 3, (x, v) -> x.law(v));
        says("8: LAW becomes v: what it was (1 at first)");
        TwiceRunning x = fresh();
        int[] laws = {1, 2, 3, 3, 1};
        int was = 1;
        for (int law : laws) {
            due(was, x.law(law));
            due(law, x.count(3));
            was = law;
        }
    }

    // ---- promises 9 to 11: the tape

    private static void tape() {
        says("9: BEYOND: n is 1 to 4");
        refusedOut(EdgesTest::rich, 1, 4, (x, v) -> x.feed(0, v));
        refusedOut(EdgesTest::fresh, 1, 4, (x, v) -> x.feed(0, v));
        says("9: the n lowest bytes, the highest of these first; whatever the others are");
        for (int high : new int[] {0, 0xff, 0x41, 0x20}) {
            TwiceRunning x = fresh();
            due(3, x.feed(high << 24 | 'l' << 16 | 'a' << 8 | 'w', 3));
            due(5, x.feed(high << 24 | high << 16 | ' ' << 8 | '2', 2));
            due(6, x.feed(high << 24 | high << 16 | high << 8 | ';', 1));
            due(10, x.feed('l' << 24 | 'a' << 16 | 'w' << 8 | '3', 4));
            due(2, x.text());
            due(3, x.count(3));
        }
        says("9: FULL: THE TAPE has at most 120 bytes");
        for (int n = 1; n <= 4; n++) {
            for (int had = 115; had <= 120; had++) {
                int bytes = n;
                int begin = had;
                Supplier<TwiceRunning> filled = () -> {
                    TwiceRunning x = fresh();
                    feed(x, " ".repeat(begin));
                    return x;
                };
                if (had + n > 120) {
                    refused(filled, x -> x.feed(0, bytes), FULL);
                } else {
                    due(had + n, filled.get().feed(0, n));
                }
            }
        }
        says("10: THE TAPE is empty: how many it had (none, one, all 120)");
        for (int had : new int[] {0, 1, 4, 119, 120}) {
            TwiceRunning x = fresh();
            feed(x, "z".repeat(had));
            due(had, x.count(4));
            due(had, x.wipe());
            due(0, x.count(4));
            due(0, x.wipe());
            due(1, text(x, "law 1"));
        }
    }

    /** The text's answer on a new object with two SIDES, after which THE TAPE is empty and no finding was counted. */
    private static void read(String text, int answer) {
        TwiceRunning x = sides(2);
        due(answer, text(x, text));
        due(0, x.count(4));
        due(0, x.status(-1));
        if (answer < 0) {
            due(2, x.count(0));
            due(0, x.count(1));
            due(1, x.count(3));
        }
    }

    private static void fault(String text, int place) {
        read(text, -1 - place);
    }

    private static void textNumbers() {
        String[] kinds = {"side", "try", "spare", "choose", "feed", "bar", "told"};
        for (int kind = 0; kind < 7; kind++) {
            String word = kinds[kind];
            says("11: " + word + ", a NUMBER (1 to 9: STRENGTH)");
            for (int v = 0; v <= 12; v++) {
                read(word + " " + v, v >= 1 && v <= 9 ? 1 : -1 - word.length() - 1);
            }
            fault(word, word.length());
            fault(word + " ", word.length() + 1);
            fault(word + ";", word.length());
            fault(word + " tells 1", word.length() + 1);
            says("11: " + word + " .. perhaps tells and a NUMBER (0 to 9; 0 without it)");
            for (int v = -1; v <= 9; v++) {
                TwiceRunning x = fresh();
                due(1, text(x, word + " 7" + (v < 0 ? "" : " tells " + v)));
                due(kind, x.sideOf(0, 0));
                due(7, x.sideOf(0, 1));
                due(Math.max(0, v), x.sideOf(0, 2));
            }
            fault(word + " 7 tells 10", word.length() + 9);
            fault(word + " 7 tells", word.length() + 8);
            fault(word + " 7 tells ;", word.length() + 9);
            fault(word + " 7 worth 1", word.length() + 3);
            fault(word + " 7 tells 1 tells 1", word.length() + 11);
        }
        says("11: law and a NUMBER (1 to 3)");
        for (int v = 0; v <= 12; v++) {
            read("law " + v, v >= 1 && v <= 3 ? 1 : -5);
        }
        fault("law", 3);
        fault("law 1 2", 6);
        says("11: game: SIDES that there are by then");
        for (int v = 0; v <= 9; v++) {
            read("game " + v + " 0", v == 1 ? 1 : v == 0 ? -8 : -6);
            read("game 0 " + v, v == 1 ? 1 : -8);
            read("side 1;game " + v + " 0", v == 1 || v == 2 ? 2 : v == 0 ? -15 : -13);
        }
        fault("game 2 0;side 1", 5);
        fault("game 0 2;side 1", 7);
        says("11: game: two unlike SIDES");
        fault("game 0 0", 7);
        fault("game 1 1 worth 1", 7);
        says("11: game .. perhaps worth and a NUMBER (1 to 9; 1 without it)");
        for (int v = 0; v <= 12; v++) {
            read("game 0 1 worth " + v, v >= 1 && v <= 9 ? 1 : -16);
        }
        TwiceRunning x = sides(2);
        due(2, text(x, "game 0 1;game 1 0 worth 9"));
        due(1, x.gameOf(0, 2));
        due(9, x.gameOf(1, 2));
        fault("game 0 1 worth", 14);
        fault("game 0 1 tells 1", 9);
        fault("game 0", 6);
        fault("game", 4);
        fault("game 0 1 2", 9);
    }

    private static void textTokens() {
        says("11: another WORD: one letter other, fewer or more");
        for (String word : new String[] {"side", "try", "spare", "choose", "feed", "bar", "told", "law", "tells", "worth",
                "game"}) {
            String behind = word.equals("game") ? " 0 1" : " 1";
            String ahead = word.equals("tells") ? "side 1 " : word.equals("worth") ? "game 0 1 " : "";
            read(ahead + word + behind, 1);
            for (int i = 0; i < word.length(); i++) {
                fault(ahead + word.substring(0, i) + "z" + word.substring(i + 1) + behind, ahead.length());
                fault(ahead + word.substring(0, i) + word.substring(i + 1) + behind, ahead.length());
            }
            fault(ahead + word + "s" + behind, ahead.length());
            fault(ahead + word + word + behind, ahead.length());
            fault(ahead + word.substring(0, 1).toUpperCase() + word.substring(1) + behind, ahead.length());
        }
        says("11: NUMBERS are 999 at most: one above isn't as told");
        for (String number : new String[] {"999", "1000", "1001", "1003", "2147483648", "4294967297", "4294967299",
                "18446744073709551617", "9".repeat(100)}) {
            fault("law " + number, 4);
            fault("side " + number, 5);
            fault("game 0 " + number, 7);
            fault("law 1 " + number, 6);
        }
        says("11: TOKENS are as long as can be");
        read("law1", 1);
        read("side1tells2;game0 1worth9", 2);
        fault("law12", 3);
        fault("laws 1", 0);
        fault("side 1tellsx 1", 6);
        fault("game 01", 7);
        fault("law 1;lawlaw 1", 6);
        says("11: blanks may stand between TOKENS, and need not");
        read("   law   1   ;   law   2   ", 2);
        read("law1;law2", 2);
        fault("l aw 1", 0);
        fault("law 1  x", 7);
        says("11: a byte that begins no TOKEN");
        for (int b = 0; b < 256; b++) {
            boolean begins = b == ' ' || b == ';' || b >= '0' && b <= '9' || b >= 'a' && b <= 'z';
            if (!begins) {
                fault((char) b + "law 1", 0);
                fault("law" + (char) b + "1", 3);
                fault("law 1" + (char) b, 5);
            }
        }
        says("11: WORDS are of the letters a to z, NUMBERS of digits 0 to 9");
        for (char c = 'a'; c <= 'z'; c++) {
            fault("law" + c + " 1", 0);
            fault("law 1" + c, 5);
        }
        for (char c = '0'; c <= '9'; c++) {
            read("law " + c, c >= '1' && c <= '3' ? 1 : -5);
        }
    }

    private static void textForm() {
        says("11: TEXT: ITEM { ; ITEM }: it ends too early");
        fault("", 0);
        fault(" ", 1);
        fault("    ", 4);
        fault("law 1;", 6);
        fault("law 1 ; ", 8);
        fault("law 1;law", 9);
        says("11: the first TOKEN that can't stand there");
        fault(";", 0);
        fault(" ;law 1", 1);
        fault("law 1;;law 1", 6);
        fault("5", 0);
        fault("law 1 law 1", 6);
        fault("tells 1", 0);
        fault("worth 1", 0);
        fault("nobody 1", 0);
        fault("law law", 4);
        fault("law ;", 4);
        fault("law 9;law 9", 4);
        says("11: a FAULT is told by -1 less its place, up to how many bytes there are");
        for (int n = 0; n <= 120; n++) {
            fault(" ".repeat(n), n);
        }
        fault(" ".repeat(119) + "x", 119);
        says("11: a TEXT of all 120 bytes, of 24 ITEMS");
        read("law1;".repeat(23) + "law3 ", 24);
        read("law1;".repeat(23) + " law3", 24);
        fault("law1;".repeat(24), 120);
        says("11: with a FAULT nothing changes but that THE TAPE is empty, and it is no finding");
        String[] ends = {"", "x", "law 4", "side 1", "game 0 9", "law 1 ?"};
        int[] faults = {12, 12, 16, 12, 12, 18};
        for (int i = 0; i < ends.length; i++) {
            TwiceRunning x = rich();
            x.wipe();
            List<Long> before = new ArrayList<>();
            look(x, before);
            int findings = x.status(-1);
            due(-1 - faults[i], text(x, "law 1;law 3;" + ends[i]));
            due(findings, x.status(-1));
            List<Long> after = new ArrayList<>();
            look(x, after);
            due(1, before.equals(after) ? 1 : 0);
        }
    }

    private static void textCounts() {
        says("11: the WORD of a 7th SIDE: its own place, whatever stands behind it");
        String four = "side 1;try 2;bar 3;told 4;";
        read(four.substring(0, four.length() - 1), 4);
        for (String seventh : new String[] {"side", "side 1", "feed 10", "bar x", "told;"}) {
            fault(four + seventh, four.length());
        }
        read(four + "law 2", 5);
        says("11: with 6 SIDES a text may still tell GAMES and LAW");
        TwiceRunning x = sides(6);
        due(2, text(x, "game 5 0;law 3"));
        due(-1, text(x, "choose 1"));
        says("11: the WORD of a 9th GAME: its own place, whatever stands behind it");
        TwiceRunning y = pair(1, 1, 1, 1, 1, 1);
        due(2, text(y, "game 0 1;game 0 1"));
        for (String ninth : new String[] {"game", "game 0 1", "game x", "game 9 9"}) {
            due(-1, text(y, ninth));
            due(-1 - 6, text(y, "law 2;" + ninth));
            due(8, y.count(1));
            due(1, y.count(3));
        }
        due(2, text(y, "law 2;side 1"));
        says("11: the 9th GAME within one text");
        TwiceRunning z = sides(2);
        due(-1 - 72, text(z, "game 0 1;".repeat(8) + "game 0 1"));
        due(0, z.count(1));
        due(8, text(z, "game 0 1;".repeat(7) + "game 1 0"));
        says("11: THE TAPE is empty then, also if it was a TEXT");
        due(0, z.count(4));
        due(-1, z.text());
    }

    // ---- promises 12 to 17: games

    private static void next() {
        says("12: BEYOND: what is 0 to 4");
        refusedOut(EdgesTest::rich, 0, 4, (x, v) -> x.next(v));
        says("12: NONE: all are played (also if there are none)");
        for (int what = 0; what <= 4; what++) {
            int w = what;
            refused(EdgesTest::ended, x -> x.next(w), NONE);
            refused(EdgesTest::fresh, x -> x.next(w), NONE);
            refused(() -> sides(6), x -> x.next(w), NONE);
        }
    }

    private static void win() {
        says("13: NONE: all are played");
        refused(EdgesTest::ended, x -> x.win(0), NONE);
        refused(EdgesTest::fresh, x -> x.win(0), NONE);
        refused(EdgesTest::ended, x -> x.win(-1), NONE);
        says("13: BEYOND: it isn't one of its two");
        for (int side : new int[] {-1, 1, 3, 4, 5, 6, LEAST_INT, MOST_INT}) {
            refused(EdgesTest::rich, x -> x.win(side), BEYOND);
        }
        TwiceRunning x = rich();
        due(0, x.win(0));
        says("13: all 8 GAMES may be played, no more");
        TwiceRunning y = pair(1, 1, 1, 1, 1, 1, 1, 1);
        for (int g = 0; g < 8; g++) {
            due(g % 2, y.win(0));
        }
        due(NONE, y.win(0));
        due(8, y.count(2));
    }

    private static int drawn(int z) {
        return (int) ((z * 1103515245L + 12345L) & 0xffffffffL);
    }

    private static int rest(int z) {
        return (int) (((drawn(z) & 0xffffffffL) >> 8) % 10);
    }

    private static void play() {
        says("14: NONE: all are played, and z is as it was");
        refused(EdgesTest::ended, x -> x.play(), NONE);
        refused(EdgesTest::fresh, x -> x.play(), NONE);
        says("14: the first one wins, if the rest by 10 is below its CHANCE (0 never, 10 always)");
        int seen = 0;
        for (int tenths = 0; tenths <= 10; tenths++) {
            TwiceRunning x = chanceOf(tenths, 1);
            for (int rest = 0; rest <= 9; rest++) {
                int z = 0;
                while (rest(z) != rest) {
                    z += 17;
                }
                x.seed(z);
                due(rest < tenths ? 0 : 1, x.play());
                due(drawn(z), x.count(5));
                x.anew();
                seen++;
            }
        }
        due(110, seen);
        says("Terms 3: each draw makes z an int (it wraps around), and gives z >>> 8 (never below 0)");
        TwiceRunning x = chanceOf(3, 1);
        int below = 0;
        for (int z : new int[] {LEAST_INT, MOST_INT, -1, 0, 1, 2, 3, 1 << 16, 1 << 30, -12345, 77, 78, 79, 80}) {
            x.seed(z);
            due(rest(z) < 3 ? 0 : 1, x.play());
            due(drawn(z), x.count(5));
            below += drawn(z) < 0 ? 1 : 0;
            x.anew();
        }
        due(1, below >= 3 ? 1 : 0);
    }

    private static void anew() {
        says("15: how many were played: none, some, all");
        due(0, fresh().anew());
        due(0, pair(1, 2).anew());
        due(3, rich().anew());
        due(2, ended().anew());
        says("15: all GAMES are as if not played; what else there is stays");
        TwiceRunning x = rich();
        x.anew();
        for (int s = 0; s < 6; s++) {
            for (int what = 3; what <= 7; what++) {
                due(0, x.sideOf(s, what));
            }
        }
        int[] counts = {6, 8, 0, 2, 117, 1234567, 4};
        for (int what = 0; what <= 6; what++) {
            due(counts[what], x.count(what));
        }
        due(NONE, x.gameOf(0, 4));
        due(0, x.anew());
        due(4, x.sideOf(5, 2));
        for (int winner = 0; winner <= 1; winner++) {
            TwiceRunning y = pair(2, 3);
            y.win(winner);
            y.win(winner);
            due(2, y.anew());
            for (int g = 0; g <= 1; g++) {
                dueTerms(1, 2, y.gets(g, 0, 0), y.gets(g, 0, 1));
                dueTerms(g, g + 1, y.moved(g, 0), y.moved(g, 1));
            }
            dueTerms(5, 2, y.mean(0, 0), y.mean(0, 1));
            due(4, y.ways());
        }
    }

    private static void leadsAndPlace() {
        says("16: NONE: there are no SIDES");
        refused(EdgesTest::fresh, x -> x.leads(), NONE);
        due(0, sides(1).leads());
        says("16: of several with most POINTS the least number");
        due(0, sides(6).leads());
        TwiceRunning x = pair(2, 2);
        x.win(1);
        due(1, x.leads());
        x.win(0);
        due(0, x.leads());
        says("17: BEYOND: no such SIDE");
        refusedOut(EdgesTest::rich, 0, 5, (y, v) -> y.place(v));
        refused(EdgesTest::fresh, y -> y.place(0), BEYOND);
        says("17: 1 more than how many have more POINTS (like ones have one PLACE)");
        int[] places = {4, 3, 1, 4, 4, 2};
        for (int s = 0; s < 6; s++) {
            due(places[s], rich().place(s));
            due(1, sides(6).place(s));
        }
        TwiceRunning six = sides(6);
        for (int s = 0; s < 5; s++) {
            six.game(s, 5, 9 - s);
            six.win(s);
        }
        for (int s = 0; s < 6; s++) {
            due(s + 1, six.place(s));
        }
    }

    // ---- promises 18 to 24: ways

    private static void waysBeyond() {
        Supplier<TwiceRunning> league = () -> pair(1, 2);
        says("18: BEYOND: no such GAME, no such SIDE, another part");
        refusedOut(league, 0, 1, (x, v) -> x.gets(v, 0, 0));
        refusedOut(league, 0, 1, (x, v) -> x.gets(0, v, 0));
        refusedOut(league, 0, 1, (x, v) -> x.gets(0, 0, v));
        says("19: BEYOND: no such SIDE, another part");
        refusedOut(league, 0, 1, (x, v) -> x.first(v, 0));
        refusedOut(league, 0, 1, (x, v) -> x.first(0, v));
        says("20: BEYOND: no such SIDE, another part");
        refusedOut(league, 0, 1, (x, v) -> x.mean(v, 0));
        refusedOut(league, 0, 1, (x, v) -> x.mean(0, v));
        says("21: BEYOND: no such SIDE, n is 0 to 99, another part");
        refusedOut(league, 0, 1, (x, v) -> x.least(v, 0, 0));
        refusedOut(league, 0, 99, (x, v) -> x.least(0, v, 0));
        refusedOut(league, 0, 1, (x, v) -> x.least(0, 0, v));
        says("22: BEYOND: no such SIDE");
        refusedOut(league, 0, 1, (x, v) -> x.most(v));
        says("24: BEYOND: no such GAME, another part");
        refusedOut(league, 0, 1, (x, v) -> x.moved(v, 0));
        refusedOut(league, 0, 1, (x, v) -> x.moved(0, v));
    }

    private static void waysOfNothing() {
        says("Terms 2: without GAMES to come there is one WAY, and ALL is 1");
        due(1, fresh().ways());
        due(1, sides(6).ways());
        due(1, ended().ways());
        TwiceRunning x = ended();
        dueTerms(1, 1, x.gets(0, 0, 0), x.gets(0, 0, 1));
        dueTerms(1, 1, x.gets(1, 1, 0), x.gets(1, 1, 1));
        dueTerms(1, 1, x.first(1, 0), x.first(1, 1));
        dueTerms(4, 1, x.mean(1, 0), x.mean(1, 1));
        dueTerms(1, 1, x.least(0, 3, 0), x.least(0, 3, 1));
        dueTerms(1, 1, x.moved(1, 0), x.moved(1, 1));
        due(3, x.most(0));
        says("Terms 2: 0 is 0 by 1");
        dueTerms(0, 1, x.gets(0, 1, 0), x.gets(0, 1, 1));
        dueTerms(0, 1, x.gets(0, 2, 0), x.gets(0, 2, 1));
        dueTerms(0, 1, x.first(0, 0), x.first(0, 1));
        dueTerms(0, 1, x.mean(2, 0), x.mean(2, 1));
        dueTerms(0, 1, x.least(0, 4, 0), x.least(0, 4, 1));
        dueTerms(0, 1, x.moved(0, 0), x.moved(0, 1));
        TwiceRunning y = pairOf(TOLD, 1, SIDE, 1, 1, 1);
        y.law(3);
        dueTerms(0, 1, y.gets(0, 0, 0), y.gets(0, 0, 1));
        dueTerms(0, 1, y.first(0, 0), y.first(0, 1));
        dueTerms(0, 1, y.mean(0, 0), y.mean(0, 1));
        dueTerms(0, 1, y.least(0, 1, 0), y.least(0, 1, 1));
        dueTerms(0, 1, y.moved(0, 0), y.moved(0, 1));
        due(0, pair().most(0));
        says("Terms 2: FIRST, of several the least number, also if none has POINTS");
        dueTerms(1, 1, sides(3).first(0, 0), sides(3).first(0, 1));
        dueTerms(0, 1, sides(3).first(1, 0), sides(3).first(1, 1));
    }

    private static void waysOfOne() {
        says("Terms 2: CHANCES in lowest terms");
        int[] above = {0, 1, 1, 3, 2, 1, 3, 7, 4, 9, 1};
        int[] below = {1, 10, 5, 10, 5, 2, 5, 10, 5, 10, 1};
        for (int tenths = 0; tenths <= 10; tenths++) {
            TwiceRunning x = chanceOf(tenths, 7);
            dueTerms(above[tenths], below[tenths], x.gets(0, 0, 0), x.gets(0, 0, 1));
            dueTerms(above[10 - tenths], below[tenths], x.gets(0, 1, 0), x.gets(0, 1, 1));
            dueTerms(above[tenths], below[tenths], x.first(0, 0), x.first(0, 1));
            dueTerms(7 * above[tenths], below[tenths], x.mean(0, 0), x.mean(0, 1));
            dueTerms(above[tenths], below[tenths], x.least(0, 1, 0), x.least(0, 1, 1));
            dueTerms(above[tenths], below[tenths], x.least(0, 7, 0), x.least(0, 7, 1));
            says("21: n POINTS or more: all have 0 or more");
            dueTerms(1, 1, x.least(0, 0, 0), x.least(0, 0, 1));
            dueTerms(0, 1, x.least(0, 8, 0), x.least(0, 8, 1));
            dueTerms(0, 1, x.least(0, 99, 0), x.least(0, 99, 1));
            says("22: the most POINTS by any WAY (also of WEIGHT 0)");
            due(7, x.most(0));
            due(7, x.most(1));
            says("23: how many WAYS have a WEIGHT above 0");
            due(tenths == 0 || tenths == 10 ? 1 : 2, x.ways());
            says("24: one who won is GIVEN it, where none is BARRED");
            dueTerms(0, 1, x.moved(0, 0), x.moved(0, 1));
        }
    }

    private static void waysOfMany() {
        says("23: all 256 WAYS of 8 GAMES, and those of WEIGHT 0 are none");
        due(256, pair(1, 1, 1, 1, 1, 1, 1, 1).ways());
        due(1, pairOf(TOLD, 1, SIDE, 1, 1, 1, 1, 1, 1, 1, 1, 1).ways());
        TwiceRunning x = pair(1, 1, 1, 1, 1, 1, 1, 1);
        for (int played = 1; played <= 8; played++) {
            x.win(0);
            due(256 >> played, x.ways());
        }
        says("Terms 2: WEIGHTS of 8 GAMES, multiplied");
        TwiceRunning y = new TwiceRunning();
        for (int s = 0; s < 6; s++) {
            y.side(SIDE, s % 2 == 0 ? 3 : 7);
        }
        y.law(3);
        for (int g = 0; g < 8; g++) {
            int two = g < 2 ? 0 : g < 5 ? 2 : 4;
            y.game(two, two + 1, g < 2 ? 5 : 3);
        }
        // One of 4 and 5 with 9 POINTS, if 0 and 1 have 5 each (0.42), and neither 2 nor 3 has 9 (0.63).
        dueTerms(35721, 5000000, y.first(4, 0), y.first(4, 1));
        dueTerms(453789, 5000000, y.first(5, 0), y.first(5, 1));
        // 2 with 9 (0.027), or with 6 (0.189) if neither 4 nor 5 has 9; 3 with 9 (0.343), or with 6 (0.441).
        dueTerms(306747, 5000000, y.first(2, 0), y.first(2, 1));
        dueTerms(1303743, 5000000, y.first(3, 0), y.first(3, 1));
        dueTerms(3, 1, y.mean(0, 0), y.mean(0, 1));
        dueTerms(27, 10, y.mean(4, 0), y.mean(4, 1));
        dueTerms(27, 1000, y.least(4, 9, 0), y.least(4, 9, 1));
        dueTerms(0, 1, y.least(4, 10, 0), y.least(4, 10, 1));
        says("24: one who didn't win it, as often as the winner is BARRED and it is GIVEN otherwise");
        for (int tenths = 0; tenths <= 10; tenths++) {
            TwiceRunning two = chanceOf(tenths, 1, 1);
            int same = tenths * tenths + (10 - tenths) * (10 - tenths);
            due(same * two.moved(1, 1), 100 * two.moved(1, 0));
            due(tenths * two.gets(1, 1, 1), 10 * two.gets(1, 1, 0));
        }
        TwiceRunning asked = pair(1, 1);
        dueTerms(1, 2, asked.moved(1, 0), asked.moved(1, 1));
        dueTerms(1, 2, pair(1).first(1, 0), pair(1).first(1, 1));
        dueTerms(5, 2, pair(2, 3).mean(1, 0), pair(2, 3).mean(1, 1));
        dueTerms(1, 2, pair(1).gets(0, 1, 0), pair(1).gets(0, 1, 1));
        says("21: POINTS of before count, n to 99");
        TwiceRunning z = pair(9, 9, 9, 9, 9, 9, 9, 9);
        for (int g = 0; g < 7; g++) {
            z.win(0);
        }
        dueTerms(1, 1, z.least(0, 36, 0), z.least(0, 36, 1));
        dueTerms(0, 1, z.least(0, 37, 0), z.least(0, 37, 1));
        dueTerms(1, 1, z.least(1, 36, 0), z.least(1, 36, 1));
        due(36, z.most(1));
        says("22: WAYS from now on: what was GIVEN stays");
        TwiceRunning w = pair(9, 1);
        due(9, w.most(0));
        w.win(1);
        due(1, w.most(0));
        due(9, w.most(1));
        w.law(3);
        due(10, w.most(1));
    }

    // ---- promises 25 to 33: what is best

    private static void best() {
        says("25: BEYOND: no such SIDE");
        refusedOut(EdgesTest::rich, 0, 5, (x, v) -> x.best(v));
        refused(EdgesTest::fresh, x -> x.best(0), BEYOND);
        says("25: NONE: all are played");
        for (int s = 0; s < 3; s++) {
            int side = s;
            refused(EdgesTest::ended, x -> x.best(side), NONE);
        }
        says("25: STATE: it isn't one of its two");
        for (int side : new int[] {1, 3, 4, 5}) {
            refused(EdgesTest::rich, x -> x.best(side), STATE);
        }
        says("25: the EFFORT is 0 to 3; of several the least number");
        due(3, pairOf(SIDE, 5, SIDE, 5, 1).best(0));
        due(3, pairOf(SIDE, 5, SIDE, 5, 1).best(1));
        due(1, pairOf(SIDE, 5, TOLD, 5, 1).best(0));
        TwiceRunning barred = pair(1, 1);
        barred.win(0);
        due(0, barred.best(0));
        says("25: behind it by KINDS as they are, TIRED by the EFFORT, and nothing changes");
        TwiceRunning x = pair(1, 9);
        x.law(3);
        // 3 now makes 6 tenths of 1, and then strength 4 to 5: 4 tenths of 9; 2 makes 5 and 5.
        due(2, x.best(0));
        due(2, x.next(0));
        due(0, x.count(2));
        due(0, x.sideOf(0, 5));
    }

    private static void kindTellsLaw() {
        says("26: BEYOND: no such SIDE");
        refusedOut(EdgesTest::rich, 0, 5, (x, v) -> x.kindFor(v));
        refused(EdgesTest::fresh, x -> x.kindFor(0), BEYOND);
        says("26: KINDS 0 to 6, of several the least number");
        due(SIDE, sides(1).kindFor(0));
        due(SIDE, ended().kindFor(0));
        due(TRY, pair(1).kindFor(0));
        TwiceRunning told = pairOf(TOLD, 1, TRY, 1, 1, 9);
        told.change(0, 2, 1);
        told.law(3);
        due(TRY, told.kindFor(0));
        due(TOLD, told.sideOf(0, 0));
        says("27: BEYOND: no such SIDE");
        refusedOut(EdgesTest::rich, 0, 5, (x, v) -> x.tellsFor(v));
        refused(EdgesTest::fresh, x -> x.tellsFor(0), BEYOND);
        says("27: TELLS 0 to 9, of several the least number; nothing changes");
        due(0, sides(1).tellsFor(0));
        due(0, pair(1).tellsFor(0));
        due(3, pairOf(TOLD, 1, SIDE, 1, 1).tellsFor(0));
        // BAR leaves a GAME of 8 away only from TELLS 9 on.
        due(9, pairOf(BAR, 1, SIDE, 1, 8, 9).tellsFor(0));
        TwiceRunning bar = pairOf(BAR, 1, SIDE, 1, 8, 9);
        bar.change(0, 2, 5);
        due(9, bar.tellsFor(0));
        due(5, bar.sideOf(0, 2));
        says("29: BEYOND: no such SIDE");
        refusedOut(EdgesTest::rich, 0, 5, (x, v) -> x.lawFor(v));
        refused(EdgesTest::fresh, x -> x.lawFor(0), BEYOND);
        says("29: LAW 1 to 3, of several the least number; nothing changes");
        due(1, sides(1).lawFor(0));
        due(1, ended().lawFor(1));
        for (int games = 1; games <= 3; games++) {
            int[] worths = new int[games];
            java.util.Arrays.fill(worths, 5);
            due(games, pairOf(TOLD, 1, SIDE, 1, worths).lawFor(1));
        }
        TwiceRunning x = pairOf(TOLD, 1, SIDE, 1, 5, 5, 5);
        x.law(2);
        due(3, x.lawFor(1));
        due(1, x.lawFor(0));
        due(2, x.count(3));
        says("30: NONE: there are no SIDES");
        refused(EdgesTest::fresh, y -> y.gains(), NONE);
        says("30: of several the least number, also if none gains");
        due(0, sides(1).gains());
        due(0, sides(6).gains());
        due(0, ended().gains());
        due(0, pairOf(TOLD, 1, SIDE, 1, 5, 5).gains());
        due(1, pairOf(SIDE, 1, TOLD, 1, 5, 5).gains());
        says("30: by LAW 1 as against LAW 3, whatever LAW is, which stays");
        for (int law = 1; law <= 3; law++) {
            TwiceRunning two = pairOf(SIDE, 1, TOLD, 1, 5, 5);
            two.law(law);
            due(1, two.gains());
            due(law, two.count(3));
            // The sure loser 0 gets 1 and 5 by LAW 1, 1 by LAW 2, 5 by LAW 3.
            TwiceRunning four = pairOf(TOLD, 1, SIDE, 1, 1, 1, 1, 5);
            four.law(law);
            due(0, four.gains());
        }
    }

    private static void order() {
        says("28: BEYOND: no such SIDE");
        refusedOut(() -> pair(1, 2), 0, 1, (x, v) -> x.order(v));
        refusedOut(EdgesTest::rich, 0, 5, (x, v) -> x.order(v));
        refused(EdgesTest::fresh, x -> x.order(0), BEYOND);
        says("28: NONE: all are played");
        refused(EdgesTest::ended, x -> x.order(0), NONE);
        refused(() -> sides(1), x -> x.order(0), NONE);
        says("28: SIZE: more than 4 aren't played");
        for (int games = 5; games <= 8; games++) {
            int n = games;
            refused(() -> likeGames(n), x -> x.order(1), SIZE);
        }
        says("28: of several the first, by numbers as they are now, as digits (1 to 4 of them)");
        int[] due = {0, 1, 12, 123};
        for (int games = 1; games <= 4; games++) {
            due(due[games - 1], likeGames(games).order(0));
            due(due[games - 1], likeGames(games).order(1));
        }
        int[] behind = {4567, 567, 67, 7};
        TwiceRunning x = likeGames(8);
        for (int played = 1; played <= 7; played++) {
            x.win(0);
            due(played < 4 ? SIZE : behind[played - 4], x.order(1));
        }
        says("28: the last of all orders can be it, and nothing changes");
        // By LAW 1 who loses surely gets the second GAME alone.
        TwiceRunning y = pairOf(TOLD, 1, SIDE, 1, 9, 1);
        due(10, y.order(0));
        due(1, y.order(1));
        due(9, y.gameOf(0, 2));
        due(0, y.count(2));
        says("28: orders of all of the GAMES, each of them once");
        TwiceRunning once = sides(3);
        once.law(3);
        once.game(1, 2, 5);
        once.game(0, 1, 5);
        due(1, once.order(0));
        due(1, once.order(1));
        TwiceRunning turned = sides(3);
        turned.law(3);
        turned.game(0, 1, 5);
        turned.game(1, 2, 5);
        due(1, turned.order(0));
        says("28: the last of all orders of 4");
        TwiceRunning z = chain();
        due(3210, z.order(1));
        z.swap(0, 3);
        z.swap(1, 2);
        dueTerms(7, 8, z.first(1, 0), z.first(1, 1));
        due(123, z.order(1));
    }

    private static TwiceRunning likeGames(int n) {
        int[] worths = new int[n];
        java.util.Arrays.fill(worths, 1);
        return pair(worths);
    }

    /**
     * Side 1 never wins: it gets the GAME 0 if 0 is BARRED by the GAME 1, which it gets surely if 2 is BARRED
     * by the GAME 2, and that one likewise by 3 and the GAME 3: 7/8 by the last of all orders, else 3/4 at most.
     */
    private static TwiceRunning chain() {
        TwiceRunning x = sides(5);
        x.change(1, 0, TOLD);
        x.game(0, 1, 4);
        x.game(0, 2, 1);
        x.game(2, 3, 1);
        x.game(3, 4, 1);
        return x;
    }

    private static void wronged() {
        says("31: none of the GAMES to come, if there are none");
        due(0, fresh().wronged());
        due(0, ended().wronged());
        says("31: none if alike by STRENGTH");
        due(0, pairOf(TOLD, 5, TRY, 5, 1, 1, 1).wronged());
        says("31: less likely, not as likely");
        due(0, pairOf(TOLD, 9, TOLD, 1, 1).wronged());
        due(0, pairOf(TOLD, 1, TOLD, 9, 1).wronged());
        due(0, pairOf(SIDE, 9, TOLD, 8, 1).wronged());
        due(1, pairOf(TOLD, 9, SIDE, 8, 1).wronged());
        due(1, pairOf(SIDE, 8, TOLD, 9, 1).wronged());
        says("31: of the GAMES to come alone, up to all 8");
        TwiceRunning x = pairOf(TOLD, 9, SIDE, 1, 1, 1, 1, 1, 1, 1, 1, 1);
        x.law(3);
        // The weaker one gets three, the stronger one the fourth: the 4th and the 8th.
        due(6, x.wronged());
        x.win(1);
        due(5, x.wronged());
        x.win(1);
        x.win(1);
        due(3, x.wronged());
    }

    private static void tries() {
        says("32: BEYOND: no such SIDE, n is 1 to 40 (and z is as it was)");
        refusedOut(() -> pair(1, 2), 0, 1, (x, v) -> x.tries(v, 1));
        refusedOut(() -> pair(1, 2), 1, 40, (x, v) -> x.tries(0, v));
        refused(EdgesTest::fresh, x -> x.tries(0, 1), BEYOND);
        says("32: n seasons are drawn as by play(), and taken back; z goes on");
        for (int n : new int[] {1, 2, 39, 40}) {
            for (int played = 0; played <= 3; played++) {
                TwiceRunning x = pairOf(TRY, 4, TRY, 5, 4, 3, 3);
                x.law(3);
                for (int g = 0; g < played; g++) {
                    x.win(g % 2);
                }
                x.seed(-99 - n);
                x.image();
                int firsts = 0;
                for (int i = 0; i < n; i++) {
                    for (int g = played; g < 3; g++) {
                        x.play();
                    }
                    firsts += x.leads();
                    int z = x.count(5);
                    x.undo();
                    x.seed(z);
                }
                int z = x.count(5);
                x.undo();
                List<Long> before = new ArrayList<>();
                look(x, before);
                due(firsts, x.tries(1, n));
                due(z, x.count(5));
                x.seed(-99 - n);
                due(n - firsts, x.tries(0, n));
                x.seed(-99 - n);
                List<Long> after = new ArrayList<>();
                look(x, after);
                due(1, before.equals(after) ? 1 : 0);
            }
        }
        says("32: with no GAMES to come z is as it was");
        TwiceRunning x = ended();
        due(40, x.tries(1, 40));
        due(0, x.tries(0, 40));
        due(1, x.count(5));
        due(1, sides(1).tries(0, 1));
    }

    // ---- promises 34 to 40: spots, sheets

    private static void hold() {
        says("34: BEYOND: SPOTS are 0 to 9");
        refusedOut(EdgesTest::rich, 0, 9, (x, v) -> x.hold(v, 0));
        refusedOut(EdgesTest::rich, 0, 9, (x, v) -> x.hold(v, -1));
        says("34: BEYOND: no such SIDE");
        refusedOut(EdgesTest::rich, -1, 5, (x, v) -> x.hold(0, v));
        refusedOut(() -> sides(1), -1, 0, (x, v) -> x.hold(9, v));
        says("34: a SPOT holds a SIDE, or nothing (-1): 1");
        TwiceRunning x = sides(6);
        for (int spot = 0; spot <= 9; spot++) {
            due(1, x.hold(spot, spot % 6));
            due(spot + 1, x.count(6));
            due(spot % 6, x.as(spot, 0));
        }
        for (int spot = 0; spot <= 9; spot++) {
            due(1, x.hold(spot, -1));
            due(1, x.hold(spot, -1));
            due(9 - spot, x.count(6));
            due(MISSING, x.as(spot, 0));
        }
        due(1, fresh().hold(0, -1));
    }

    private static void as() {
        says("35: BEYOND: no such SPOT, no such kind");
        refusedOut(EdgesTest::rich, 0, 9, (x, v) -> x.as(v, 0));
        refusedOut(EdgesTest::rich, 0, 6, (x, v) -> x.as(0, v));
        refusedOut(EdgesTest::rich, 0, 6, (x, v) -> x.as(1, v));
        says("35: MISSING: it holds nothing");
        for (int kind : KINDS) {
            refused(EdgesTest::rich, x -> x.as(1, kind), MISSING);
        }
        says("35: KIND: it isn't of that kind, nor of one under it");
        int[] above = {-1, SIDE, SIDE, SPARE, SPARE, TRY, SIDE};
        for (int kind : KINDS) {
            for (int asked : KINDS) {
                Supplier<TwiceRunning> held = () -> {
                    TwiceRunning x = sides(2);
                    x.change(1, 0, kind);
                    x.hold(7, 1);
                    return x;
                };
                if (asked == kind || asked == above[kind] || asked == SIDE) {
                    due(1, held.get().as(7, asked));
                } else {
                    refused(held, x -> x.as(7, asked), KIND);
                }
            }
        }
        says("35: its KIND as it is now");
        TwiceRunning x = sides(1);
        x.hold(0, 0);
        due(KIND, x.as(0, TRY));
        x.change(0, 0, BAR);
        due(0, x.as(0, TRY));
    }

    private static void sheet() {
        says("36: BEYOND: no such sheet");
        refusedOut(EdgesTest::rich, 0, 3, (x, v) -> x.sheet(v, 8, 1));
        refusedOut(EdgesTest::rich, 0, 3, (x, v) -> x.sheet(v, 0, 1));
        says("36: BEYOND: other bits than 0, 8, 16, 32");
        for (int bits : new int[] {-32, -8, -1, 1, 4, 7, 9, 15, 17, 24, 31, 33, 64, 256, LEAST_INT, MOST_INT}) {
            refused(EdgesTest::rich, x -> x.sheet(0, bits, 1), BEYOND);
        }
        for (int bits : new int[] {0, 8, 16, 32}) {
            says("36: SIZE: n is below 0 (also with bits 0)");
            for (int n : new int[] {-1, -2, -40, LEAST_INT}) {
                refused(EdgesTest::rich, x -> x.sheet(1, bits, n), SIZE);
            }
            says("36: BEYOND: n is above 40 (also with bits 0)");
            for (int n : new int[] {41, 42, 256, MOST_INT}) {
                refused(EdgesTest::rich, x -> x.sheet(1, bits, n), BEYOND);
            }
            says("36: n (0 if it is MISSING)");
            for (int n = 0; n <= 40; n++) {
                TwiceRunning x = fresh();
                due(bits == 0 ? 0 : n, x.sheet(3, bits, n));
                due(bits == 0 ? MISSING : BEYOND, x.write(3, n, 1));
                due(bits == 0 ? MISSING : n == 0 ? BEYOND : 1, x.write(3, n - 1, 1));
                due(bits == 0 ? MISSING : 0, x.copy(3, n, 3, 0, 0));
            }
        }
        says("36: all 0, also if it had others");
        TwiceRunning x = pair(1, 1, 1);
        for (int bits : new int[] {8, 16, 32}) {
            x.sheet(0, bits, 3);
            for (int i = 0; i < 3; i++) {
                x.write(0, i, 5);
            }
            due(0, x.load(0));
            due(3, x.sheet(0, bits, 3));
            due(3, x.load(0));
            for (int g = 0; g < 3; g++) {
                due(0, x.gameOf(g, 3));
            }
            x.anew();
        }
        says("36: bits 0: it is MISSING, whatever it was");
        due(0, x.sheet(0, 0, 40));
        due(MISSING, x.load(0));
        due(0, x.sheet(0, 0, 0));
        due(MISSING, x.judge(0));
        says("36: a sheet of 0 numbers is not MISSING");
        due(0, x.sheet(0, 8, 0));
        due(0, x.load(0));
        due(0, x.judge(0));
    }

    private static void write() {
        says("37: BEYOND: no such sheet");
        refusedOut(EdgesTest::rich, 0, 3, (x, v) -> x.write(v, 0, 1));
        says("37: MISSING");
        refused(EdgesTest::rich, x -> x.write(3, 0, 1), MISSING);
        refused(EdgesTest::fresh, x -> x.write(0, 40, 1), MISSING);
        says("37: BEYOND: no such number");
        for (int s = 0; s < 3; s++) {
            int sheet = s;
            refusedOut(EdgesTest::rich, 0, 2 + s, (x, v) -> x.write(sheet, v, 1));
            due(1, rich().write(s, 2 + s, 1));
            due(1, rich().write(s, 0, 1));
        }
        says("37: its lowest bits (told with their sign)");
        widths(8, 1L << 8);
        widths(16, 1L << 16);
        widths(32, 1L << 32);
    }

    /** Which numbers are 1 or 0, the two SIDES, by their lowest bits, and which are not. */
    private static void widths(int bits, long range) {
        long[] near = {-3 * range, -2 * range, -range, -range / 2, 0, range / 2, range, 2 * range, 3 * range};
        for (long far : near) {
            for (int v = -2; v <= 3; v++) {
                long number = far + v;
                if (number < LEAST_INT || number > MOST_INT) {
                    continue;
                }
                TwiceRunning x = pair(1, 1);
                x.sheet(0, bits, 1);
                due(1, x.write(0, 0, (int) number));
                boolean isSide = Math.floorMod(number, range) <= 1;
                due(isSide ? 1 : 0, x.load(0));
                due(isSide ? v : NONE, x.gameOf(0, 3));
            }
        }
    }

    private static TwiceRunning twoSheets() {
        TwiceRunning x = pair(1, 1, 1, 1, 1, 1, 1, 1);
        x.sheet(0, 8, 5);
        x.sheet(1, 8, 3);
        x.sheet(2, 16, 5);
        int[] row = {1, 0, 0, 1, 1};
        for (int i = 0; i < 5; i++) {
            x.write(0, i, row[i]);
            x.write(2, i, row[i]);
        }
        return x;
    }

    private static void copyRefused() {
        Supplier<TwiceRunning> league = EdgesTest::twoSheets;
        says("38: BEYOND: no such sheet (either)");
        refusedOut(league, 0, 3, (x, v) -> x.copy(v, 0, 0, 0, 0));
        refusedOut(league, 0, 3, (x, v) -> x.copy(0, 0, v, 0, 0));
        refusedOut(league, 0, 3, (x, v) -> x.copy(v, 0, 3, 0, 0));
        says("38: MISSING: one is");
        refused(league, x -> x.copy(3, 0, 0, 0, 0), MISSING);
        refused(league, x -> x.copy(0, 0, 3, 0, 0), MISSING);
        refused(league, x -> x.copy(3, 0, 3, 0, 0), MISSING);
        says("38: KIND: they are not of as many bits");
        refused(league, x -> x.copy(0, 0, 2, 0, 0), KIND);
        refused(league, x -> x.copy(2, 0, 0, 0, 1), KIND);
        refused(league, x -> x.copy(2, 9, 0, 0, 1), KIND);
        says("38: BEYOND: one has not so many, or from, to or n is below 0");
        int[] numbers = {LEAST_INT, -1, 0, 1, 2, 3, 4, 5, 6, MOST_INT};
        int[] size = {5, 3};
        for (int pairs = 0; pairs < 4; pairs++) {
            int s = pairs / 2;
            int t = pairs % 2;
            for (int from : numbers) {
                for (int to : numbers) {
                    for (int n : numbers) {
                        boolean fits = from >= 0 && to >= 0 && n >= 0 && (long) from + n <= size[s]
                            && (long) to + n <= size[t];
                        due(fits ? n : BEYOND, twoSheets().copy(s, from, t, to, n));
                    }
                }
            }
        }
        refused(league, x -> x.copy(0, 0, 1, 0, 4), BEYOND);
        refused(league, x -> x.copy(1, 0, 0, 0, 4), BEYOND);
        refused(league, x -> x.copy(0, -1, 0, 0, 2), BEYOND);
        refused(league, x -> x.copy(0, 0, 0, -1, 2), BEYOND);
        refused(league, x -> x.copy(0, 1, 0, 1, -1), BEYOND);
        refused(league, x -> x.copy(0, MOST_INT, 0, 0, MOST_INT), BEYOND);
        refused(league, x -> x.copy(0, 1, 0, 0, MOST_INT), BEYOND);
    }

    private static void copy() {
        says("38: n numbers come to another one (as they all were): n, also within one sheet");
        int[] row = {1, 0, 0, 1, 1};
        for (int from = 0; from <= 5; from++) {
            for (int to = 0; to <= 5; to++) {
                for (int n = 0; n <= 5 - Math.max(from, to); n++) {
                    TwiceRunning x = twoSheets();
                    due(n, x.copy(2, from, 2, to, n));
                    due(5, x.load(2));
                    for (int i = 0; i < 5; i++) {
                        due(i >= to && i < to + n ? row[i - to + from] : row[i], x.gameOf(i, 3));
                    }
                }
            }
        }
        says("38: what it comes from stays");
        TwiceRunning x = twoSheets();
        due(3, x.copy(0, 2, 1, 0, 3));
        due(3, x.load(1));
        int[] came = {0, 1, 1};
        for (int i = 0; i < 3; i++) {
            due(came[i], x.gameOf(i, 3));
        }
        x.anew();
        due(5, x.load(0));
        for (int i = 0; i < 5; i++) {
            due(row[i], x.gameOf(i, 3));
        }
    }

    private static void load() {
        says("39: BEYOND: no such sheet");
        refusedOut(EdgesTest::rich, 0, 3, (x, v) -> x.load(v));
        says("39: MISSING");
        refused(EdgesTest::rich, x -> x.load(3), MISSING);
        says("39: it ends at the first that isn't one of the two of its GAME");
        for (int bad : new int[] {-1, 2, 3, 6, LEAST_INT, MOST_INT}) {
            for (int place = 0; place < 4; place++) {
                TwiceRunning x = pair(1, 1, 1, 1);
                x.side(SIDE, 1);
                x.sheet(0, 32, 4);
                x.write(0, place, bad);
                due(place, x.load(0));
                due(place, x.count(2));
                due(0, x.status(-1));
            }
        }
        says("39: or if all are played");
        for (int n = 0; n <= 40; n += 4) {
            TwiceRunning x = likeGames(8);
            x.sheet(0, 8, n);
            due(Math.min(8, n), x.load(0));
            due(Math.min(8, n), x.count(2));
            due(Math.max(0, Math.min(8 - n, n)), x.load(0));
        }
        TwiceRunning none = fresh();
        none.sheet(0, 8, 1);
        due(0, none.load(0));
        TwiceRunning ended = ended();
        ended.sheet(0, 8, 1);
        due(0, ended.load(0));
        says("39: of the next GAMES, from the sheet's begin on");
        TwiceRunning x = pair(1, 1, 1);
        x.win(1);
        x.sheet(0, 8, 1);
        due(1, x.load(0));
        due(2, x.count(2));
        due(1, x.load(0));
        due(0, x.load(0));
    }

    private static int judged(TwiceRunning x, int... numbers) {
        x.sheet(1, 32, numbers.length);
        for (int i = 0; i < numbers.length; i++) {
            x.write(1, i, numbers[i]);
        }
        int played = x.count(2);
        int answer = x.judge(1);
        due(played, x.count(2));
        due(0, x.status(-1));
        return answer;
    }

    private static void judge() {
        says("40: BEYOND: no such sheet");
        refusedOut(EdgesTest::rich, 0, 3, (x, v) -> x.judge(v));
        says("40: MISSING");
        refused(EdgesTest::rich, x -> x.judge(3), MISSING);
        int[] right = {0, 0, 0, 1, 0, 0, 1, 1};
        says("40: 0 if all are right, also if there are none, or fewer than GAMES");
        for (int n = 0; n <= 8; n += 2) {
            due(0, judged(pair(1, 1, 1, 1), java.util.Arrays.copyOf(right, n)));
        }
        due(0, judged(fresh()));
        due(0, judged(ended()));
        says("40: else 1 and the place of the first that isn't");
        for (int place = 0; place < 8; place++) {
            for (int bad : new int[] {-1, 2, 7, LEAST_INT, MOST_INT}) {
                int[] row = right.clone();
                row[place] = bad;
                due(1 + place, judged(pair(1, 1, 1, 1), row));
            }
            int[] row = right.clone();
            row[place | 1] = 1 - row[place | 1];
            due(1 + (place | 1), judged(pair(1, 1, 1, 1), row));
        }
        says("40: or for which there is no GAME");
        for (int games = 0; games < 4; games++) {
            due(1 + 2 * games, judged(likeGames(games), right));
        }
        due(1, judged(ended(), 0, 0));
        due(1, judged(ended(), 0));
        due(1, judged(fresh(), 0));
        due(3, judged(pair(1), 0, 0, 0));
        says("40: a winner without the other number: 1 and how many there are");
        for (int n = 1; n <= 7; n += 2) {
            due(1 + n, judged(pair(1, 1, 1, 1), java.util.Arrays.copyOf(right, n)));
        }
        says("40: of the GAMES to come; all 40 numbers of a sheet");
        TwiceRunning x = likeGames(8);
        x.win(0);
        due(15, judged(x, new int[] {0, 1, 0, 0, 0, 1, 0, 0, 0, 1, 0, 0, 0, 1, 0, 0}));
        due(0, judged(x, 0, 1, 1, 0));
        due(17, judged(likeGames(8), longRow(40)));
        due(17, judged(likeGames(8), longRow(39)));
        due(0, judged(likeGames(8), longRow(16)));
    }

    /** Side 0 wins always, and by LAW 1 is given every second GAME. */
    private static int[] longRow(int n) {
        int[] row = new int[n];
        for (int i = 1; i < n; i += 2) {
            row[i] = i / 2 % 2;
        }
        return row;
    }

    // ---- promises 41 to 45: images

    private static void images() {
        says("42: NONE: nothing is kept");
        refused(EdgesTest::fresh, x -> x.undo(), NONE);
        refused(EdgesTest::ended, x -> x.undo(), NONE);
        says("43: 1 if something was kept, else 0; nothing is kept then");
        TwiceRunning torn = rich();
        due(1, torn.tear());
        due(0, torn.tear());
        due(NONE, torn.undo());
        due(3, torn.count(2));
        says("41: an image of nothing is one, too");
        TwiceRunning empty = fresh();
        due(1, empty.image());
        empty.side(SIDE, 1);
        empty.side(SIDE, 2);
        empty.game(0, 1, 1);
        empty.win(0);
        empty.hold(3, 1);
        empty.law(3);
        empty.seed(5);
        due(0, empty.undo());
        int[] counts = {0, 0, 0, 1, 0, 1, 0};
        for (int what = 0; what <= 6; what++) {
            due(counts[what], empty.count(what));
        }
        says("42: what was kept latest, which stays: how many GAMES are played");
        TwiceRunning x = rich();
        due(1, x.undo());
        due(1, x.undo());
        x.win(2);
        due(1, x.image());
        x.anew();
        due(2, x.undo());
        x.win(4);
        due(2, x.undo());
        says("41: all but THE TAPE and SHEETS is kept");
        TwiceRunning y = rich();
        y.undo();
        int[] kept = {6, 8, 1, 1, 117, 1234567, 3};
        for (int what = 0; what <= 6; what++) {
            due(kept[what], y.count(what));
        }
        y.anew();
        due(3, y.load(0));
        due(2, y.text());
        says("41: THE TAPE and SHEETS don't come back");
        TwiceRunning z = sides(2);
        feed(z, "law 2");
        z.sheet(0, 8, 1);
        z.image();
        z.wipe();
        z.sheet(0, 0, 0);
        z.undo();
        due(0, z.count(4));
        due(MISSING, z.load(0));
        says("41: what comes later changes nothing of the image");
        TwiceRunning w = rich();
        w.undo();
        List<Long> first = new ArrayList<>();
        look(w, first);
        for (int s = 0; s < 6; s++) {
            w.change(s, 0, TOLD);
            w.change(s, 1, 8);
            w.change(s, 2, 8);
        }
        w.swap(1, 7);
        w.play();
        w.play();
        w.play();
        w.hold(0, -1);
        w.hold(1, 5);
        w.undo();
        List<Long> second = new ArrayList<>();
        look(w, second);
        due(1, first.equals(second) ? 1 : 0);
    }

    private static void count() {
        says("44: BEYOND: another what");
        refusedOut(EdgesTest::rich, 0, 6, (x, v) -> x.count(v));
        says("44: all as full as it can be");
        TwiceRunning x = sides(6);
        for (int g = 0; g < 8; g++) {
            x.game(0, 1, 1);
        }
        for (int g = 0; g < 8; g++) {
            x.win(0);
        }
        for (int spot = 0; spot < 10; spot++) {
            x.hold(spot, 0);
        }
        feed(x, " ".repeat(120));
        x.law(3);
        x.seed(LEAST_INT);
        int[] counts = {6, 8, 8, 3, 120, LEAST_INT, 10};
        for (int what = 0; what <= 6; what++) {
            due(counts[what], x.count(what));
        }
    }

    private static void status() {
        says("45: BEYOND (counted from then on): another one");
        TwiceRunning x = fresh();
        int counted = 0;
        for (int which : outOf(-1, 6)) {
            if (which < -1 || which > 6) {
                due(counted, x.status(0));
                due(counted, x.status(-1));
                due(BEYOND, x.status(which));
                counted++;
            }
        }
        due(counted, x.status(0));
        says("45: 0 to 6: BEYOND to SIZE, each counted as itself; -1: all");
        List<ToLongFunction<TwiceRunning>> calls = List.of(y -> y.law(0), y -> y.game(0, 1, 1), y -> y.as(0, TRY),
            y -> y.gameOf(7, 3), y -> y.swap(0, 7), y -> y.write(3, 0, 0), y -> y.order(0));
        for (int which = 0; which <= 6; which++) {
            TwiceRunning y = rich();
            for (int times = 1; times <= 3; times++) {
                due(BEYOND - which, calls.get(which).applyAsLong(y));
                for (int asked = 0; asked <= 6; asked++) {
                    due(asked == which ? times : 0, y.status(asked));
                }
                due(times, y.status(-1));
            }
        }
        says("45: undo() takes none back, nor do anew(), wipe(), tear()");
        TwiceRunning z = rich();
        z.image();
        for (ToLongFunction<TwiceRunning> call : calls) {
            call.applyAsLong(z);
        }
        z.undo();
        z.anew();
        z.wipe();
        z.tear();
        for (int which = 0; which <= 6; which++) {
            due(1, z.status(which));
        }
        due(7, z.status(-1));
        says("45: what is asked in calls of its own counts nothing: all that answers well");
        TwiceRunning w = rich();
        w.kindFor(0);
        w.tellsFor(5);
        w.lawFor(3);
        w.best(0);
        w.gains();
        w.wronged();
        w.tries(4, 40);
        w.ways();
        w.judge(0);
        w.text();
        due(0, w.status(-1));
    }

    public static void main(String[] args) {
        findings();
        findingsInLongs();
        anyZ();
        barred();
        tired();
        efforts();
        chances();
        given();
        newObject();
        side();
        sideOf();
        change();
        game();
        gameOf();
        swap();
        law();
        tape();
        textNumbers();
        textTokens();
        textForm();
        textCounts();
        next();
        win();
        play();
        anew();
        leadsAndPlace();
        waysBeyond();
        waysOfNothing();
        waysOfOne();
        waysOfMany();
        best();
        kindTellsLaw();
        order();
        wronged();
        tries();
        hold();
        as();
        sheet();
        write();
        copyRefused();
        copy();
        load();
        judge();
        images();
        count();
        status();
        System.out.println(SENTENCES.size() + " sentences on edges: " + (wrong == 0 ? "all hold" : wrong + " answers are not as due"));
        if (wrong != 0) {
            System.exit(1);
        }
    }
}
