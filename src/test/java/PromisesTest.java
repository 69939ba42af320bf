/** Promise by promise: answers worked out by hand from the document, its edges, and wrong inputs. */
public final class PromisesTest {
    private static final int BEYOND = -1000001;
    private static final int FULL = -1000002;
    private static final int KIND = -1000003;
    private static final int NONE = -1000004;
    private static final int STATE = -1000005;
    private static final int MISSING = -1000006;
    private static final int SIZE = -1000007;
    private static final int SIDE = 0;
    private static final int TRY = 1;
    private static final int SPARE = 2;
    private static final int CHOOSE = 3;
    private static final int FEED = 4;
    private static final int BAR = 5;
    private static final int TOLD = 6;
    private static final int[] FAR = {Integer.MIN_VALUE, -2, Integer.MAX_VALUE};

    private static int wrong = 0;
    private static int promise = 0;
    private static int row = 0;

    private static void begin(int number) {
        promise = number;
        row = 0;
    }

    private static void due(long want, long got) {
        row++;
        if (got != want) {
            wrong++;
            System.out.println("promise " + promise + ", check " + row + ": answered " + got + ", due is " + want);
        }
    }

    private static void dueTerms(long above, long below, long gotAbove, long gotBelow) {
        due(above, gotAbove);
        due(below, gotBelow);
    }

    /** Two like SIDES of strength 1, and games of these worths between 0 and 1. */
    private static TwiceRunning pair(int... worths) {
        return pairOf(SIDE, 1, SIDE, 1, worths);
    }

    private static TwiceRunning pairOf(int kind, int strength, int otherKind, int otherStrength, int... worths) {
        TwiceRunning x = new TwiceRunning();
        x.side(kind, strength);
        x.side(otherKind, otherStrength);
        for (int worth : worths) {
            x.game(0, 1, worth);
        }
        return x;
    }

    private static void feed(TwiceRunning x, String text) {
        for (int i = 0; i < text.length(); i++) {
            x.feed(text.charAt(i), 1);
        }
    }

    private static int text(TwiceRunning x, String text) {
        feed(x, text);
        return x.text();
    }

    private static int textOfNew(String text) {
        return text(new TwiceRunning(), text);
    }

    private static void newObject() {
        begin(1);
        TwiceRunning x = new TwiceRunning();
        int[] counts = {0, 0, 0, 1, 0, 1, 0};
        for (int what = 0; what < counts.length; what++) {
            due(counts[what], x.count(what));
        }
        due(0, x.status(-1));
        due(0, x.tear());
        due(NONE, x.undo());
        due(MISSING, x.load(0));
        due(MISSING, x.as(9, 0));
    }

    private static void side() {
        begin(2);
        TwiceRunning x = new TwiceRunning();
        due(BEYOND, x.side(-1, 1));
        due(BEYOND, x.side(7, 1));
        due(BEYOND, x.side(0, 0));
        due(BEYOND, x.side(0, 10));
        for (int s = 0; s < 6; s++) {
            due(s, x.side(s, s + 1));
            due(0, x.sideOf(s, 2));
        }
        due(FULL, x.side(6, 9));
        due(BEYOND, x.side(7, 9));
        due(6, x.count(0));
    }

    private static void sideOf() {
        begin(3);
        TwiceRunning x = pairOf(TRY, 4, SIDE, 9, 3, 5, 7);
        x.win(0);
        x.win(0);
        int[] first = {TRY, 4, 0, 3, 0, 1, 2, 1};
        int[] other = {SIDE, 9, 0, 5, 1, 0, 2, 1};
        for (int what = 0; what < 8; what++) {
            due(first[what], x.sideOf(0, what));
            due(other[what], x.sideOf(1, what));
        }
        due(BEYOND, x.sideOf(2, 0));
        due(BEYOND, x.sideOf(-1, 0));
        due(BEYOND, x.sideOf(0, 8));
        due(BEYOND, x.sideOf(0, -1));
        x.law(2);
        due(0, x.sideOf(1, 4));
        due(0, x.sideOf(x.side(0, 1), 6));
    }

    private static void change() {
        begin(4);
        TwiceRunning x = pair(1);
        due(0, x.change(0, 0, 6));
        due(6, x.change(0, 0, 1));
        due(1, x.change(0, 1, 9));
        due(0, x.change(0, 2, 9));
        due(9, x.change(0, 2, 0));
        due(9, x.sideOf(0, 1));
        int[][] bad = {{0, 0, 7}, {0, 0, -1}, {0, 1, 0}, {0, 1, 10}, {0, 2, -1}, {0, 2, 10}, {0, 3, 1}, {0, -1, 1}, {2, 1, 1}, {-1, 1, 1}};
        for (int[] b : bad) {
            due(BEYOND, x.change(b[0], b[1], b[2]));
        }
        // It was tired by its effort as it was then, whatever its kind is now.
        x.win(0);
        x.change(0, 0, SIDE);
        due(1, x.sideOf(0, 5));
    }

    private static void game() {
        begin(5);
        TwiceRunning x = pair();
        int[][] bad = {{0, 0, 1}, {0, 2, 1}, {2, 0, 1}, {-1, 0, 1}, {0, -1, 1}, {0, 1, 0}, {0, 1, 10}};
        for (int g = 0; g < 8; g++) {
            for (int[] b : bad) {
                due(BEYOND, x.game(b[0], b[1], b[2]));
            }
            due(g, x.game(g % 2, 1 - g % 2, 9));
        }
        due(FULL, x.game(0, 1, 9));
        due(BEYOND, x.game(0, 1, 10));
        due(8, x.count(1));
    }

    private static void gameOf() {
        begin(6);
        TwiceRunning x = pair(4, 6);
        due(0, x.gameOf(1, 0));
        due(1, x.gameOf(1, 1));
        due(6, x.gameOf(1, 2));
        due(NONE, x.gameOf(0, 3));
        due(NONE, x.gameOf(0, 4));
        x.win(1);
        x.win(1);
        due(1, x.gameOf(1, 3));
        due(0, x.gameOf(1, 4));
        due(BEYOND, x.gameOf(2, 0));
        due(BEYOND, x.gameOf(-1, 0));
        due(BEYOND, x.gameOf(0, 5));
        due(BEYOND, x.gameOf(0, -1));
        x.anew();
        due(BEYOND, x.gameOf(2, 3));
        due(NONE, x.gameOf(0, 3));
    }

    private static void swap() {
        begin(7);
        TwiceRunning x = pair(1, 2, 3);
        due(1, x.swap(0, 2));
        due(3, x.gameOf(0, 2));
        due(1, x.gameOf(2, 2));
        due(1, x.swap(1, 1));
        x.win(0);
        due(STATE, x.swap(0, 1));
        due(STATE, x.swap(2, 0));
        due(STATE, x.swap(0, 0));
        due(BEYOND, x.swap(0, 3));
        due(BEYOND, x.swap(-1, 0));
        due(1, x.swap(2, 1));
        due(1, x.gameOf(1, 2));
        due(1, x.swap(1, 2));
        due(1, x.swap(1, 2));
        due(1, x.gameOf(1, 2));
    }

    private static void law() {
        begin(8);
        TwiceRunning x = pair(1, 1, 1, 1, 1);
        due(BEYOND, x.law(0));
        due(BEYOND, x.law(4));
        due(1, x.law(3));
        x.win(0);
        x.win(0);
        due(0, x.sideOf(0, 4));
        due(3, x.law(2));
        due(1, x.sideOf(0, 4));
        due(2, x.law(3));
        due(0, x.win(0));
        due(1, x.sideOf(0, 4));
        due(1, x.win(0));
        due(0, x.sideOf(0, 4));
        // With one game played by a law of 2 nobody is barred yet.
        TwiceRunning y = pair(1, 1);
        y.law(2);
        y.win(0);
        due(0, y.sideOf(0, 4));
    }

    private static void tape() {
        begin(9);
        TwiceRunning x = new TwiceRunning();
        due(BEYOND, x.feed(0, 0));
        due(BEYOND, x.feed(0, 5));
        due(BEYOND, x.feed(0, -1));
        due(3, x.feed(0x6b6c6177, 3));
        due(4, x.feed(0xffffff33, 1));
        due(1, x.text());
        due(3, x.count(3));
        for (int n = 4; n <= 116; n += 4) {
            due(n, x.feed(-1, 4));
        }
        due(117, x.feed(-1, 1));
        due(FULL, x.feed(-1, 4));
        due(117, x.count(4));
        due(120, x.feed(-1, 3));
        due(FULL, x.feed(-1, 1));
        due(BEYOND, x.feed(-1, 0));
        begin(10);
        due(120, x.wipe());
        due(0, x.wipe());
        due(0, x.count(4));
    }

    private static void texts() {
        begin(11);
        TwiceRunning x = new TwiceRunning();
        due(8, text(x, "side 1;try2; spare 03 tells 9 ;choose 4;feed 5tells0;told 9 tells 7;game0 5;game 5 1worth8"));
        int[] kinds = {0, 1, 2, 3, 4, 6};
        for (int s = 0; s < 6; s++) {
            due(kinds[s], x.sideOf(s, 0));
        }
        due(9, x.sideOf(2, 2));
        due(7, x.sideOf(5, 2));
        due(1, x.gameOf(0, 2));
        due(8, x.gameOf(1, 2));
        due(5, x.gameOf(0, 1));
        due(0, x.count(4));
        // The word of a 7th side, behind what could stand.
        due(-1 - 6, text(x, "law 2;bar 1"));
        due(1, x.count(3));
        due(2, text(x, " law 1 ; law 3 "));
        due(3, x.count(3));
        due(6, text(x, "game 0 1;game 0 1;game 0 1;game 0 1;game 0 1;game 0 1"));
        due(-1, text(x, "game 0 1"));
        due(8, x.count(1));
        due(0, x.status(-1));
        String[] texts = {"", "  ", "side", "side ", "side x", "side 10", "side 1 tells", "side 1 tells 10",
            "side 1;", "side 1; ", "side 1 side 2", "side 1 worth 1", "sidex 1", "Side 1", "side 1;game 0 1",
            "side 1;side 1;game 1 1", "side 1;side 1;game 0 1 worth 0", "side 1;side 1;game 0 1 tells 1",
            "law 1 2", "law 1000", "law 99999999999999999999", "law 4294967297", "law 0", "law\t1", ";", "5",
            "tells 1", "law 1;;", "law 1?", "game 0 0", "side 1 ; game", "law 2 \u00e9"};
        int[] faults = {0, 2, 4, 5, 5, 5, 12, 13, 7, 8, 7, 7, 0, 0, 14, 21, 29, 23, 6, 4, 4, 4, 4, 3, 0, 0, 0, 6, 5, 5, 13, 6};
        due(texts.length, faults.length);
        for (int i = 0; i < texts.length; i++) {
            TwiceRunning y = new TwiceRunning();
            due(-1 - faults[i], text(y, texts[i]));
            due(0, y.count(0) + y.count(1) + y.count(4) + y.status(-1));
            due(1, y.count(3));
        }
        due(1, textOfNew("side 009tells000"));
        due(1, textOfNew("bar9"));
        due(-1, textOfNew("zide 1"));
        due(-1, textOfNew("lawz 1"));
        due(-1 - 4, textOfNew("law zzz"));
        due(-1 - 14, textOfNew("side 1;side 2;sid"));
        due(3, textOfNew("side 1;side 2;game 1 0 worth 1"));
        textsBehindOthers();
        fullTapes();
    }

    /** What stood on the tape before is no part of a text that is fed later. */
    private static void textsBehindOthers() {
        String[] before = {"lawlaw", "law 11", "law 1 ;"};
        String[] texts = {"law", "law 1", "law 1"};
        int[] answers = {-1 - 3, 1, 1};
        for (int i = 0; i < texts.length; i++) {
            TwiceRunning x = new TwiceRunning();
            feed(x, before[i]);
            x.wipe();
            due(answers[i], text(x, texts[i]));
        }
        TwiceRunning y = new TwiceRunning();
        due(-1 - 6, text(y, "law 2 law"));
        due(1, text(y, "law 2 "));
        due(0, y.side(SIDE, 1));
        due(1, text(y, "side 3 tells 4"));
        due(3, y.sideOf(1, 1));
        due(4, y.sideOf(1, 2));
    }

    /** Texts that end with the last byte that the tape can have. */
    private static void fullTapes() {
        String blanks = " ".repeat(120);
        due(-1 - 120, textOfNew(blanks));
        due(-1 - 117, textOfNew(blanks.substring(3) + "foo"));
        due(-1 - 120, textOfNew(blanks.substring(3) + "law"));
        due(1, textOfNew(blanks.substring(4) + "law3"));
        due(1, textOfNew("law" + "0".repeat(116) + "3"));
        due(1, textOfNew("law3" + blanks.substring(4)));
        due(-1 - 120, textOfNew("law3" + blanks.substring(5) + ";"));
        due(24, textOfNew("law1;".repeat(23) + "law2 "));
        due(-1, textOfNew("a".repeat(120)));
    }

    private static void next() {
        begin(12);
        TwiceRunning x = pairOf(TRY, 3, SIDE, 4, 1, 1);
        int[] before = {3, 2, 5, 9, 8};
        int[] after = {3, 2, 4, 6, 8};
        for (int what = 0; what < 5; what++) {
            due(before[what], x.next(what));
        }
        x.win(0);
        for (int what = 0; what < 5; what++) {
            due(after[what], x.next(what));
        }
        due(BEYOND, x.next(5));
        due(BEYOND, x.next(-1));
        x.win(0);
        due(NONE, x.next(0));
        due(BEYOND, x.next(5));
        efforts();
    }

    private static void efforts() {
        int[] free = {2, 3, 2, 2, 2, 3, 0};
        int[] barred = {2, 3, 1, 0, 1, 3, 0};
        int[] otherBarred = {2, 3, 2, 3, 2, 3, 0};
        for (int kind = 0; kind <= 6; kind++) {
            TwiceRunning x = pairOf(kind, 1, SIDE, 1, 1, 1);
            due(free[kind], x.next(0));
            x.image();
            x.win(0);
            due(barred[kind], x.next(0));
            x.undo();
            x.win(1);
            due(otherBarred[kind], x.next(0));
        }
        // FEED looks at its own next game, and at a greater worth alone.
        TwiceRunning x = pairOf(FEED, 1, SIDE, 1, 4);
        x.side(SIDE, 1);
        x.game(1, 2, 9);
        x.game(2, 0, 4);
        x.game(1, 0, 9);
        due(2, x.next(0));
        x.swap(2, 3);
        due(0, x.next(0));
        x.win(0);
        x.swap(1, 3);
        x.game(0, 1, 9);
        due(1, x.next(1));
        TwiceRunning y = pairOf(BAR, 1, TOLD, 1, 4);
        y.change(0, 2, 4);
        y.change(1, 2, 2);
        due(3, y.next(0));
        due(2, y.next(1));
        y.change(0, 2, 5);
        y.change(1, 2, 9);
        due(0, y.next(0));
        due(3, y.next(1));
        due(0, y.next(2));
        y.change(1, 2, 0);
        due(5, y.next(2));
        due(0, y.next(4));
        // A tired one of strength 1 keeps 1.
        TwiceRunning w = pairOf(TRY, 1, SIDE, 1, 1, 1);
        w.win(1);
        due(3, w.next(3));
        due(6, w.next(2));
    }

    private static void win() {
        begin(13);
        TwiceRunning x = new TwiceRunning();
        due(NONE, x.win(0));
        x = pair(5, 1, 3);
        x.side(SIDE, 1);
        due(BEYOND, x.win(2));
        due(BEYOND, x.win(-1));
        due(1, x.win(1));
        due(0, x.win(1));
        due(1, x.win(0));
        due(NONE, x.win(0));
        due(NONE, x.win(7));
        // Both barred: the one with less points, then the lesser number, whoever won.
        for (int winner = 1; winner <= 2; winner++) {
            TwiceRunning y = new TwiceRunning();
            for (int s = 0; s < 4; s++) {
                y.side(SIDE, 1);
            }
            y.game(1, 0, 3);
            y.game(2, 3, 2);
            y.game(1, 2, 1);
            y.win(1);
            y.win(2);
            due(2, y.win(winner));
            due(3, y.sideOf(2, 3));
        }
        TwiceRunning z = new TwiceRunning();
        for (int s = 0; s < 4; s++) {
            z.side(SIDE, 1);
        }
        z.game(1, 0, 2);
        z.game(2, 3, 2);
        z.game(2, 1, 9);
        z.win(1);
        z.win(2);
        due(1, z.win(2));
        due(11, z.sideOf(1, 3));
    }

    private static void play() {
        begin(14);
        TwiceRunning x = pair(1, 1, 1);
        // z goes from 1 to 1103527590, which >>> 8 is 4310654: its rest by 10, 4, is below the chance of 5.
        due(0, x.play());
        due(1103527590, x.count(5));
        due(0, x.gameOf(0, 3));
        due(1, x.play());
        int z = 1103527590 * 1103515245 + 12345;
        due(z, x.count(5));
        due((z >>> 8) % 10 < 5 ? 0 : 1, x.gameOf(1, 3));
        x.play();
        z = x.count(5);
        due(NONE, x.play());
        due(z, x.count(5));
        // A chance of 0 never wins.
        TwiceRunning y = pairOf(TOLD, 9, SIDE, 1, 1);
        for (int v = 0; v < 30; v++) {
            y.seed(v);
            due(1, y.play());
            y.anew();
        }
        due(NONE, new TwiceRunning().play());
    }

    private static void anew() {
        begin(15);
        TwiceRunning x = pairOf(TRY, 2, SIDE, 2, 5, 6);
        due(0, x.anew());
        x.win(0);
        x.win(0);
        due(2, x.anew());
        for (int what = 3; what < 8; what++) {
            due(0, x.sideOf(0, what));
            due(0, x.sideOf(1, what));
        }
        due(2, x.count(1));
        due(6, x.next(3));
    }

    private static void leadsAndPlace() {
        begin(16);
        due(NONE, new TwiceRunning().leads());
        TwiceRunning x = pair(2, 1, 1);
        x.side(SIDE, 1);
        due(0, x.leads());
        x.win(1);
        due(1, x.leads());
        begin(17);
        due(2, x.place(0));
        due(1, x.place(1));
        due(2, x.place(2));
        due(BEYOND, x.place(3));
        due(BEYOND, x.place(-1));
        x.win(0);
        due(2, x.place(0));
        due(3, x.place(2));
        x.law(3);
        x.win(0);
        due(1, x.place(0));
        due(1, x.place(1));
        begin(16);
        due(0, x.leads());
    }

    /** Two like ones, worths 1 and 2: whoever gets the first game doesn't get the second one. */
    private static void ways() {
        TwiceRunning x = pair(1, 2);
        begin(18);
        dueTerms(1, 2, x.gets(0, 0, 0), x.gets(0, 0, 1));
        dueTerms(1, 2, x.gets(1, 1, 0), x.gets(1, 1, 1));
        begin(19);
        dueTerms(1, 2, x.first(0, 0), x.first(0, 1));
        begin(20);
        dueTerms(3, 2, x.mean(0, 0), x.mean(0, 1));
        begin(21);
        dueTerms(1, 1, x.least(0, 1, 0), x.least(0, 1, 1));
        dueTerms(1, 2, x.least(0, 2, 0), x.least(0, 2, 1));
        dueTerms(0, 1, x.least(0, 3, 0), x.least(0, 3, 1));
        begin(22);
        due(2, x.most(0));
        x.law(2);
        due(3, x.most(0));
        x.law(1);
        begin(23);
        due(4, x.ways());
        begin(24);
        dueTerms(0, 1, x.moved(0, 0), x.moved(0, 1));
        dueTerms(1, 2, x.moved(1, 0), x.moved(1, 1));
        x.win(0);
        x.win(0);
        dueTerms(1, 1, x.moved(1, 0), x.moved(1, 1));
        begin(18);
        dueTerms(0, 1, x.gets(1, 0, 0), x.gets(1, 0, 1));
        dueTerms(1, 1, x.gets(1, 1, 0), x.gets(1, 1, 1));
        begin(20);
        dueTerms(2, 1, x.mean(1, 0), x.mean(1, 1));
        begin(23);
        due(1, x.ways());
        due(1, new TwiceRunning().ways());
        surelyLost();
        beyondWays();
    }

    /** Chance 0 of the first one: it can have most points by a way of no weight. */
    private static void surelyLost() {
        TwiceRunning x = pairOf(TOLD, 9, SIDE, 1, 4);
        x.side(SIDE, 3);
        begin(22);
        due(4, x.most(0));
        due(0, x.most(2));
        begin(23);
        due(1, x.ways());
        begin(18);
        dueTerms(0, 1, x.gets(0, 2, 0), x.gets(0, 2, 1));
        dueTerms(1, 1, x.gets(0, 1, 0), x.gets(0, 1, 1));
        begin(19);
        dueTerms(1, 1, x.first(1, 0), x.first(1, 1));
        begin(21);
        dueTerms(1, 1, x.least(0, 0, 0), x.least(0, 0, 1));
    }

    private static void beyondWays() {
        TwiceRunning x = pair(1, 2);
        for (int far : new int[] {-1, 2, Integer.MAX_VALUE, Integer.MIN_VALUE}) {
            begin(18);
            due(BEYOND, x.gets(far, 0, 0));
            due(BEYOND, x.gets(0, far, 0));
            due(BEYOND, x.gets(0, 0, far));
            begin(19);
            due(BEYOND, x.first(far, 0));
            due(BEYOND, x.first(0, far));
            begin(20);
            due(BEYOND, x.mean(far, 0));
            due(BEYOND, x.mean(0, far));
            begin(21);
            due(BEYOND, x.least(far, 0, 0));
            due(BEYOND, x.least(0, 0, far));
            begin(22);
            due(BEYOND, x.most(far));
            begin(24);
            due(BEYOND, x.moved(far, 0));
            due(BEYOND, x.moved(0, far));
        }
        begin(21);
        due(BEYOND, x.least(0, -1, 0));
        due(BEYOND, x.least(0, 100, 0));
        dueTerms(0, 1, x.least(0, 99, 0), x.least(0, 99, 1));
    }

    private static void best() {
        begin(25);
        TwiceRunning x = new TwiceRunning();
        due(BEYOND, x.best(0));
        x = pair(1);
        x.side(SIDE, 1);
        due(BEYOND, x.best(3));
        due(STATE, x.best(2));
        // Strength 1 each, the other with effort 2: tenths 0, 3, 5, 6 for the first one.
        due(3, x.best(0));
        x.win(0);
        due(NONE, x.best(2));
        due(BEYOND, x.best(3));
        // The first game isn't worth being barred in the second one, which is given otherwise.
        TwiceRunning y = pair(1, 9);
        due(0, y.best(0));
        due(0, y.best(1));
        due(2, y.next(0));
        // Against one without force all efforts but 0 win surely: the least of these.
        TwiceRunning z = pairOf(SIDE, 3, TOLD, 3, 2);
        due(1, z.best(0));
    }

    private static void kindTellsLaw() {
        begin(26);
        TwiceRunning x = pair(1);
        due(TRY, x.kindFor(0));
        due(SIDE, x.sideOf(0, 0));
        due(BEYOND, x.kindFor(2));
        due(BEYOND, x.kindFor(-1));
        // A first game not worth it: FEED gives it away, and so gets the second one.
        due(FEED, pair(1, 9).kindFor(0));
        due(SIDE, pair().kindFor(1));
        begin(27);
        TwiceRunning y = pairOf(TOLD, 1, SIDE, 1, 1);
        due(3, y.tellsFor(0));
        due(0, y.tellsFor(1));
        due(0, y.sideOf(0, 2));
        y.change(0, 0, BAR);
        due(0, y.tellsFor(0));
        due(BEYOND, y.tellsFor(2));
        // BAR gives a game of worth 1 away from TELLS 2 on.
        TwiceRunning z = pairOf(BAR, 1, SIDE, 1, 1, 9);
        due(2, z.tellsFor(0));
        begin(29);
        due(1, pair(1).lawFor(0));
        due(1, pairOf(TOLD, 1, SIDE, 1, 5, 5).lawFor(0));
        due(2, pairOf(TOLD, 1, SIDE, 1, 5, 5).lawFor(1));
        due(3, pairOf(TOLD, 1, SIDE, 1, 5, 5, 5).lawFor(1));
        due(BEYOND, pair(1).lawFor(2));
        begin(30);
        due(NONE, new TwiceRunning().gains());
        due(0, pair(1).gains());
        due(1, pairOf(SIDE, 1, TOLD, 1, 5, 5).gains());
    }

    private static void order() {
        begin(28);
        TwiceRunning x = pair(1, 1, 1, 1, 1);
        due(BEYOND, x.order(2));
        due(SIZE, x.order(0));
        due(BEYOND, x.order(-1));
        x.win(0);
        due(1234, x.order(0));
        // The sure loser gets the second game alone, and is first if that is worth as much as both others.
        TwiceRunning y = pairOf(TOLD, 1, SIDE, 1, 1, 9, 2);
        due(12, y.order(0));
        due(21, y.order(1));
        due(9, y.gameOf(1, 2));
        TwiceRunning z = pair(1);
        due(0, z.order(0));
        z.win(0);
        due(NONE, z.order(0));
        due(BEYOND, z.order(5));
    }

    private static void wronged() {
        begin(31);
        due(0, new TwiceRunning().wronged());
        due(0, pair(1, 1).wronged());
        // The stronger one surely gets the first game, so surely not the second one, and the third one.
        due(1, pairOf(SIDE, 9, TOLD, 1, 1, 1, 1).wronged());
        due(2, pairOf(TOLD, 9, SIDE, 1, 1, 1, 1).wronged());
        TwiceRunning x = pairOf(TOLD, 9, SIDE, 1, 1, 1, 1);
        x.win(1);
        due(1, x.wronged());
        // As likely is not less likely.
        TwiceRunning y = pairOf(SIDE, 9, SIDE, 8, 1);
        due(5, y.next(2));
        due(0, y.wronged());
        y.change(0, 1, 8);
        y.change(1, 1, 9);
        due(4, y.next(2));
        due(0, y.wronged());
        due(0, pairOf(SIDE, 1, TOLD, 1, 1).wronged());
        due(0, pairOf(TOLD, 1, SIDE, 1, 1).wronged());
        due(1, pairOf(SIDE, 1, TOLD, 9, 1).wronged());
        due(1, pairOf(SIDE, 8, TOLD, 9, 1).wronged());
        due(1, pairOf(TOLD, 9, SIDE, 8, 1).wronged());
        due(0, pairOf(TOLD, 8, TOLD, 9, 1).wronged());
        // All eight games, the last of which there is no game behind.
        due(4, pairOf(SIDE, 9, TOLD, 1, 1, 1, 1, 1, 1, 1, 1, 1).wronged());
    }

    private static void tries() {
        begin(32);
        TwiceRunning x = pair(1, 2);
        due(BEYOND, x.tries(2, 1));
        due(BEYOND, x.tries(-1, 1));
        due(BEYOND, x.tries(0, 0));
        due(BEYOND, x.tries(0, 41));
        due(1, x.count(5));
        TwiceRunning drawn = pair(1, 2);
        int firsts = 0;
        for (int season = 0; season < 40; season++) {
            drawn.play();
            drawn.play();
            firsts += drawn.leads() == 0 ? 1 : 0;
            drawn.anew();
        }
        due(firsts, x.tries(0, 40));
        due(drawn.count(5), x.count(5));
        due(0, x.count(2));
        due(0, x.sideOf(0, 3));
        x.win(0);
        x.win(0);
        int z = x.count(5);
        due(7, x.tries(1, 7));
        due(1, x.tries(1, 1));
        due(0, x.tries(0, 40));
        due(z, x.count(5));
        begin(33);
        due(z, x.seed(-1000001));
        due(-1000001, x.seed(5));
        due(5, x.count(5));
        due(4, x.status(-1));
    }

    private static void spots() {
        begin(34);
        TwiceRunning x = new TwiceRunning();
        due(BEYOND, x.hold(0, 0));
        due(1, x.hold(0, -1));
        for (int kind = 0; kind < 6; kind++) {
            x.side(kind, 1);
        }
        due(BEYOND, x.hold(10, 0));
        due(BEYOND, x.hold(-1, 0));
        due(BEYOND, x.hold(0, 6));
        due(BEYOND, x.hold(0, -2));
        begin(35);
        due(MISSING, x.as(0, 0));
        due(BEYOND, x.as(0, 7));
        due(BEYOND, x.as(0, -1));
        due(BEYOND, x.as(10, 0));
        due(BEYOND, x.as(-1, 0));
        int[] above = {-1, SIDE, SIDE, SPARE, SPARE, TRY, SIDE};
        for (int kind = 0; kind <= 6; kind++) {
            int held = Math.min(kind, 5);
            x.change(held, 0, kind);
            due(1, x.hold(kind, held));
            for (int asked = 0; asked <= 6; asked++) {
                boolean under = asked == kind || asked == above[kind] || asked == SIDE;
                due(under ? held : KIND, x.as(kind, asked));
            }
        }
        due(1, x.hold(3, -1));
        due(MISSING, x.as(3, 3));
    }

    private static void sheets() {
        begin(36);
        TwiceRunning x = new TwiceRunning();
        due(BEYOND, x.sheet(4, 8, 1));
        due(BEYOND, x.sheet(-1, 8, 1));
        due(BEYOND, x.sheet(0, 9, -1));
        due(SIZE, x.sheet(0, 0, -1));
        due(SIZE, x.sheet(0, 8, Integer.MIN_VALUE));
        due(BEYOND, x.sheet(0, 0, 41));
        due(BEYOND, x.sheet(0, 8, 41));
        due(0, x.sheet(0, 0, 40));
        due(MISSING, x.load(0));
        due(40, x.sheet(3, 32, 40));
        due(0, x.sheet(2, 16, 0));
        due(0, x.load(2));
        begin(37);
        due(BEYOND, x.write(4, 0, 1));
        due(BEYOND, x.write(-1, 0, 1));
        due(MISSING, x.write(0, 99, 1));
        due(BEYOND, x.write(3, 40, 1));
        due(BEYOND, x.write(3, -1, 1));
        due(BEYOND, x.write(2, 0, 1));
        due(1, x.write(3, 39, 1));
        lowestBits(8, 256);
        lowestBits(16, 65536);
        // A row made anew is all 0.
        TwiceRunning y = pair(1, 1);
        y.sheet(0, 8, 1);
        y.write(0, 0, 9);
        y.sheet(0, 8, 2);
        due(2, y.load(0));
    }

    private static void lowestBits(int bits, int above) {
        TwiceRunning x = pair(1, 1);
        x.sheet(0, bits, 2);
        due(1, x.write(0, 0, above + 1));
        due(1, x.write(0, 1, above / 2 + 1));
        due(1, x.load(0));
        due(1, x.gameOf(0, 3));
        TwiceRunning y = pair(1, 1);
        y.sheet(0, 32, 1);
        y.write(0, 0, above + 1);
        due(0, y.load(0));
    }

    private static void copy() {
        begin(38);
        TwiceRunning x = pair(1, 1, 1, 1, 1);
        due(BEYOND, x.copy(4, 0, 0, 0, 0));
        due(BEYOND, x.copy(0, 0, -1, 0, 0));
        due(MISSING, x.copy(0, 0, 1, 0, 0));
        x.sheet(0, 8, 5);
        due(MISSING, x.copy(0, 0, 1, 0, -1));
        due(MISSING, x.copy(1, 0, 0, 0, -1));
        x.sheet(1, 16, 5);
        due(KIND, x.copy(0, -1, 1, 0, 0));
        x.sheet(1, 8, 3);
        due(BEYOND, x.copy(0, 0, 1, 0, 4));
        due(BEYOND, x.copy(1, 0, 0, 0, 4));
        due(BEYOND, x.copy(0, -1, 1, 0, 1));
        due(BEYOND, x.copy(0, 0, 1, -1, 1));
        due(BEYOND, x.copy(0, 0, 1, 0, -1));
        due(BEYOND, x.copy(0, 6, 1, 0, 0));
        due(BEYOND, x.copy(0, Integer.MAX_VALUE, 1, 0, Integer.MAX_VALUE));
        due(BEYOND, x.copy(0, 3, 1, 0, Integer.MAX_VALUE));
        due(0, x.copy(0, 5, 1, 3, 0));
        // 1 0 0 1 1 becomes, three places one further on within itself, 1 1 0 0 1.
        int[] row = {1, 0, 0, 1, 1};
        for (int i = 0; i < 5; i++) {
            x.write(0, i, row[i]);
        }
        due(3, x.copy(0, 0, 0, 1, 3));
        due(5, x.load(0));
        int[] after = {1, 1, 0, 0, 1};
        for (int g = 0; g < 5; g++) {
            due(after[g], x.gameOf(g, 3));
        }
        x.anew();
        due(2, x.copy(0, 3, 1, 0, 2));
        due(3, x.load(1));
        due(0, x.gameOf(0, 3));
        due(1, x.gameOf(1, 3));
    }

    private static void load() {
        begin(39);
        TwiceRunning x = pair(1, 2, 3);
        due(BEYOND, x.load(4));
        due(BEYOND, x.load(-1));
        due(MISSING, x.load(0));
        x.sheet(0, 8, 5);
        x.write(0, 0, 1);
        x.write(0, 1, 1);
        x.write(0, 2, 2);
        due(2, x.load(0));
        due(2, x.count(2));
        due(0, x.gameOf(1, 4));
        due(1, x.load(0));
        due(0, x.load(0));
        due(3, x.status(-1));
    }

    private static void judge() {
        begin(40);
        TwiceRunning x = pair(1, 2, 3);
        due(BEYOND, x.judge(4));
        due(BEYOND, x.judge(-1));
        due(MISSING, x.judge(0));
        x.sheet(0, 8, 0);
        due(0, x.judge(0));
        due(0, judged(pair(1, 2, 3), 0, 0, 0, 1, 0, 0));
        due(0, judged(pair(1, 2, 3), 0, 0, 1, 1));
        due(3, judged(pair(1, 2, 3), 0, 0, 2, 1));
        due(2, judged(pair(1, 2, 3), 0, 1, 2, 1));
        due(4, judged(pair(1, 2, 3), 0, 0, 0, 0));
        due(1, judged(pair(1, 2, 3), -1));
        due(2, judged(pair(1, 2, 3), 1));
        due(4, judged(pair(1, 2, 3), 1, 1, 1));
        due(3, judged(pair(1), 1, 1, 1, 0));
        due(3, judged(pair(1), 1, 1, 1));
        due(1, judged(pair(), 1, 1));
        TwiceRunning y = pair(1, 2);
        y.win(0);
        due(0, judged(y, 0, 1));
        due(1, y.count(2));
        due(1, y.sideOf(0, 3));
    }

    private static int judged(TwiceRunning x, int... numbers) {
        x.sheet(1, 8, numbers.length);
        for (int i = 0; i < numbers.length; i++) {
            x.write(1, i, numbers[i]);
        }
        return x.judge(1);
    }

    private static void images() {
        begin(41);
        TwiceRunning x = pairOf(TRY, 5, SIDE, 5, 3, 4);
        x.hold(0, 1);
        x.seed(9);
        x.win(0);
        due(1, x.image());
        begin(42);
        x.win(1);
        x.game(0, 1, 1);
        x.side(SIDE, 1);
        x.change(0, 0, SPARE);
        x.change(0, 2, 4);
        x.law(3);
        x.seed(77);
        x.hold(0, -1);
        x.hold(1, 2);
        x.feed('1', 1);
        x.sheet(0, 8, 1);
        due(BEYOND, x.law(4));
        due(1, x.undo());
        int[] counts = {2, 2, 1, 1, 1, 9, 1};
        for (int what = 0; what < counts.length; what++) {
            due(counts[what], x.count(what));
        }
        due(1, x.as(0, 0));
        int[] first = {TRY, 5, 0, 3, 1, 1, 1, 1};
        for (int what = 0; what < first.length; what++) {
            due(first[what], x.sideOf(0, what));
        }
        due(1, x.status(-1));
        due(1, x.load(0));
        due(2, x.count(2));
        due(1, x.undo());
        due(1, x.anew());
        due(1, x.image());
        x.win(0);
        due(0, x.undo());
        begin(43);
        due(1, x.tear());
        due(0, x.tear());
        due(NONE, x.undo());
        due(2, x.count(1));
    }

    private static void countAndStatus() {
        begin(44);
        TwiceRunning x = pair(1, 1, 1);
        x.law(2);
        x.win(0);
        x.hold(3, 0);
        x.hold(4, 0);
        x.feed(0, 3);
        x.seed(-5);
        int[] counts = {2, 3, 1, 2, 3, -5, 2};
        for (int what = 0; what < counts.length; what++) {
            due(counts[what], x.count(what));
        }
        due(BEYOND, x.count(7));
        due(BEYOND, x.count(-1));
        begin(45);
        due(2, x.status(0));
        due(BEYOND, x.status(7));
        due(3, x.status(0));
        due(BEYOND, x.status(-2));
        due(4, x.status(0));
        due(4, x.status(-1));
        for (int i = 0; i < 40; i++) {
            x.feed(0, 3);
        }
        due(1, x.status(1));
        x.as(3, 1);
        x.undo();
        x.gameOf(1, 3);
        x.swap(0, 1);
        x.load(0);
        x.judge(0);
        x.sheet(0, 8, -1);
        x.gets(9, 9, 9);
        x.wipe();
        due(-1, x.text());
        int[] due = {5, 1, 1, 2, 1, 2, 1};
        for (int which = 0; which < due.length; which++) {
            due(due[which], x.status(which));
        }
        due(13, x.status(-1));
    }

    /** Far numbers everywhere: a finding each, and the league as it was. */
    private static void farNumbers() {
        begin(45);
        TwiceRunning x = pair(1, 2);
        for (int far : FAR) {
            long[] answers = {x.side(far, 1), x.side(0, far), x.sideOf(far, 0), x.sideOf(0, far), x.change(far, 0, 0),
                x.change(0, far, 0), x.change(0, 0, far), x.game(far, 1, 1), x.game(0, far, 1), x.game(0, 1, far),
                x.gameOf(far, 0), x.gameOf(0, far), x.swap(far, 0), x.swap(0, far), x.law(far), x.feed(0, far),
                x.next(far), x.win(far), x.place(far), x.best(far), x.kindFor(far), x.tellsFor(far), x.order(far),
                x.lawFor(far), x.tries(far, 1), x.tries(0, far), x.hold(far, 0), x.hold(0, far), x.as(far, 0),
                x.as(0, far), x.sheet(far, 8, 1), x.sheet(0, far, 1), x.write(far, 0, 0), x.copy(far, 0, 0, 0, 0),
                x.copy(0, 0, far, 0, 0), x.load(far), x.judge(far), x.count(far), x.status(far)};
            for (long answer : answers) {
                due(BEYOND, answer);
            }
        }
        int[] counts = {2, 2, 0, 1, 0, 1, 0};
        for (int what = 0; what < counts.length; what++) {
            due(counts[what], x.count(what));
        }
    }

    public static void main(String[] args) {
        newObject();
        side();
        sideOf();
        change();
        game();
        gameOf();
        swap();
        law();
        tape();
        texts();
        next();
        win();
        play();
        anew();
        leadsAndPlace();
        ways();
        best();
        kindTellsLaw();
        order();
        wronged();
        tries();
        spots();
        sheets();
        copy();
        load();
        judge();
        images();
        countAndStatus();
        farNumbers();
        System.out.println(wrong == 0 ? "all promises are kept" : wrong + " answers are not as due");
        if (wrong != 0) {
            System.exit(1);
        }
    }
}
