/**
 * A league in which whoever was given its latest games isn't given the next one.
 * Every array is made with the object and used again, so that calls make nothing new.
 */
public final class TwiceRunning {
    private static final int LOW = -1000001;
    private static final int BEYOND = 0;
    private static final int FULL = 1;
    private static final int KIND = 2;
    private static final int NONE = 3;
    private static final int STATE = 4;
    private static final int MISSING = 5;
    private static final int SIZE = 6;
    private static final int FINDINGS = 7;

    private static final int SIDE = 0;
    private static final int TRY = 1;
    private static final int SPARE = 2;
    private static final int CHOOSE = 3;
    private static final int FEED = 4;
    private static final int BAR = 5;
    private static final int TOLD = 6;

    private static final int MOST_SIDES = 6;
    private static final int MOST_GAMES = 8;
    private static final int MOST_STRENGTH = 9;
    private static final int MOST_WORTH = 9;
    private static final int MOST_TELLS = 9;
    private static final int MOST_EFFORT = 3;
    private static final int MOST_LAW = 3;
    private static final int MOST_ASKED_POINTS = 99;
    private static final int MOST_TRIES = 40;
    private static final int MOST_ORDERED = 4;
    private static final int TENTHS = 10;
    private static final int SPOTS = 10;
    private static final int NOBODY = -1;
    private static final int SHEETS = 4;
    private static final int MOST_NUMBERS = 40;
    private static final int MOST_BYTES = 120;
    private static final int NUMBER_LIMIT = 999;

    private static final int SUPPOSED_KIND = 0;
    private static final int SUPPOSED_TELLS = 1;
    private static final int SUPPOSED_LAW = 2;
    private static final int SUPPOSED_EFFORT = 3;

    private static final int END = 0;
    private static final int WORD = 1;
    private static final int NUMBER = 2;
    private static final int SIGN = 3;
    private static final int STRANGE = 4;

    private final League league = new League();
    private final League kept = new League();
    private boolean isKept = false;
    private final Walk walk = new Walk();
    /** What is asked with "if" happens here, so that the league itself needs no taking back. */
    private final League trial = walk.league;
    private final Tape tape = new Tape();
    private final Sheet[] sheets = new Sheet[SHEETS];
    private final int[] findings = new int[FINDINGS];

    public TwiceRunning() {
        for (int s = 0; s < SHEETS; s++) {
            sheets[s] = new Sheet();
        }
    }

    // ---- the league

    public int side(int kind, int strength) {
        if (!isKind(kind) || !isStrength(strength)) {
            return finding(BEYOND);
        }
        if (league.sideCount >= MOST_SIDES) {
            return finding(FULL);
        }
        return league.addSide(kind, strength, 0);
    }

    public int sideOf(int side, int what) {
        if (!league.hasSide(side)) {
            return finding(BEYOND);
        }
        Side asked = league.sides[side];
        switch (what) {
            case 0: return asked.kind;
            case 1: return asked.strength;
            case 2: return asked.tells;
            case 3: return asked.points;
            case 4: return league.isBarred(side) ? 1 : 0;
            case 5: return asked.tired ? 1 : 0;
            case 6: return league.gamesPlayedBy(side);
            case 7: return league.gamesGivenTo(side);
            default: return finding(BEYOND);
        }
    }

    public int change(int side, int what, int v) {
        if (!league.hasSide(side) || !canBecome(what, v)) {
            return finding(BEYOND);
        }
        Side changed = league.sides[side];
        int before;
        if (what == 0) {
            before = changed.kind;
            changed.kind = v;
        } else if (what == 1) {
            before = changed.strength;
            changed.strength = v;
        } else {
            before = changed.tells;
            changed.tells = v;
        }
        return before;
    }

    public int game(int first, int other, int worth) {
        if (!league.hasSide(first) || !league.hasSide(other) || first == other
                || worth < 1 || worth > MOST_WORTH) {
            return finding(BEYOND);
        }
        if (league.gameCount >= MOST_GAMES) {
            return finding(FULL);
        }
        return league.addGame(first, other, worth);
    }

    public int gameOf(int game, int what) {
        if (!league.hasGame(game) || what < 0 || what > 4) {
            return finding(BEYOND);
        }
        if (what > 2 && game >= league.played) {
            return finding(NONE);
        }
        Game asked = league.games[game];
        switch (what) {
            case 0: return asked.first;
            case 1: return asked.other;
            case 2: return asked.worth;
            case 3: return asked.winner;
            default: return asked.given;
        }
    }

    public int swap(int one, int other) {
        if (!league.hasGame(one) || !league.hasGame(other)) {
            return finding(BEYOND);
        }
        if (one < league.played || other < league.played) {
            return finding(STATE);
        }
        Game moving = league.games[one];
        league.games[one] = league.games[other];
        league.games[other] = moving;
        return 1;
    }

    public int law(int v) {
        if (v < 1 || v > MOST_LAW) {
            return finding(BEYOND);
        }
        int before = league.law;
        league.law = v;
        return before;
    }

    public int feed(int bytes, int n) {
        if (n < 1 || n > 4) {
            return finding(BEYOND);
        }
        if (tape.length + n > MOST_BYTES) {
            return finding(FULL);
        }
        tape.append(bytes, n);
        return tape.length;
    }

    public int wipe() {
        int before = tape.length;
        tape.length = 0;
        return before;
    }

    public int text() {
        trial.become(league);
        int answer = tape.readInto(trial);
        if (answer >= 0) {
            league.become(trial);
        }
        tape.length = 0;
        return answer;
    }

    // ---- games

    public int next(int what) {
        if (what < 0 || what > 4) {
            return finding(BEYOND);
        }
        if (league.allPlayed()) {
            return finding(NONE);
        }
        Game game = league.games[league.played];
        int firstEffort = league.effortOf(game.first);
        int otherEffort = league.effortOf(game.other);
        switch (what) {
            case 0: return firstEffort;
            case 1: return otherEffort;
            case 2: return league.chanceOfFirst(firstEffort, otherEffort);
            case 3: return league.forceOf(game.first, firstEffort);
            default: return league.forceOf(game.other, otherEffort);
        }
    }

    public int win(int side) {
        if (league.allPlayed()) {
            return finding(NONE);
        }
        if (!league.games[league.played].isOf(side)) {
            return finding(BEYOND);
        }
        return league.playWonBy(side);
    }

    public int play() {
        if (league.allPlayed()) {
            return finding(NONE);
        }
        return league.playDrawn();
    }

    public int anew() {
        return league.forgetGames();
    }

    public int leads() {
        if (league.sideCount == 0) {
            return finding(NONE);
        }
        return league.leader();
    }

    public int place(int side) {
        if (!league.hasSide(side)) {
            return finding(BEYOND);
        }
        int answer = 1;
        for (int s = 0; s < league.sideCount; s++) {
            if (league.sides[s].points > league.sides[side].points) {
                answer++;
            }
        }
        return answer;
    }

    // ---- ways

    public long gets(int game, int side, int part) {
        if (!league.hasGame(game) || !league.hasSide(side) || !isPart(part)) {
            return finding(BEYOND);
        }
        goLikelyWays();
        Game asked = league.games[game];
        long sum = 0;
        if (side == asked.first) {
            sum = walk.toFirst[game];
        } else if (side == asked.other) {
            sum = walk.all - walk.toFirst[game];
        }
        return inLowestTerms(sum, walk.all, part);
    }

    public long first(int side, int part) {
        if (!league.hasSide(side) || !isPart(part)) {
            return finding(BEYOND);
        }
        goLikelyWays();
        return inLowestTerms(walk.firstSums[side], walk.all, part);
    }

    public long mean(int side, int part) {
        if (!league.hasSide(side) || !isPart(part)) {
            return finding(BEYOND);
        }
        goLikelyWays();
        return inLowestTerms(walk.pointSums[side], walk.all, part);
    }

    public long least(int side, int n, int part) {
        if (!league.hasSide(side) || n < 0 || n > MOST_ASKED_POINTS || !isPart(part)) {
            return finding(BEYOND);
        }
        trial.become(league);
        walk.over(side, n, false);
        return inLowestTerms(walk.goalSum, walk.all, part);
    }

    public int most(int side) {
        if (!league.hasSide(side)) {
            return finding(BEYOND);
        }
        trial.become(league);
        walk.over(side, 0, true);
        return walk.mostPoints;
    }

    public int ways() {
        goLikelyWays();
        return walk.likely;
    }

    public long moved(int game, int part) {
        if (!league.hasGame(game) || !isPart(part)) {
            return finding(BEYOND);
        }
        goLikelyWays();
        return inLowestTerms(walk.movedSums[game], walk.all, part);
    }

    // ---- what is best

    public int best(int side) {
        if (!league.hasSide(side)) {
            return finding(BEYOND);
        }
        if (league.allPlayed()) {
            return finding(NONE);
        }
        if (!league.games[league.played].isOf(side)) {
            return finding(STATE);
        }
        return greatestMean(side, SUPPOSED_EFFORT, 0, MOST_EFFORT);
    }

    public int kindFor(int side) {
        if (!league.hasSide(side)) {
            return finding(BEYOND);
        }
        return greatestMean(side, SUPPOSED_KIND, SIDE, TOLD);
    }

    public int tellsFor(int side) {
        if (!league.hasSide(side)) {
            return finding(BEYOND);
        }
        return greatestMean(side, SUPPOSED_TELLS, 0, MOST_TELLS);
    }

    public int order(int side) {
        if (!league.hasSide(side)) {
            return finding(BEYOND);
        }
        if (league.allPlayed()) {
            return finding(NONE);
        }
        int left = league.gameCount - league.played;
        if (left > MOST_ORDERED) {
            return finding(SIZE);
        }
        return bestOrder(side, left);
    }

    public int lawFor(int side) {
        if (!league.hasSide(side)) {
            return finding(BEYOND);
        }
        return greatestMean(side, SUPPOSED_LAW, 1, MOST_LAW);
    }

    public int gains() {
        if (league.sideCount == 0) {
            return finding(NONE);
        }
        trial.become(league);
        trial.law = 1;
        walk.over(0, 0, false);
        walk.keepPointSums();
        trial.law = MOST_LAW;
        walk.over(0, 0, false);
        int answer = 0;
        for (int s = 1; s < league.sideCount; s++) {
            if (walk.keptAbovePointSum(s) > walk.keptAbovePointSum(answer)) {
                answer = s;
            }
        }
        return answer;
    }

    public int wronged() {
        goLikelyWays();
        int answer = 0;
        for (int g = league.played; g < league.gameCount; g++) {
            Game game = league.games[g];
            int ahead = league.sides[game.first].strength - league.sides[game.other].strength;
            long likelier = 2 * walk.toFirst[g] - walk.all;
            if (ahead > 0 && likelier < 0 || ahead < 0 && likelier > 0) {
                answer++;
            }
        }
        return answer;
    }

    public int tries(int side, int n) {
        if (!league.hasSide(side) || n < 1 || n > MOST_TRIES) {
            return finding(BEYOND);
        }
        trial.become(league);
        int answer = 0;
        for (int season = 0; season < n; season++) {
            for (int g = league.played; g < league.gameCount; g++) {
                trial.playDrawn();
            }
            if (trial.leader() == side) {
                answer++;
            }
            for (int g = league.played; g < league.gameCount; g++) {
                trial.takeBack();
            }
        }
        league.z = trial.z;
        return answer;
    }

    public int seed(int v) {
        int before = league.z;
        league.z = v;
        return before;
    }

    // ---- spots, sheets

    public int hold(int spot, int side) {
        if (!isSpot(spot) || side != NOBODY && !league.hasSide(side)) {
            return finding(BEYOND);
        }
        league.spots[spot] = side;
        return 1;
    }

    public int as(int spot, int kind) {
        if (!isSpot(spot) || !isKind(kind)) {
            return finding(BEYOND);
        }
        int held = league.spots[spot];
        if (!league.hasSide(held)) {
            return finding(MISSING);
        }
        if (!isUnder(league.sides[held].kind, kind)) {
            return finding(KIND);
        }
        return held;
    }

    public int sheet(int s, int bits, int n) {
        if (!isSheet(s) || bits != 0 && bits != 8 && bits != 16 && bits != 32) {
            return finding(BEYOND);
        }
        if (n < 0) {
            return finding(SIZE);
        }
        if (n > MOST_NUMBERS) {
            return finding(BEYOND);
        }
        sheets[s].renew(bits, bits == 0 ? 0 : n);
        return sheets[s].size;
    }

    public int write(int s, int i, int v) {
        if (!isSheet(s)) {
            return finding(BEYOND);
        }
        if (sheets[s].isMissing()) {
            return finding(MISSING);
        }
        if (i < 0 || i >= sheets[s].size) {
            return finding(BEYOND);
        }
        sheets[s].put(i, v);
        return 1;
    }

    public int copy(int s, int from, int t, int to, int n) {
        if (!isSheet(s) || !isSheet(t)) {
            return finding(BEYOND);
        }
        Sheet source = sheets[s];
        Sheet target = sheets[t];
        if (source.isMissing() || target.isMissing()) {
            return finding(MISSING);
        }
        if (source.bits != target.bits) {
            return finding(KIND);
        }
        if (!source.hasRange(from, n) || !target.hasRange(to, n)) {
            return finding(BEYOND);
        }
        System.arraycopy(source.numbers, from, target.numbers, to, n);
        return n;
    }

    public int load(int s) {
        if (!isSheet(s)) {
            return finding(BEYOND);
        }
        Sheet sheet = sheets[s];
        if (sheet.isMissing()) {
            return finding(MISSING);
        }
        int answer = 0;
        while (answer < sheet.size && league.canBeWonBy(sheet.numbers[answer])) {
            league.playWonBy(sheet.numbers[answer]);
            answer++;
        }
        return answer;
    }

    public int judge(int s) {
        if (!isSheet(s)) {
            return finding(BEYOND);
        }
        Sheet sheet = sheets[s];
        if (sheet.isMissing()) {
            return finding(MISSING);
        }
        trial.become(league);
        for (int i = 0; i < sheet.size; i += 2) {
            if (!trial.canBeWonBy(sheet.numbers[i])) {
                return 1 + i;
            }
            int given = trial.playWonBy(sheet.numbers[i]);
            if (i + 1 >= sheet.size || sheet.numbers[i + 1] != given) {
                return 1 + i + 1;
            }
        }
        return 0;
    }

    // ---- images

    public int image() {
        kept.become(league);
        isKept = true;
        return 1;
    }

    public int undo() {
        if (!isKept) {
            return finding(NONE);
        }
        league.become(kept);
        return league.played;
    }

    public int tear() {
        int answer = isKept ? 1 : 0;
        isKept = false;
        return answer;
    }

    public int count(int what) {
        switch (what) {
            case 0: return league.sideCount;
            case 1: return league.gameCount;
            case 2: return league.played;
            case 3: return league.law;
            case 4: return tape.length;
            case 5: return league.z;
            case 6: return league.spotsInUse();
            default: return finding(BEYOND);
        }
    }

    public int status(int which) {
        if (which < -1 || which >= FINDINGS) {
            return finding(BEYOND);
        }
        if (which >= 0) {
            return findings[which];
        }
        int answer = 0;
        for (int f = 0; f < FINDINGS; f++) {
            answer += findings[f];
        }
        return answer;
    }

    // ---- helpers

    private int finding(int which) {
        findings[which]++;
        return LOW - which;
    }

    private static boolean isKind(int kind) {
        return kind >= SIDE && kind <= TOLD;
    }

    private static boolean isStrength(int strength) {
        return strength >= 1 && strength <= MOST_STRENGTH;
    }

    private static boolean isPart(int part) {
        return part == 0 || part == 1;
    }

    private static boolean isSpot(int spot) {
        return spot >= 0 && spot < SPOTS;
    }

    private static boolean isSheet(int s) {
        return s >= 0 && s < SHEETS;
    }

    private static boolean canBecome(int what, int v) {
        switch (what) {
            case 0: return isKind(v);
            case 1: return isStrength(v);
            case 2: return v >= 0 && v <= MOST_TELLS;
            default: return false;
        }
    }

    private static boolean isUnder(int kind, int above) {
        if (kind == above || above == SIDE) {
            return true;
        }
        return above == SPARE && (kind == CHOOSE || kind == FEED) || above == TRY && kind == BAR;
    }

    private void goLikelyWays() {
        trial.become(league);
        walk.over(0, 0, false);
    }

    /** Of all that could be supposed, the first by which a side's mean is greatest. */
    private int greatestMean(int side, int what, int least, int most) {
        trial.become(league);
        int answer = least;
        long greatest = -1;
        for (int v = least; v <= most; v++) {
            suppose(side, what, v);
            walk.over(side, 0, false);
            if (walk.pointSums[side] > greatest) {
                greatest = walk.pointSums[side];
                answer = v;
            }
        }
        return answer;
    }

    private void suppose(int side, int what, int v) {
        switch (what) {
            case SUPPOSED_KIND:
                trial.sides[side].kind = v;
                break;
            case SUPPOSED_TELLS:
                trial.sides[side].tells = v;
                break;
            case SUPPOSED_LAW:
                trial.law = v;
                break;
            default:
                trial.force(side, v);
        }
    }

    /** Counts through all rows of as many places as games are left; those that name one twice are no orders. */
    private int bestOrder(int side, int left) {
        trial.become(league);
        int rows = 1;
        for (int i = 0; i < left; i++) {
            rows *= left;
        }
        int answer = 0;
        long greatest = -1;
        for (int row = 0; row < rows; row++) {
            int numbers = arrangeTrial(row, left);
            if (numbers < 0) {
                continue;
            }
            walk.over(0, 0, false);
            if (walk.firstSums[side] > greatest) {
                greatest = walk.firstSums[side];
                answer = numbers;
            }
        }
        return answer;
    }

    /** The trial's games to come in the order of a row (its digits to the base left): their numbers, or -1. */
    private int arrangeTrial(int row, int left) {
        int rest = row;
        int seen = 0;
        int numbers = 0;
        int worthOfDigit = 1;
        for (int i = left - 1; i >= 0; i--) {
            int place = rest % left;
            rest /= left;
            seen |= 1 << place;
            numbers += (league.played + place) * worthOfDigit;
            worthOfDigit *= 10;
            trial.games[league.played + i].become(league.games[league.played + place]);
        }
        return seen == (1 << left) - 1 ? numbers : -1;
    }

    private static long inLowestTerms(long above, long below, int part) {
        long common = below;
        long rest = above;
        for (int step = 0; step < 100 && rest != 0; step++) {
            long smaller = common % rest;
            common = rest;
            rest = smaller;
        }
        if (common == 0) {
            return 0;
        }
        return (part == 0 ? above : below) / common;
    }

    private static final class Side {
        int kind = SIDE;
        int strength = 1;
        int tells = 0;
        int points = 0;
        /** How many of its latest games in a row were given to it: enough to know it barred by any law. */
        int streak = 0;
        boolean tired = false;

        void become(Side model) {
            kind = model.kind;
            strength = model.strength;
            tells = model.tells;
            points = model.points;
            streak = model.streak;
            tired = model.tired;
        }

        void rest() {
            points = 0;
            streak = 0;
            tired = false;
        }

        void remember(boolean wasGiven, int worth, int effort) {
            if (wasGiven) {
                points += worth;
                streak++;
            } else {
                streak = 0;
            }
            tired = effort == MOST_EFFORT;
        }
    }

    private static final class Game {
        int first = 0;
        int other = 0;
        int worth = 1;
        int winner = NOBODY;
        int given = NOBODY;
        /** How its two stood ahead of it, for taking it back. */
        int firstStreak = 0;
        int otherStreak = 0;
        boolean firstTired = false;
        boolean otherTired = false;

        void become(Game model) {
            first = model.first;
            other = model.other;
            worth = model.worth;
            winner = model.winner;
            given = model.given;
            firstStreak = model.firstStreak;
            otherStreak = model.otherStreak;
            firstTired = model.firstTired;
            otherTired = model.otherTired;
        }

        boolean isOf(int side) {
            return side == first || side == other;
        }
    }

    /** All that an image keeps. */
    private static final class League {
        final Side[] sides = new Side[MOST_SIDES];
        final Game[] games = new Game[MOST_GAMES];
        final int[] spots = new int[SPOTS];
        int sideCount = 0;
        int gameCount = 0;
        int played = 0;
        int law = 1;
        int z = 1;
        /** The effort that a side is made to show in one game, whatever its kind says. */
        int forcedGame = -1;
        int forcedSide = NOBODY;
        int forcedEffort = 0;

        League() {
            for (int s = 0; s < MOST_SIDES; s++) {
                sides[s] = new Side();
            }
            for (int g = 0; g < MOST_GAMES; g++) {
                games[g] = new Game();
            }
            for (int i = 0; i < SPOTS; i++) {
                spots[i] = NOBODY;
            }
        }

        void become(League model) {
            for (int s = 0; s < model.sideCount; s++) {
                sides[s].become(model.sides[s]);
            }
            for (int g = 0; g < model.gameCount; g++) {
                games[g].become(model.games[g]);
            }
            System.arraycopy(model.spots, 0, spots, 0, SPOTS);
            sideCount = model.sideCount;
            gameCount = model.gameCount;
            played = model.played;
            law = model.law;
            z = model.z;
            forcedGame = model.forcedGame;
            forcedSide = model.forcedSide;
            forcedEffort = model.forcedEffort;
        }

        boolean hasSide(int side) {
            return side >= 0 && side < sideCount;
        }

        boolean hasGame(int game) {
            return game >= 0 && game < gameCount;
        }

        boolean allPlayed() {
            return played >= gameCount;
        }

        /** The caller has seen that there is room. */
        int addSide(int kind, int strength, int tells) {
            Side added = sides[sideCount];
            added.rest();
            added.kind = kind;
            added.strength = strength;
            added.tells = tells;
            sideCount++;
            return sideCount - 1;
        }

        /** The caller has seen that there is room. */
        int addGame(int first, int other, int worth) {
            Game added = games[gameCount];
            added.first = first;
            added.other = other;
            added.worth = worth;
            gameCount++;
            return gameCount - 1;
        }

        int gamesPlayedBy(int side) {
            int answer = 0;
            for (int g = 0; g < played; g++) {
                if (games[g].isOf(side)) {
                    answer++;
                }
            }
            return answer;
        }

        int gamesGivenTo(int side) {
            int answer = 0;
            for (int g = 0; g < played; g++) {
                if (games[g].given == side) {
                    answer++;
                }
            }
            return answer;
        }

        int spotsInUse() {
            int answer = 0;
            for (int i = 0; i < SPOTS; i++) {
                if (spots[i] != NOBODY) {
                    answer++;
                }
            }
            return answer;
        }

        boolean isBarred(int side) {
            return sides[side].streak >= law;
        }

        void force(int side, int effort) {
            forcedGame = played;
            forcedSide = side;
            forcedEffort = effort;
        }

        /** Of a side of the next game, which there is. */
        int effortOf(int side) {
            if (forcedGame == played && forcedSide == side) {
                return forcedEffort;
            }
            Game game = games[played];
            boolean barred = isBarred(side);
            int spared = barred ? 1 : 2;
            switch (sides[side].kind) {
                case TRY:
                    return MOST_EFFORT;
                case SPARE:
                    return spared;
                case CHOOSE:
                    if (barred) {
                        return 0;
                    }
                    return isBarred(side == game.first ? game.other : game.first) ? MOST_EFFORT : spared;
                case FEED:
                    return !barred && nextWorthOf(side) > game.worth ? 0 : spared;
                case BAR:
                    return game.worth < sides[side].tells ? 0 : MOST_EFFORT;
                case TOLD:
                    return Math.min(sides[side].tells, MOST_EFFORT);
                default:
                    return 2;
            }
        }

        /** The worth of a side's next game behind the one that is next in the league; 0 if there is none. */
        int nextWorthOf(int side) {
            for (int g = played + 1; g < gameCount; g++) {
                if (games[g].isOf(side)) {
                    return games[g].worth;
                }
            }
            return 0;
        }

        int forceOf(int side, int effort) {
            int strength = sides[side].strength - (sides[side].tired ? 1 : 0);
            return Math.max(strength, 1) * effort;
        }

        int chanceOfFirst(int firstEffort, int otherEffort) {
            int firstForce = forceOf(games[played].first, firstEffort);
            int both = firstForce + forceOf(games[played].other, otherEffort);
            return both == 0 ? TENTHS / 2 : TENTHS * firstForce / both;
        }

        int givenIfWonBy(int winner) {
            Game game = games[played];
            if (!isBarred(winner)) {
                return winner;
            }
            int loser = winner == game.first ? game.other : game.first;
            if (!isBarred(loser)) {
                return loser;
            }
            int ahead = sides[winner].points - sides[loser].points;
            if (ahead == 0) {
                return Math.min(winner, loser);
            }
            return ahead < 0 ? winner : loser;
        }

        /** The next game, which there is, is played with these efforts: to whom it is given. */
        int settle(int winner, int firstEffort, int otherEffort) {
            Game game = games[played];
            Side first = sides[game.first];
            Side other = sides[game.other];
            int given = givenIfWonBy(winner);
            game.winner = winner;
            game.given = given;
            game.firstStreak = first.streak;
            game.otherStreak = other.streak;
            game.firstTired = first.tired;
            game.otherTired = other.tired;
            first.remember(given == game.first, game.worth, firstEffort);
            other.remember(given == game.other, game.worth, otherEffort);
            played++;
            return given;
        }

        void takeBack() {
            if (played == 0) {
                return;
            }
            played--;
            Game game = games[played];
            sides[game.given].points -= game.worth;
            sides[game.first].streak = game.firstStreak;
            sides[game.first].tired = game.firstTired;
            sides[game.other].streak = game.otherStreak;
            sides[game.other].tired = game.otherTired;
        }

        boolean canBeWonBy(int side) {
            return !allPlayed() && games[played].isOf(side);
        }

        int playWonBy(int winner) {
            return settle(winner, effortOf(games[played].first), effortOf(games[played].other));
        }

        int playDrawn() {
            Game game = games[played];
            int firstEffort = effortOf(game.first);
            int otherEffort = effortOf(game.other);
            z = z * 1103515245 + 12345;
            boolean firstWins = (z >>> 8) % TENTHS < chanceOfFirst(firstEffort, otherEffort);
            return settle(firstWins ? game.first : game.other, firstEffort, otherEffort);
        }

        int forgetGames() {
            int before = played;
            for (int s = 0; s < sideCount; s++) {
                sides[s].rest();
            }
            played = 0;
            return before;
        }

        /** The side with most points, the least number of several; -1 if there are no sides. */
        int leader() {
            int answer = NOBODY;
            for (int s = 0; s < sideCount; s++) {
                if (answer == NOBODY || sides[s].points > sides[answer].points) {
                    answer = s;
                }
            }
            return answer;
        }
    }

    /** Goes all ways of a league's games to come, and leaves the league as it was. */
    private static final class Walk {
        final League league = new League();
        final long[] pointSums = new long[MOST_SIDES];
        final long[] firstSums = new long[MOST_SIDES];
        final long[] toFirst = new long[MOST_GAMES];
        final long[] movedSums = new long[MOST_GAMES];
        private final long[] keptSums = new long[MOST_SIDES];
        long all = 1;
        int likely = 0;
        private int goalSide = 0;
        private int goalPoints = 0;
        private boolean alsoUnlikely = false;
        long goalSum = 0;
        int mostPoints = 0;

        /** The goal: that a side has so many points or more. */
        void over(int side, int points, boolean unlikelyOnes) {
            goalSide = side;
            goalPoints = points;
            alsoUnlikely = unlikelyOnes;
            goalSum = 0;
            mostPoints = 0;
            likely = 0;
            all = 1;
            for (int g = league.played; g < league.gameCount; g++) {
                all *= TENTHS;
            }
            startSums();
            follow(this, 0, all);
        }

        void keepPointSums() {
            System.arraycopy(pointSums, 0, keptSums, 0, MOST_SIDES);
        }

        long keptAbovePointSum(int side) {
            return keptSums[side] - pointSums[side];
        }

        private void startSums() {
            for (int s = 0; s < league.sideCount; s++) {
                pointSums[s] = all * league.sides[s].points;
                firstSums[s] = 0;
            }
            for (int g = 0; g < league.gameCount; g++) {
                Game game = league.games[g];
                boolean isPlayed = g < league.played;
                toFirst[g] = isPlayed && game.given == game.first ? all : 0;
                movedSums[g] = isPlayed && game.given != game.winner ? all : 0;
            }
        }

        /**
         * From here on, where the ways that go through here have this share of all together:
         * what a game gives can so be summed up at once for all ways behind it.
         */
        private static void follow(Walk walk, int depth, long share) {
            League league = walk.league;
            if (league.allPlayed()) {
                walk.arrive(share);
                return;
            }
            if (depth >= MOST_GAMES) {
                return;
            }
            int number = league.played;
            Game game = league.games[number];
            int firstEffort = league.effortOf(game.first);
            int otherEffort = league.effortOf(game.other);
            int chance = league.chanceOfFirst(firstEffort, otherEffort);
            for (int turn = 0; turn < 2; turn++) {
                int winner = turn == 0 ? game.first : game.other;
                long part = share / TENTHS * (turn == 0 ? chance : TENTHS - chance);
                if (part == 0 && !walk.alsoUnlikely) {
                    continue;
                }
                int given = league.settle(winner, firstEffort, otherEffort);
                walk.pointSums[given] += part * game.worth;
                walk.toFirst[number] += given == game.first ? part : 0;
                walk.movedSums[number] += given != winner ? part : 0;
                follow(walk, depth + 1, part);
                league.takeBack();
            }
        }

        private void arrive(long weight) {
            int points = league.sides[goalSide].points;
            mostPoints = Math.max(mostPoints, points);
            if (weight == 0) {
                return;
            }
            likely++;
            goalSum += points >= goalPoints ? weight : 0;
            int leader = league.leader();
            if (leader != NOBODY) {
                firstSums[leader] += weight;
            }
        }
    }

    private static final class Sheet {
        final int[] numbers = new int[MOST_NUMBERS];
        /** 0 while it is missing. */
        int bits = 0;
        int size = 0;

        boolean isMissing() {
            return bits == 0;
        }

        void renew(int newBits, int newSize) {
            bits = newBits;
            size = newSize;
            for (int i = 0; i < MOST_NUMBERS; i++) {
                numbers[i] = 0;
            }
        }

        void put(int i, int v) {
            if (bits == 8) {
                numbers[i] = (byte) v;
            } else if (bits == 16) {
                numbers[i] = (short) v;
            } else {
                numbers[i] = v;
            }
        }

        boolean hasRange(int from, int n) {
            return from >= 0 && n >= 0 && n <= size - from;
        }
    }

    /** The tape, and the reading of a text from it, token by token. */
    private static final class Tape {
        private final int[] bytes = new int[MOST_BYTES];
        int length = 0;
        private int tokenSort = END;
        private int tokenBegin = 0;
        private int tokenEnd = 0;
        private int tokenNumber = 0;

        /** The caller has seen that there is room. */
        void append(int number, int n) {
            for (int i = n - 1; i >= 0; i--) {
                bytes[length] = (number >>> (8 * i)) & 255;
                length++;
            }
        }

        /** How many items the league got, or -1 less the fault, with which it may have got some of them. */
        int readInto(League league) {
            tokenEnd = 0;
            for (int items = 1; items <= MOST_BYTES; items++) {
                goOn();
                if (!readItem(league)) {
                    return -1 - tokenBegin;
                }
                if (tokenSort == END) {
                    return items;
                }
                if (tokenSort != SIGN) {
                    return -1 - tokenBegin;
                }
            }
            return -1 - length;
        }

        private boolean readItem(League league) {
            int kind = kindOfWord();
            if (kind >= 0) {
                return readSide(league, kind);
            }
            if (isWord("game")) {
                return readGame(league);
            }
            return isWord("law") && readLaw(league);
        }

        private boolean readSide(League league, int kind) {
            if (league.sideCount >= MOST_SIDES) {
                return false;
            }
            goOn();
            if (!isNumber(1, MOST_STRENGTH)) {
                return false;
            }
            int strength = tokenNumber;
            goOn();
            int tells = readPerhaps("tells", 0, MOST_TELLS, 0);
            if (tells < 0) {
                return false;
            }
            league.addSide(kind, strength, tells);
            return true;
        }

        private boolean readGame(League league) {
            if (league.gameCount >= MOST_GAMES) {
                return false;
            }
            goOn();
            if (!isNumber(0, league.sideCount - 1)) {
                return false;
            }
            int first = tokenNumber;
            goOn();
            if (!isNumber(0, league.sideCount - 1) || tokenNumber == first) {
                return false;
            }
            int other = tokenNumber;
            goOn();
            int worth = readPerhaps("worth", 1, MOST_WORTH, 1);
            if (worth < 0) {
                return false;
            }
            league.addGame(first, other, worth);
            return true;
        }

        private boolean readLaw(League league) {
            goOn();
            if (!isNumber(1, MOST_LAW)) {
                return false;
            }
            league.law = tokenNumber;
            goOn();
            return true;
        }

        /** The number behind a word that may stand here, or what counts without the word; -1 with a fault. */
        private int readPerhaps(String word, int least, int most, int without) {
            if (!isWord(word)) {
                return without;
            }
            goOn();
            if (!isNumber(least, most)) {
                return -1;
            }
            int told = tokenNumber;
            goOn();
            return told;
        }

        private boolean isNumber(int least, int most) {
            return tokenSort == NUMBER && tokenNumber >= least && tokenNumber <= most;
        }

        private boolean isWord(String word) {
            if (tokenSort != WORD || tokenEnd - tokenBegin != word.length()) {
                return false;
            }
            for (int i = 0; i < word.length(); i++) {
                if (bytes[tokenBegin + i] != word.charAt(i)) {
                    return false;
                }
            }
            return true;
        }

        private int kindOfWord() {
            if (isWord("side")) {
                return SIDE;
            }
            if (isWord("try")) {
                return TRY;
            }
            if (isWord("spare")) {
                return SPARE;
            }
            if (isWord("choose")) {
                return CHOOSE;
            }
            if (isWord("feed")) {
                return FEED;
            }
            if (isWord("bar")) {
                return BAR;
            }
            return isWord("told") ? TOLD : -1;
        }

        /** To the next token. */
        private void goOn() {
            tokenBegin = tokenEnd;
            while (tokenBegin < length && bytes[tokenBegin] == ' ') {
                tokenBegin++;
            }
            tokenEnd = tokenBegin;
            tokenNumber = 0;
            if (tokenBegin >= length) {
                tokenSort = END;
            } else if (isLetter(bytes[tokenBegin])) {
                tokenSort = WORD;
                while (tokenEnd < length && isLetter(bytes[tokenEnd])) {
                    tokenEnd++;
                }
            } else if (isDigit(bytes[tokenBegin])) {
                tokenSort = NUMBER;
                goThroughDigits();
            } else {
                tokenSort = bytes[tokenBegin] == ';' ? SIGN : STRANGE;
                tokenEnd++;
            }
        }

        private void goThroughDigits() {
            while (tokenEnd < length && isDigit(bytes[tokenEnd])) {
                // One above the limit is as wrong as any greater number, and can't overflow.
                tokenNumber = Math.min(tokenNumber * 10 + bytes[tokenEnd] - '0', NUMBER_LIMIT + 1);
                tokenEnd++;
            }
        }

        private static boolean isLetter(int b) {
            return b >= 'a' && b <= 'z';
        }

        private static boolean isDigit(int b) {
            return b >= '0' && b <= '9';
        }
    }
}
