import java.util.Arrays;

/**
 * A league of hide and seek on a round yard of 16 spots. What each call takes, does and returns is
 * told by the numbered promises of the project's document.
 */
public final class SeekLeague {
    /** There is no such player or spot. */
    public static final int NO_SUCH = -10001;
    /** Another argument is out of its range. */
    public static final int BAD_VALUE = -10002;
    /** The call is not possible in the current state. */
    public static final int NOT_POSSIBLE = -10003;
    /** There is no room for another player, hider or character. */
    public static final int LIMIT = -10004;
    /** The buffer does not contain a text. */
    public static final int BAD_TEXT = -10005;
    /** There is no such result. */
    public static final int NONE = -10006;

    private static final int MAX_PLAYERS = 8;
    private static final int MIN_PLAYERS_OF_ROUND = 2;
    private static final int MAX_BREATHS = 8;
    private static final int MAX_HIDERS_AT_SPOT = 2;
    private static final int MAX_RECORDED = 5;
    private static final int MAX_CHARACTERS = 60;

    private static final int SIGHT = 0;
    private static final int FINDS_OF_SPOT = 1;
    private static final int REST = 2;
    private static final int FALSE_CRIES_OF_ROUND = 3;
    private static final int[] LOWEST_SETTING = {0, 1, 0, 1};
    private static final int[] HIGHEST_SETTING = {3, 9, 9, 9};

    private static final int NO_ROUND = 0;
    private static final int HIDING = 1;
    private static final int SEEKING = 2;

    private static final int POINTS_FOR_CRY = 2;
    private static final int POINTS_FOR_FALSE_CRY = -1;
    private static final int POINTS_FOR_ESCAPE = 3;
    private static final int POINTS_FOR_STOPPED_DASH = 1;
    private static final int POINTS_FOR_LAST_FALSE_CRY = 1;

    private final State now;
    private final State saved;
    private final Past past;
    private final MoveText text;
    private boolean hasSaved;

    /** Creates a league without players. */
    public SeekLeague() {
        now = new State();
        saved = new State();
        past = new Past();
        text = new MoveText();
        hasSaved = false;
    }

    // ---- settings and players

    public int set(int setting, int value) {
        past.draft(now);
        return past.keep(Moves.changeSetting(now, setting, value));
    }

    public int setting(int setting) {
        if (!State.isSetting(setting)) {
            return BAD_VALUE;
        }
        return now.settings[setting];
    }

    public int join() {
        past.draft(now);
        return past.keep(Moves.addPlayer(now));
    }

    // ---- rounds

    public int start(int seeker, int breaths) {
        past.draft(now);
        return past.keep(Moves.beginRound(now, seeker, breaths));
    }

    public int hide(int player, int spot) {
        past.draft(now);
        return past.keep(Moves.hidePlayer(now, player, spot));
    }

    public int seek() {
        past.draft(now);
        return past.keep(Moves.beginSeeking(now));
    }

    public int walk(int way) {
        past.draft(now);
        return past.keep(Moves.moveSeeker(now, way));
    }

    public int cry(int player, int spot) {
        past.draft(now);
        return past.keep(Moves.cryName(now, player, spot));
    }

    public int dash(int player) {
        past.draft(now);
        return past.keep(Moves.dashHome(now, player));
    }

    // ---- what there is

    public int player(int player, int part) {
        if (!now.isPlayer(player)) {
            return NO_SUCH;
        }
        switch (part) {
            case 0: return now.points[player];
            case 1: return now.seekerRounds[player];
            case 2: return now.playersFound[player];
            case 3: return now.falseCries[player];
            case 4: return now.escapes[player];
            case 5: return Ranks.placeOf(now, player);
            case 6: return now.hidesAt[player];
            default: return BAD_VALUE;
        }
    }

    public int spot(int spot, int part) {
        if (!Yard.isSpot(spot)) {
            return NO_SUCH;
        }
        switch (part) {
            case 0: return Yard.fromBase(spot);
            case 1: return now.finds[spot];
            case 2: return now.isRetired(spot) ? 1 : 0;
            case 3: return now.hidersAt(spot);
            default: return BAD_VALUE;
        }
    }

    public int ranked(int place) {
        return Ranks.playerAt(now, place);
    }

    public int nextSeeker() {
        return Ranks.seekerOfNextRound(now);
    }

    public int total(int what) {
        switch (what) {
            case 0: return now.players;
            case 1: return now.roundsEnded;
            case 2: return now.part;
            case 3: return now.seeker;
            case 4: return now.breaths;
            case 5: return now.seekerSpot;
            case 6: return now.falseCriesOfRound;
            case 7: return now.hiddenCount();
            case 8: return now.retiredCount();
            case 9: return now.sumOfPoints();
            default: return BAD_VALUE;
        }
    }

    // ---- predictions; they change nothing

    public int inSight() {
        return Forecast.spotsInSight(now);
    }

    public int couldDash() {
        return Forecast.playersWhoWouldEscape(now);
    }

    public int bestSpot() {
        return Forecast.bestHidingSpot(now);
    }

    public int fewestSteps() {
        return Forecast.stepsToSeeAll(now);
    }

    // ---- texts

    public int append(int code) {
        return text.add(code);
    }

    public int clearText() {
        return text.empty();
    }

    public int errorPosition() {
        return text.firstError();
    }

    public int play() {
        if (text.firstError() != NONE) {
            return BAD_TEXT;
        }
        past.draft(now);
        int made = 0;
        for (int at = 0; at < MAX_CHARACTERS; at++) {
            if (text.startsMove(at)) {
                if (makeMove(at) < 0) {
                    break;
                }
                made++;
            }
        }
        text.empty();
        return past.keep(made);
    }

    private int makeMove(int at) {
        int player = text.signAt(at + 1) - '0';
        int spot = text.signAt(at + 2) - 'a';
        switch (text.signAt(at)) {
            case 'h': return Moves.hidePlayer(now, player, spot);
            case 'b': return Moves.beginSeeking(now);
            case '+': return Moves.moveSeeker(now, 1);
            case '-': return Moves.moveSeeker(now, -1);
            case 'c': return Moves.cryName(now, player, spot);
            case 'd': return Moves.dashHome(now, player);
            default: return BAD_TEXT;
        }
    }

    // ---- undo, saved state

    public int undo() {
        return past.takeBack(now);
    }

    public int save() {
        saved.copyFrom(now);
        hasSaved = true;
        return now.players;
    }

    public int restore() {
        if (!hasSaved) {
            return NOT_POSSIBLE;
        }
        past.draft(now);
        now.copyFrom(saved);
        return past.keep(now.players);
    }

    /** The spots in their circle. */
    private static final class Yard {
        static final int SPOTS = 16;
        static final int BASE = 0;

        private Yard() {
        }

        static boolean isSpot(int spot) {
            return spot >= 0 && spot < SPOTS;
        }

        static int distance(int one, int other) {
            return Math.min(stepsUp(one, other), stepsUp(other, one));
        }

        static int fromBase(int spot) {
            return Math.min(spot, stepsUp(spot, BASE));
        }

        static int stepsUp(int from, int to) {
            return Math.floorMod(to - from, SPOTS);
        }

        static int beside(int spot, int way) {
            return Math.floorMod(spot + way, SPOTS);
        }
    }

    /** Everything that undo() and restore() bring back. */
    private static final class State {
        /** In restedRounds: the spot is not retired. */
        static final int OPEN = -1;

        final int[] settings = {1, 2, 2, 2};
        final int[] points = new int[MAX_PLAYERS];
        final int[] seekerRounds = new int[MAX_PLAYERS];
        final int[] playersFound = new int[MAX_PLAYERS];
        final int[] falseCries = new int[MAX_PLAYERS];
        final int[] escapes = new int[MAX_PLAYERS];
        /** The spot of each player, NONE for one who is not hidden. */
        final int[] hidesAt = new int[MAX_PLAYERS];
        final int[] finds = new int[Yard.SPOTS];
        /** How many rounds have ended since the spot was retired, or OPEN. */
        final int[] restedRounds = new int[Yard.SPOTS];
        int players = 0;
        int roundsEnded = 0;
        int part = NO_ROUND;
        int seeker = NONE;
        int breaths = NONE;
        int seekerSpot = NONE;
        int falseCriesOfRound = 0;

        State() {
            Arrays.fill(hidesAt, NONE);
            Arrays.fill(restedRounds, OPEN);
        }

        void copyFrom(State other) {
            System.arraycopy(other.settings, 0, settings, 0, settings.length);
            System.arraycopy(other.points, 0, points, 0, MAX_PLAYERS);
            System.arraycopy(other.seekerRounds, 0, seekerRounds, 0, MAX_PLAYERS);
            System.arraycopy(other.playersFound, 0, playersFound, 0, MAX_PLAYERS);
            System.arraycopy(other.falseCries, 0, falseCries, 0, MAX_PLAYERS);
            System.arraycopy(other.escapes, 0, escapes, 0, MAX_PLAYERS);
            System.arraycopy(other.hidesAt, 0, hidesAt, 0, MAX_PLAYERS);
            System.arraycopy(other.finds, 0, finds, 0, Yard.SPOTS);
            System.arraycopy(other.restedRounds, 0, restedRounds, 0, Yard.SPOTS);
            players = other.players;
            roundsEnded = other.roundsEnded;
            part = other.part;
            seeker = other.seeker;
            breaths = other.breaths;
            seekerSpot = other.seekerSpot;
            falseCriesOfRound = other.falseCriesOfRound;
        }

        static boolean isSetting(int setting) {
            return setting >= SIGHT && setting <= FALSE_CRIES_OF_ROUND;
        }

        boolean isPlayer(int player) {
            return player >= 0 && player < players;
        }

        boolean isHidden(int player) {
            return isPlayer(player) && hidesAt[player] != NONE;
        }

        int hiddenCount() {
            int count = 0;
            for (int player = 0; player < players; player++) {
                if (isHidden(player)) {
                    count++;
                }
            }
            return count;
        }

        /** The players who hide at the spot, as a bit mask. */
        int hidersAt(int spot) {
            int mask = 0;
            for (int player = 0; player < players; player++) {
                if (hidesAt[player] == spot) {
                    mask |= 1 << player;
                }
            }
            return mask;
        }

        int hiderCount(int spot) {
            return Integer.bitCount(hidersAt(spot));
        }

        boolean isRetired(int spot) {
            return Yard.isSpot(spot) && restedRounds[spot] != OPEN;
        }

        int retiredCount() {
            int count = 0;
            for (int spot = 0; spot < Yard.SPOTS; spot++) {
                if (isRetired(spot)) {
                    count++;
                }
            }
            return count;
        }

        /** Whether hiders are allowed at the spot in this round, however many hide there already. */
        boolean isHidingPlace(int spot) {
            return spot != Yard.BASE && Yard.fromBase(spot) <= breaths && !isRetired(spot);
        }

        boolean isFull(int spot) {
            return hiderCount(spot) >= MAX_HIDERS_AT_SPOT;
        }

        boolean hasRoomToHide(int spot) {
            return isHidingPlace(spot) && !isFull(spot);
        }

        boolean seekerSees(int spot) {
            return Yard.distance(seekerSpot, spot) <= settings[SIGHT];
        }

        boolean wouldEscape(int player) {
            return isHidden(player) && Yard.fromBase(hidesAt[player]) < Yard.fromBase(seekerSpot);
        }

        int sumOfPoints() {
            int sum = 0;
            for (int player = 0; player < players; player++) {
                sum += points[player];
            }
            return sum;
        }
    }

    /** The calls that change a state: each returns its answer, or an error code and changes nothing. */
    private static final class Moves {
        private Moves() {
        }

        static int changeSetting(State state, int setting, int value) {
            if (!State.isSetting(setting)) {
                return BAD_VALUE;
            }
            if (value < LOWEST_SETTING[setting] || value > HIGHEST_SETTING[setting]) {
                return BAD_VALUE;
            }
            int previous = state.settings[setting];
            state.settings[setting] = value;
            return previous;
        }

        static int addPlayer(State state) {
            if (state.part != NO_ROUND) {
                return NOT_POSSIBLE;
            }
            if (state.players >= MAX_PLAYERS) {
                return LIMIT;
            }
            int player = state.players;
            state.players = player + 1;
            return player;
        }

        static int beginRound(State state, int seeker, int breaths) {
            if (!state.isPlayer(seeker)) {
                return NO_SUCH;
            }
            if (breaths < 1 || breaths > MAX_BREATHS) {
                return BAD_VALUE;
            }
            if (state.part != NO_ROUND || state.players < MIN_PLAYERS_OF_ROUND) {
                return NOT_POSSIBLE;
            }
            state.part = HIDING;
            state.seeker = seeker;
            state.breaths = breaths;
            state.seekerRounds[seeker]++;
            return countHidingSpots(state);
        }

        private static int countHidingSpots(State state) {
            int count = 0;
            for (int spot = 0; spot < Yard.SPOTS; spot++) {
                if (state.hasRoomToHide(spot)) {
                    count++;
                }
            }
            return count;
        }

        static int hidePlayer(State state, int player, int spot) {
            if (!state.isPlayer(player) || !Yard.isSpot(spot)) {
                return NO_SUCH;
            }
            if (state.part != HIDING || player == state.seeker || state.isHidden(player)) {
                return NOT_POSSIBLE;
            }
            if (!state.isHidingPlace(spot)) {
                return NOT_POSSIBLE;
            }
            if (state.isFull(spot)) {
                return LIMIT;
            }
            state.hidesAt[player] = spot;
            return Yard.fromBase(spot);
        }

        static int beginSeeking(State state) {
            if (state.part != HIDING) {
                return NOT_POSSIBLE;
            }
            state.part = SEEKING;
            state.seekerSpot = Yard.BASE;
            int hidden = state.hiddenCount();
            endRoundIfNobodyIsHidden(state);
            return hidden;
        }

        static int moveSeeker(State state, int way) {
            if (way < -1 || way > 1) {
                return BAD_VALUE;
            }
            if (state.part != SEEKING) {
                return NOT_POSSIBLE;
            }
            state.seekerSpot = Yard.beside(state.seekerSpot, way);
            return state.seekerSpot;
        }

        static int cryName(State state, int player, int spot) {
            if (!state.isPlayer(player) || !Yard.isSpot(spot)) {
                return NO_SUCH;
            }
            if (state.part != SEEKING || player == state.seeker || !state.seekerSees(spot)) {
                return NOT_POSSIBLE;
            }
            if (state.hidesAt[player] != spot) {
                countFalseCry(state);
                return 0;
            }
            countFindOfSpot(state, spot);
            findPlayer(state, player, POINTS_FOR_CRY);
            return 1;
        }

        static int dashHome(State state, int player) {
            if (!state.isPlayer(player)) {
                return NO_SUCH;
            }
            if (state.part != SEEKING || !state.isHidden(player)) {
                return NOT_POSSIBLE;
            }
            if (!state.wouldEscape(player)) {
                findPlayer(state, player, POINTS_FOR_STOPPED_DASH);
                return 0;
            }
            escape(state, player, POINTS_FOR_ESCAPE);
            endRoundIfNobodyIsHidden(state);
            return 1;
        }

        private static void findPlayer(State state, int player, int points) {
            state.hidesAt[player] = NONE;
            if (state.isPlayer(state.seeker)) {
                state.points[state.seeker] += points;
                state.playersFound[state.seeker]++;
            }
            endRoundIfNobodyIsHidden(state);
        }

        private static void countFindOfSpot(State state, int spot) {
            state.finds[spot]++;
            boolean isEnough = state.finds[spot] >= state.settings[FINDS_OF_SPOT];
            if (isEnough && !state.isRetired(spot)) {
                state.restedRounds[spot] = 0;
            }
        }

        private static void countFalseCry(State state) {
            state.falseCriesOfRound++;
            if (state.isPlayer(state.seeker)) {
                state.points[state.seeker] += POINTS_FOR_FALSE_CRY;
                state.falseCries[state.seeker]++;
            }
            if (state.falseCriesOfRound >= state.settings[FALSE_CRIES_OF_ROUND]) {
                letAllEscape(state);
                endRound(state);
            }
        }

        private static void letAllEscape(State state) {
            for (int player = 0; player < state.players; player++) {
                if (state.isHidden(player)) {
                    escape(state, player, POINTS_FOR_LAST_FALSE_CRY);
                }
            }
        }

        private static void escape(State state, int player, int points) {
            state.hidesAt[player] = NONE;
            state.points[player] += points;
            state.escapes[player]++;
        }

        private static void endRoundIfNobodyIsHidden(State state) {
            if (state.hiddenCount() == 0) {
                endRound(state);
            }
        }

        private static void endRound(State state) {
            state.part = NO_ROUND;
            state.seeker = NONE;
            state.breaths = NONE;
            state.seekerSpot = NONE;
            state.falseCriesOfRound = 0;
            state.roundsEnded++;
            for (int spot = 0; spot < Yard.SPOTS; spot++) {
                if (state.isRetired(spot)) {
                    restSpot(state, spot);
                }
            }
        }

        /** The rounds are counted even while the rest is 0, as the setting may become another one later. */
        private static void restSpot(State state, int spot) {
            state.restedRounds[spot]++;
            int rest = state.settings[REST];
            if (rest != 0 && state.restedRounds[spot] >= rest) {
                state.restedRounds[spot] = State.OPEN;
                state.finds[spot] = 0;
            }
        }
    }

    /** The order of the players, and who seeks next. */
    private static final class Ranks {
        private Ranks() {
        }

        private static boolean isAhead(State state, int one, int other) {
            if (state.points[one] != state.points[other]) {
                return state.points[one] > state.points[other];
            }
            if (state.falseCries[one] != state.falseCries[other]) {
                return state.falseCries[one] < state.falseCries[other];
            }
            return one < other;
        }

        static int placeOf(State state, int player) {
            int place = 0;
            for (int other = 0; other < state.players; other++) {
                if (isAhead(state, other, player)) {
                    place++;
                }
            }
            return place;
        }

        static int playerAt(State state, int place) {
            for (int player = 0; player < state.players; player++) {
                if (placeOf(state, player) == place) {
                    return player;
                }
            }
            return NO_SUCH;
        }

        static int seekerOfNextRound(State state) {
            int best = NONE;
            for (int player = 0; player < state.players; player++) {
                if (!state.isPlayer(best) || seeksSooner(state, player, best)) {
                    best = player;
                }
            }
            return best;
        }

        private static boolean seeksSooner(State state, int one, int other) {
            if (state.seekerRounds[one] != state.seekerRounds[other]) {
                return state.seekerRounds[one] < state.seekerRounds[other];
            }
            return isAhead(state, other, one);
        }
    }

    /** What would be seen, who would get home, where to hide, how far to walk. */
    private static final class Forecast {
        private Forecast() {
        }

        static int spotsInSight(State state) {
            if (state.part != SEEKING) {
                return NOT_POSSIBLE;
            }
            int mask = 0;
            for (int spot = 0; spot < Yard.SPOTS; spot++) {
                if (state.seekerSees(spot)) {
                    mask |= 1 << spot;
                }
            }
            return mask;
        }

        static int playersWhoWouldEscape(State state) {
            if (state.part != SEEKING) {
                return NOT_POSSIBLE;
            }
            int mask = 0;
            for (int player = 0; player < state.players; player++) {
                if (state.wouldEscape(player)) {
                    mask |= 1 << player;
                }
            }
            return mask;
        }

        static int bestHidingSpot(State state) {
            if (state.part != HIDING) {
                return NOT_POSSIBLE;
            }
            int best = NONE;
            for (int spot = 0; spot < Yard.SPOTS; spot++) {
                if (state.hasRoomToHide(spot)
                        && (!Yard.isSpot(best) || isBetterToHide(state, spot, best))) {
                    best = spot;
                }
            }
            return best;
        }

        private static boolean isBetterToHide(State state, int one, int other) {
            if (Yard.fromBase(one) != Yard.fromBase(other)) {
                return Yard.fromBase(one) > Yard.fromBase(other);
            }
            if (state.finds[one] != state.finds[other]) {
                return state.finds[one] < state.finds[other];
            }
            if (state.hiderCount(one) != state.hiderCount(other)) {
                return state.hiderCount(one) < state.hiderCount(other);
            }
            return one < other;
        }

        /** A walk that turns more than once only walks twice where it has been, so one turn is enough. */
        static int stepsToSeeAll(State state) {
            if (state.part != SEEKING) {
                return NOT_POSSIBLE;
            }
            int fewest = Yard.SPOTS;
            for (int up = 0; up < Yard.SPOTS; up++) {
                int down = stepsDownForTheRest(state, up);
                fewest = Math.min(fewest, up + down + Math.min(up, down));
            }
            return fewest;
        }

        /** The steps below the seeker's spot for all whom he doesn't see by so many steps above it. */
        private static int stepsDownForTheRest(State state, int up) {
            int down = 0;
            for (int player = 0; player < state.players; player++) {
                if (state.isHidden(player) && !state.seekerSees(state.hidesAt[player])) {
                    int above = Yard.stepsUp(state.seekerSpot, state.hidesAt[player]);
                    int below = Yard.SPOTS - above;
                    if (above - state.settings[SIGHT] > up) {
                        down = Math.max(down, below - state.settings[SIGHT]);
                    }
                }
            }
            return down;
        }
    }

    /** The buffer of characters and its grammar. */
    private static final class MoveText {
        private static final int LOWEST_CODE = 33;
        private static final int HIGHEST_CODE = 126;

        private static final int ERROR = 0;
        private static final int MOVE = 1;
        private static final int PLAYER_AND_SPOT = 2;
        private static final int PLAYER = 3;
        private static final int SPOT = 4;
        private static final int COMMA_OR_END = 5;

        private final int[] signs = new int[MAX_CHARACTERS];
        private int length = 0;

        MoveText() {
        }

        int add(int code) {
            if (code < LOWEST_CODE || code > HIGHEST_CODE) {
                return BAD_VALUE;
            }
            if (length >= MAX_CHARACTERS) {
                return LIMIT;
            }
            signs[length] = code;
            length++;
            return length;
        }

        int empty() {
            int previous = length;
            length = 0;
            return previous;
        }

        /** The character, or a blank, which no text has, where there is none. */
        int signAt(int index) {
            return index >= 0 && index < length ? signs[index] : ' ';
        }

        /** Whether a move begins here, if the buffer is a text. */
        boolean startsMove(int index) {
            return index < length && (index == 0 || signAt(index - 1) == ',');
        }

        int firstError() {
            int expected = MOVE;
            for (int index = 0; index < length; index++) {
                expected = expectedAfter(expected, signs[index]);
                if (expected == ERROR) {
                    return index;
                }
            }
            return expected == COMMA_OR_END ? NONE : length;
        }

        private static int expectedAfter(int expected, int sign) {
            switch (expected) {
                case MOVE: return expectedAfterLetter(sign);
                case PLAYER_AND_SPOT: return isPlayerDigit(sign) ? SPOT : ERROR;
                case PLAYER: return isPlayerDigit(sign) ? COMMA_OR_END : ERROR;
                case SPOT: return isSpotLetter(sign) ? COMMA_OR_END : ERROR;
                case COMMA_OR_END: return sign == ',' ? MOVE : ERROR;
                default: return ERROR;
            }
        }

        private static int expectedAfterLetter(int sign) {
            switch (sign) {
                case 'h':
                case 'c':
                    return PLAYER_AND_SPOT;
                case 'd':
                    return PLAYER;
                case 'b':
                case '+':
                case '-':
                    return COMMA_OR_END;
                default:
                    return ERROR;
            }
        }

        private static boolean isPlayerDigit(int sign) {
            return sign >= '0' && sign <= '7';
        }

        private static boolean isSpotLetter(int sign) {
            return sign >= 'a' && sign <= 'p';
        }
    }

    /** The recorded states, the oldest first, and behind them the room for a draft. */
    private static final class Past {
        private final State[] states = new State[MAX_RECORDED + 1];
        private int count = 0;

        Past() {
            for (int index = 0; index < states.length; index++) {
                states[index] = new State();
            }
        }

        /** Copies the state ahead of a call; whether it is recorded is told by keep(). */
        void draft(State state) {
            states[count].copyFrom(state);
        }

        /** Records the draft unless the answer is an error code, and hands the answer on. */
        int keep(int answer) {
            if (answer < 0) {
                return answer;
            }
            if (count < MAX_RECORDED) {
                count++;
            } else {
                discardOldest();
            }
            return answer;
        }

        /** The oldest state's rows become the room for the next draft. */
        private void discardOldest() {
            State oldest = states[0];
            for (int index = 0; index < MAX_RECORDED; index++) {
                states[index] = states[index + 1];
            }
            states[MAX_RECORDED] = oldest;
        }

        int takeBack(State state) {
            if (count == 0) {
                return NOT_POSSIBLE;
            }
            count--;
            state.copyFrom(states[count]);
            return count;
        }
    }
}
