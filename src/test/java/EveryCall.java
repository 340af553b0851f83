import java.util.List;
import java.util.Map;
import java.util.Set;

/** Every call, with arguments in and out of their ranges, in leagues in all parts of a round. */
final class EveryCall {
    private static final int NO_SUCH = SeekLeague.NO_SUCH;
    private static final int BAD_VALUE = SeekLeague.BAD_VALUE;
    private static final int NOT_POSSIBLE = SeekLeague.NOT_POSSIBLE;
    private static final int LIMIT = SeekLeague.LIMIT;
    private static final int[] FIRST = {Integer.MIN_VALUE, -1, 0, 1, 2, 3, 4, 7, 8, 15, 16, 33, 127, Integer.MAX_VALUE};
    private static final int[] SECOND = {Integer.MIN_VALUE, -1, 0, 1, 2, 3, 4, 8, 9, 15, 16, Integer.MAX_VALUE};
    private static final int[] NONE_TAKEN = {0};
    private static final int STATES = 7;
    private static final Set<String> UNDOABLE =
            Set.of("set", "join", "start", "hide", "seek", "walk", "cry", "dash", "play", "restore");
    /** These change what no state holds: the buffer, the saved state, the recorded states. */
    private static final Set<String> BESIDE_THE_STATE = Set.of("append", "clearText", "undo", "save");
    private static final Map<String, Set<Integer>> CODES = Map.ofEntries(
            Map.entry("set", Set.of(BAD_VALUE)), Map.entry("setting", Set.of(BAD_VALUE)),
            Map.entry("join", Set.of(NOT_POSSIBLE, LIMIT)),
            Map.entry("start", Set.of(NO_SUCH, BAD_VALUE, NOT_POSSIBLE)),
            Map.entry("hide", Set.of(NO_SUCH, NOT_POSSIBLE, LIMIT)), Map.entry("seek", Set.of(NOT_POSSIBLE)),
            Map.entry("walk", Set.of(BAD_VALUE, NOT_POSSIBLE)), Map.entry("cry", Set.of(NO_SUCH, NOT_POSSIBLE)),
            Map.entry("dash", Set.of(NO_SUCH, NOT_POSSIBLE)), Map.entry("player", Set.of(NO_SUCH, BAD_VALUE)),
            Map.entry("spot", Set.of(NO_SUCH, BAD_VALUE)), Map.entry("ranked", Set.of(NO_SUCH)),
            Map.entry("total", Set.of(BAD_VALUE)), Map.entry("inSight", Set.of(NOT_POSSIBLE)),
            Map.entry("couldDash", Set.of(NOT_POSSIBLE)), Map.entry("bestSpot", Set.of(NOT_POSSIBLE)),
            Map.entry("fewestSteps", Set.of(NOT_POSSIBLE)), Map.entry("append", Set.of(BAD_VALUE, LIMIT)),
            Map.entry("play", Set.of(SeekLeague.BAD_TEXT)), Map.entry("undo", Set.of(NOT_POSSIBLE)),
            Map.entry("restore", Set.of(NOT_POSSIBLE)));
    private static final Set<String> MAY_ANSWER_NONE =
            Set.of("player", "nextSeeker", "total", "bestSpot", "errorPosition");

    private EveryCall() {
    }

    static void check(Sentences s) {
        s.of("Terms", "A method that fails returns one of the error codes NO_SUCH, BAD_VALUE, NOT_POSSIBLE, LIMIT and "
                + "BAD_TEXT. Each method lists its error codes");
        forEveryCall((state, name, a, b) -> checkCode(s, state, name, a, b));
        s.of("Terms", "A call that returns an error code changes nothing.");
        forEveryCall((state, name, a, b) -> checkRefusal(s, state, name, a, b));
        s.of("Terms", "Undo. The methods that are marked \"Undoable.\" record the state that was current ahead of the "
                + "call, if they return no error code (also if the call makes no difference).");
        forEveryCall((state, name, a, b) -> checkRecord(s, state, name, a, b));
        forEveryCall((state, name, a, b) -> checkNoRecord(s, state, name, a, b));
        s.of("Terms", "Ahead of the calls `inSight`, `couldDash`, `bestSpot`, `fewestSteps` the interface says: ---- "
                + "predictions; they change nothing.");
        forEveryCall((state, name, a, b) -> checkQuestion(s, state, name, a, b));
    }

    private interface Test {
        void of(int state, String name, int a, int b);
    }

    private static void forEveryCall(Test test) {
        for (int state = 0; state < STATES; state++) {
            for (String name : Calls.NAMES) {
                int taken = Calls.argumentsOf(name);
                for (int a : taken > 0 ? FIRST : NONE_TAKEN) {
                    for (int b : taken > 1 ? SECOND : NONE_TAKEN) {
                        test.of(state, name, a, b);
                    }
                }
            }
        }
    }

    private static SeekLeague leagueIn(int state) {
        switch (state) {
            case 0: return new SeekLeague();
            case 1: return Leagues.withPlayers(1);
            case 2: return betweenRounds();
            case 3: return hiding("b,+,x");
            case 4: return hiding("h3o,b,d3,h3c");
            case 5: return seeking("+,+,c4d");
            default: return seeking("+,".repeat(30));
        }
    }

    /** 8 players, a retired spot, a text of one move that isn't possible, and a saved state. */
    private static SeekLeague betweenRounds() {
        SeekLeague x = Leagues.withPlayers(8);
        x.set(1, 1);
        Leagues.playHiding(x, 1);
        x.save();
        x.cry(1, 1);
        Leagues.write(x, "b");
        return x;
    }

    /** The spot 1 is retired, at 3 hide two players, two don't hide yet. */
    private static SeekLeague hiding(String text) {
        SeekLeague x = Leagues.withPlayers(6);
        x.set(1, 1);
        Leagues.playHiding(x, 1);
        x.cry(1, 1);
        x.start(2, 4);
        x.hide(0, 3);
        x.hide(1, 3);
        x.hide(4, 2);
        Leagues.write(x, text);
        return x;
    }

    private static SeekLeague seeking(String text) {
        SeekLeague x = hiding(text);
        x.save();
        x.hide(3, 13);
        x.seek();
        x.cry(3, 15);
        x.walk(1);
        return x;
    }

    private static String said(int state, String name, int a, int b) {
        return "in the state " + state + ", " + name + "(" + a + ", " + b + ")";
    }

    private static boolean isCode(int answer) {
        return answer <= NO_SUCH && answer >= SeekLeague.BAD_TEXT;
    }

    private static void checkCode(Sentences s, int state, String name, int a, int b) {
        int answer = Calls.make(leagueIn(state), name, a, b);
        boolean isListed = CODES.getOrDefault(name, Set.of()).contains(answer);
        boolean isNone = answer == SeekLeague.NONE && MAY_ANSWER_NONE.contains(name);
        boolean isPoints = List.of("player", "total").contains(name) && answer > -100;
        s.holds(said(state, name, a, b) + " answered " + answer, answer >= 0 || isListed || isNone || isPoints);
    }

    private static void checkRefusal(Sentences s, int state, String name, int a, int b) {
        SeekLeague x = leagueIn(state);
        if (isCode(Calls.make(x, name, a, b))) {
            String call = said(state, name, a, b);
            s.holds(call, Leagues.describe(x).equals(Leagues.describe(leagueIn(state))));
            s.holds(call + " and the buffer", sameBuffer(x, leagueIn(state)));
            SeekLeague y = leagueIn(state);
            Calls.make(y, name, a, b);
            s.holds(call + " and the recorded states", sameRecords(y, leagueIn(state)));
            SeekLeague z = leagueIn(state);
            Calls.make(z, name, a, b);
            s.holds(call + " and the saved state", sameSaved(z, leagueIn(state)));
        }
    }

    private static boolean sameBuffer(SeekLeague x, SeekLeague y) {
        return x.errorPosition() == y.errorPosition() && x.play() == y.play() && x.clearText() == y.clearText()
                && Leagues.describe(x).equals(Leagues.describe(y));
    }

    private static boolean sameRecords(SeekLeague x, SeekLeague y) {
        int left = y.undo();
        boolean isSame = x.undo() == left;
        for (int i = 0; i < left; i++) {
            isSame &= x.total(9) == y.total(9) && x.total(7) == y.total(7) && x.total(5) == y.total(5);
            isSame &= x.undo() == y.undo();
        }
        return isSame && Leagues.describe(x).equals(Leagues.describe(y));
    }

    private static boolean sameSaved(SeekLeague x, SeekLeague y) {
        return x.restore() == y.restore() && Leagues.describe(x).equals(Leagues.describe(y));
    }

    /** What the call recorded is what undo() brings back; with it there are at most 5 states. */
    private static void checkRecord(Sentences s, int state, String name, int a, int b) {
        SeekLeague x = leagueIn(state);
        if (UNDOABLE.contains(name) && !isCode(Calls.make(x, name, a, b))) {
            String call = said(state, name, a, b);
            int recordedAhead = leagueIn(state).undo() + 1;
            int due = Math.min(4, Math.max(recordedAhead, 0));
            s.due("undo() after " + call, x.undo(), due);
            s.holds("as ahead of " + call, Leagues.describe(x).equals(Leagues.describe(leagueIn(state))));
            if (recordedAhead > 0) {
                SeekLeague before = leagueIn(state);
                before.undo();
                s.due("undo() further", x.undo(), due - 1);
                s.holds("the state ahead of that", Leagues.describe(x).equals(Leagues.describe(before)));
            }
        }
    }

    private static void checkNoRecord(Sentences s, int state, String name, int a, int b) {
        if (!UNDOABLE.contains(name) && !name.equals("undo")) {
            SeekLeague x = leagueIn(state);
            Calls.make(x, name, a, b);
            s.holds(said(state, name, a, b) + " records nothing", sameRecords(x, leagueIn(state)));
        }
    }

    private static void checkQuestion(Sentences s, int state, String name, int a, int b) {
        if (UNDOABLE.contains(name) || BESIDE_THE_STATE.contains(name)) {
            return;
        }
        SeekLeague x = leagueIn(state);
        String call = said(state, name, a, b);
        int answer = Calls.make(x, name, a, b);
        s.due(call + " once more", Calls.make(x, name, a, b), answer);
        s.holds(call, Leagues.describe(x).equals(Leagues.describe(leagueIn(state))));
        s.holds(call + " and the buffer", sameBuffer(x, leagueIn(state)));
    }
}
