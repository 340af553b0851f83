/** All that can be asked of a league, ahead of calls and after they are taken back. */
public final class UndoAndSaveTest {
    private static final Check CHECK = new Check();
    private static final int NOT_POSSIBLE = SeekLeague.NOT_POSSIBLE;

    public static void main(String[] args) {
        undoBringsBackAllThatCanBeAsked();
        refusedCallsSpoilNoRecord();
        undoBringsBackRestedSpots();
        saveAndRestore();
        theSavedStateIsACopy();
        CHECK.finish("UndoAndSaveTest");
    }

    /** A round of all undoable calls; each is undone and made again. */
    private static void undoBringsBackAllThatCanBeAsked() {
        for (int depth = 1; depth <= 5; depth++) {
            for (int last = depth; last <= 14; last++) {
                SeekLeague undone = leagueAfter(last);
                for (int i = 0; i < depth; i++) {
                    undone.undo();
                }
                String before = Leagues.describe(leagueAfter(last - depth));
                CHECK.holds("as ahead of call " + (last - depth + 1) + " after call " + last + ": " + before,
                        before.equals(Leagues.describe(undone)));
            }
        }
    }

    private static SeekLeague leagueAfter(int calls) {
        SeekLeague x = new SeekLeague();
        x.join();
        x.join();
        x.set(1, 1);
        x.save();
        for (int call = 1; call <= calls; call++) {
            switch (call) {
                case 1: x.join(); break;
                case 2: x.join(); break;
                case 3: x.set(2, 1); break;
                case 4: x.start(1, 8); break;
                case 5: x.hide(0, 1); break;
                case 6: x.hide(2, 2); break;
                case 7: x.hide(3, 2); break;
                case 8: x.seek(); break;
                case 9: x.walk(1); break;
                case 10: x.cry(2, 0); break;
                case 11: x.cry(2, 2); break;
                case 12: x.walk(1); break;
                case 13: x.dash(0); break;
                default: x.restore(); break;
            }
        }
        return x;
    }

    private static void refusedCallsSpoilNoRecord() {
        for (int calls = 1; calls <= 12; calls++) {
            SeekLeague x = new SeekLeague();
            for (int call = 1; call <= calls; call++) {
                x.set(2, call % 10);
                x.set(2, 10);
                x.seek();
            }
            for (int back = 1; back <= Math.min(5, calls); back++) {
                x.undo();
                CHECK.due("back by " + back + " of " + calls, x.setting(2), back == calls ? 2 : (calls - back) % 10);
            }
        }
    }

    private static void undoBringsBackRestedSpots() {
        SeekLeague x = Leagues.seeking(1);
        x.set(1, 1);
        x.cry(1, 1);
        x.start(0, 1);
        x.seek();
        CHECK.due("open", x.spot(1, 2), 0);
        CHECK.due("rounds", x.total(1), 2);
        x.undo();
        CHECK.due("retired again", x.spot(1, 2), 1);
        CHECK.due("with its finds", x.spot(1, 1), 1);
        CHECK.due("rounds", x.total(1), 1);
        x.seek();
        CHECK.due("open as before", x.spot(1, 2), 0);
    }

    private static void saveAndRestore() {
        SeekLeague x = new SeekLeague();
        CHECK.due("restore() of nothing", x.restore(), NOT_POSSIBLE);
        CHECK.due("save() of an empty league", x.save(), 0);
        x.join();
        x.join();
        x.join();
        x.set(0, 2);
        CHECK.due("restore()", x.restore(), 0);
        CHECK.due("players", x.total(0), 0);
        CHECK.due("the sight", x.setting(0), 1);
        x.join();
        x.join();
        CHECK.due("save()", x.save(), 2);
        x.join();
        CHECK.due("restore() of the later one", x.restore(), 2);
        x.join();
        CHECK.due("restore() again", x.restore(), 2);
        x.start(1, 3);
        x.hide(0, 3);
        x.seek();
        x.walk(1);
        x.cry(0, 1);
        CHECK.due("save() in a round", x.save(), 2);
        x.cry(0, 1);
        CHECK.due("the round has ended", x.total(2), 0);
        x.join();
        CHECK.due("restore() of the round", x.restore(), 2);
        int[] totals = {2, 0, 2, 1, 3, 1, 1, 1, 0, -1};
        for (int what = 0; what < totals.length; what++) {
            CHECK.due("total(" + what + ")", x.total(what), totals[what]);
        }
        CHECK.due("hidden", x.player(0, 6), 3);
        CHECK.due("false cries", x.player(1, 3), 1);
    }

    private static void theSavedStateIsACopy() {
        SeekLeague x = Leagues.seeking(1, 8);
        x.save();
        x.set(1, 1);
        x.cry(1, 1);
        x.cry(2, 0);
        x.restore();
        CHECK.due("finds", x.spot(1, 1), 0);
        CHECK.due("retired", x.spot(1, 2), 0);
        CHECK.due("hidden", x.spot(1, 3), 0b10);
        CHECK.due("points", x.player(0, 0), 0);
        CHECK.due("the finds setting", x.setting(1), 2);
        x.cry(1, 1);
        x.restore();
        CHECK.due("hidden again", x.spot(1, 3), 0b10);
    }
}
