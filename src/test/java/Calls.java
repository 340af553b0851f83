import java.util.List;

/** The calls by their names. */
final class Calls {
    static final List<String> NAMES = List.of(
        "set", "setting", "join", "start", "hide", "seek", "walk", "cry", "dash", "player", "spot", "ranked",
        "nextSeeker", "total", "inSight", "couldDash", "bestSpot", "fewestSteps", "append", "clearText",
        "errorPosition", "play", "undo", "save", "restore");
    /** The predictions, which stand one after the other in NAMES. */
    static final List<String> PREDICTIONS = NAMES.subList(14, 18);

    private Calls() {
    }

    /** Makes the call with as many of the arguments as it takes. */
    static int make(SeekLeague league, String name, int a, int b) {
        switch (name) {
            case "set": return league.set(a, b);
            case "setting": return league.setting(a);
            case "join": return league.join();
            case "start": return league.start(a, b);
            case "hide": return league.hide(a, b);
            case "seek": return league.seek();
            case "walk": return league.walk(a);
            case "cry": return league.cry(a, b);
            case "dash": return league.dash(a);
            case "player": return league.player(a, b);
            case "spot": return league.spot(a, b);
            case "ranked": return league.ranked(a);
            case "nextSeeker": return league.nextSeeker();
            case "total": return league.total(a);
            case "inSight": return league.inSight();
            case "couldDash": return league.couldDash();
            case "bestSpot": return league.bestSpot();
            case "fewestSteps": return league.fewestSteps();
            case "append": return league.append(a);
            case "clearText": return league.clearText();
            case "errorPosition": return league.errorPosition();
            case "play": return league.play();
            case "undo": return league.undo();
            case "save": return league.save();
            case "restore": return league.restore();
            default: throw new IllegalArgumentException(name);
        }
    }

    static int argumentsOf(String name) {
        switch (name) {
            case "set": case "start": case "hide": case "cry": case "player": case "spot":
                return 2;
            case "setting": case "walk": case "dash": case "ranked": case "total": case "append":
                return 1;
            default:
                return 0;
        }
    }
}
