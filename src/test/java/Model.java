import java.util.ArrayDeque;
import java.util.ArrayList;
import java.util.Comparator;
import java.util.Deque;
import java.util.List;
import java.util.regex.Pattern;

/**
 * The document once more, for the long runs: plain objects, copied whole for each recorded state,
 * and searches that try everything, so that it shares no way of reckoning with the program.
 */
final class Model {
    private static final int NO_SUCH = -10001;
    private static final int BAD_VALUE = -10002;
    private static final int NOT_POSSIBLE = -10003;
    private static final int LIMIT = -10004;
    private static final int BAD_TEXT = -10005;
    private static final int NONE = -10006;
    private static final Pattern TEXT = Pattern.compile(
            "([hc][0-7][a-p]|[b+-]|d[0-7])(,([hc][0-7][a-p]|[b+-]|d[0-7]))*");
    private static final String[] ENDINGS = {"", "b", "0", "a", "0a"};

    private static final class Person {
        int number;
        int points;
        int turns;
        int found;
        int falseCries;
        int escapes;
        Place place;
    }

    private static final class Place {
        int number;
        int finds;
        boolean retired;
        int roundOfRetiring;

        int far() {
            return Math.min(number, 16 - number);
        }
    }

    private static final class Situation {
        int sight = 1;
        int enoughFinds = 2;
        int rest = 2;
        int enoughFalseCries = 2;
        List<Person> people = new ArrayList<>();
        List<Place> places = new ArrayList<>();
        int ended;
        boolean hiding;
        boolean seeking;
        Person seeker;
        int breaths;
        int at;
        int falseCries;

        Situation copy() {
            Situation c = new Situation();
            c.sight = sight;
            c.enoughFinds = enoughFinds;
            c.rest = rest;
            c.enoughFalseCries = enoughFalseCries;
            for (Place p : places) {
                Place q = new Place();
                q.number = p.number;
                q.finds = p.finds;
                q.retired = p.retired;
                q.roundOfRetiring = p.roundOfRetiring;
                c.places.add(q);
            }
            for (Person p : people) {
                Person q = new Person();
                q.number = p.number;
                q.points = p.points;
                q.turns = p.turns;
                q.found = p.found;
                q.falseCries = p.falseCries;
                q.escapes = p.escapes;
                q.place = p.place == null ? null : c.places.get(p.place.number);
                c.people.add(q);
            }
            c.ended = ended;
            c.hiding = hiding;
            c.seeking = seeking;
            c.seeker = seeker == null ? null : c.people.get(seeker.number);
            c.breaths = breaths;
            c.at = at;
            c.falseCries = falseCries;
            return c;
        }

        List<Person> hidden() {
            List<Person> list = new ArrayList<>();
            for (Person p : people) {
                if (p.place != null) {
                    list.add(p);
                }
            }
            return list;
        }

        List<Person> hidersAt(Place place) {
            List<Person> list = hidden();
            list.removeIf(p -> p.place != place);
            return list;
        }

        List<Person> ranks() {
            List<Person> list = new ArrayList<>(people);
            list.sort(Comparator.comparing((Person p) -> -p.points).thenComparing(p -> p.falseCries)
                    .thenComparing(p -> p.number));
            return list;
        }

        List<Place> openPlaces() {
            List<Place> list = new ArrayList<>(places);
            list.removeIf(p -> p.number == 0 || p.far() > breaths || p.retired || hidersAt(p).size() > 1);
            return list;
        }

        void endRound() {
            hiding = false;
            seeking = false;
            seeker = null;
            ended++;
            for (Place p : places) {
                if (p.retired && rest != 0 && ended - p.roundOfRetiring >= rest) {
                    p.retired = false;
                    p.finds = 0;
                }
            }
        }

        void endRoundWhenAllAreOut() {
            if (hidden().isEmpty()) {
                endRound();
            }
        }
    }

    private Situation s = new Situation();
    private Situation saved = null;
    private final Deque<Situation> recorded = new ArrayDeque<>();
    private String buffer = "";

    Model() {
        for (int i = 0; i < 16; i++) {
            Place p = new Place();
            p.number = i;
            s.places.add(p);
        }
    }

    private static int gap(int a, int b) {
        return Math.min(Math.abs(a - b), 16 - Math.abs(a - b));
    }

    private boolean noPerson(int p) {
        return p < 0 || p >= s.people.size();
    }

    private static boolean noPlace(int p) {
        return p < 0 || p > 15;
    }

    private void record(Situation before) {
        recorded.addLast(before);
        if (recorded.size() > 5) {
            recorded.removeFirst();
        }
    }

    /** Makes the call, and records the state ahead of it if the answer is no error code. */
    int call(String name, int a, int b) {
        Situation before = s.copy();
        int answer = answer(name, a, b);
        boolean isUndoable = List.of("set", "join", "start", "hide", "seek", "walk", "cry", "dash", "play", "restore")
                .contains(name);
        if (isUndoable && answer >= 0) {
            record(before);
        }
        return answer;
    }

    private int answer(String name, int a, int b) {
        switch (name) {
            case "set": return set(a, b);
            case "setting": return a < 0 || a > 3 ? BAD_VALUE : settings()[a];
            case "join": return join();
            case "start": return start(a, b);
            case "player": return player(a, b);
            case "spot": return spot(a, b);
            case "ranked": return noPerson(a) ? NO_SUCH : s.ranks().get(a).number;
            case "nextSeeker": return nextSeeker();
            case "total": return total(a);
            case "inSight": return inSight();
            case "couldDash": return couldDash();
            case "bestSpot": return bestSpot();
            case "fewestSteps": return fewestSteps();
            case "append": return append(a);
            case "clearText": return clearText();
            case "errorPosition": return errorPosition();
            case "play": return play();
            case "undo": return undo();
            case "save": saved = s.copy(); return s.people.size();
            case "restore": return restore();
            default: return move(name, a, b);
        }
    }

    private int move(String name, int a, int b) {
        switch (name) {
            case "hide": return hide(a, b);
            case "seek": return seek();
            case "walk": return walk(a);
            case "cry": return cry(a, b);
            case "dash": return dash(a);
            default: throw new IllegalArgumentException(name);
        }
    }

    private int[] settings() {
        return new int[] {s.sight, s.enoughFinds, s.rest, s.enoughFalseCries};
    }

    private int set(int setting, int value) {
        int old = setting < 0 || setting > 3 ? BAD_VALUE : settings()[setting];
        if (setting == 0 && value >= 0 && value <= 3) {
            s.sight = value;
        } else if (setting == 1 && value >= 1 && value <= 9) {
            s.enoughFinds = value;
        } else if (setting == 2 && value >= 0 && value <= 9) {
            s.rest = value;
        } else if (setting == 3 && value >= 1 && value <= 9) {
            s.enoughFalseCries = value;
        } else {
            return BAD_VALUE;
        }
        return old;
    }

    private int join() {
        if (s.hiding || s.seeking) {
            return NOT_POSSIBLE;
        }
        if (s.people.size() == 8) {
            return LIMIT;
        }
        Person p = new Person();
        p.number = s.people.size();
        s.people.add(p);
        return p.number;
    }

    private int start(int seeker, int breaths) {
        if (noPerson(seeker)) {
            return NO_SUCH;
        }
        if (breaths < 1 || breaths > 8) {
            return BAD_VALUE;
        }
        if (s.hiding || s.seeking || s.people.size() < 2) {
            return NOT_POSSIBLE;
        }
        s.hiding = true;
        s.seeker = s.people.get(seeker);
        s.seeker.turns++;
        s.breaths = breaths;
        s.falseCries = 0;
        return s.openPlaces().size();
    }

    private int hide(int player, int spot) {
        if (noPerson(player) || noPlace(spot)) {
            return NO_SUCH;
        }
        Person p = s.people.get(player);
        Place q = s.places.get(spot);
        if (!s.hiding || p == s.seeker || p.place != null || spot == 0 || q.far() > s.breaths || q.retired) {
            return NOT_POSSIBLE;
        }
        if (s.hidersAt(q).size() == 2) {
            return LIMIT;
        }
        p.place = q;
        return q.far();
    }

    private int seek() {
        if (!s.hiding) {
            return NOT_POSSIBLE;
        }
        s.hiding = false;
        s.seeking = true;
        s.at = 0;
        int hidden = s.hidden().size();
        s.endRoundWhenAllAreOut();
        return hidden;
    }

    private int walk(int way) {
        if (way != 0 && way != 1 && way != -1) {
            return BAD_VALUE;
        }
        if (!s.seeking) {
            return NOT_POSSIBLE;
        }
        s.at = s.at + way == -1 ? 15 : s.at + way == 16 ? 0 : s.at + way;
        return s.at;
    }

    private int cry(int player, int spot) {
        if (noPerson(player) || noPlace(spot)) {
            return NO_SUCH;
        }
        Person p = s.people.get(player);
        if (!s.seeking || p == s.seeker || gap(s.at, spot) > s.sight) {
            return NOT_POSSIBLE;
        }
        Place q = s.places.get(spot);
        if (p.place == q) {
            p.place = null;
            s.seeker.points += 2;
            s.seeker.found++;
            q.finds++;
            if (q.finds >= s.enoughFinds && !q.retired) {
                q.retired = true;
                q.roundOfRetiring = s.ended;
            }
            s.endRoundWhenAllAreOut();
            return 1;
        }
        s.seeker.points--;
        s.seeker.falseCries++;
        s.falseCries++;
        if (s.falseCries >= s.enoughFalseCries) {
            for (Person other : s.hidden()) {
                other.place = null;
                other.escapes++;
                other.points++;
            }
            s.endRound();
        }
        return 0;
    }

    private int dash(int player) {
        if (noPerson(player)) {
            return NO_SUCH;
        }
        Person p = s.people.get(player);
        if (!s.seeking || p.place == null) {
            return NOT_POSSIBLE;
        }
        boolean escapes = p.place.far() < gap(0, s.at);
        p.place = null;
        if (escapes) {
            p.points += 3;
            p.escapes++;
        } else {
            s.seeker.points++;
            s.seeker.found++;
        }
        s.endRoundWhenAllAreOut();
        return escapes ? 1 : 0;
    }

    private int player(int player, int part) {
        if (noPerson(player)) {
            return NO_SUCH;
        }
        Person p = s.people.get(player);
        int place = p.place == null ? NONE : p.place.number;
        int[] parts = {p.points, p.turns, p.found, p.falseCries, p.escapes, s.ranks().indexOf(p), place};
        return part < 0 || part >= parts.length ? BAD_VALUE : parts[part];
    }

    private static int mask(List<Person> people) {
        int mask = 0;
        for (Person p : people) {
            mask += 1 << p.number;
        }
        return mask;
    }

    private int spot(int spot, int part) {
        if (noPlace(spot)) {
            return NO_SUCH;
        }
        Place p = s.places.get(spot);
        int[] parts = {p.far(), p.finds, p.retired ? 1 : 0, mask(s.hidersAt(p))};
        return part < 0 || part >= parts.length ? BAD_VALUE : parts[part];
    }

    private int nextSeeker() {
        int fewest = s.people.stream().mapToInt(p -> p.turns).min().orElse(0);
        int next = NONE;
        for (Person p : s.ranks()) {
            if (p.turns == fewest) {
                next = p.number;
            }
        }
        return next;
    }

    private int total(int what) {
        boolean inRound = s.hiding || s.seeking;
        int[] numbers = {
            s.people.size(), s.ended, s.hiding ? 1 : s.seeking ? 2 : 0, inRound ? s.seeker.number : NONE,
            inRound ? s.breaths : NONE, s.seeking ? s.at : NONE, inRound ? s.falseCries : 0, s.hidden().size(),
            (int) s.places.stream().filter(p -> p.retired).count(), s.people.stream().mapToInt(p -> p.points).sum(),
        };
        return what < 0 || what >= numbers.length ? BAD_VALUE : numbers[what];
    }

    private int inSight() {
        int mask = 0;
        for (int spot = 0; spot < 16; spot++) {
            mask += gap(spot, s.at) <= s.sight ? 1 << spot : 0;
        }
        return s.seeking ? mask : NOT_POSSIBLE;
    }

    private int couldDash() {
        List<Person> list = s.hidden();
        list.removeIf(p -> p.place.far() >= gap(0, s.at));
        return s.seeking ? mask(list) : NOT_POSSIBLE;
    }

    private int bestSpot() {
        if (!s.hiding) {
            return NOT_POSSIBLE;
        }
        return s.openPlaces().stream()
                .min(Comparator.comparing((Place p) -> -p.far()).thenComparing(p -> p.finds)
                        .thenComparing(p -> s.hidersAt(p).size()).thenComparing(p -> p.number))
                .map(p -> p.number).orElse(NONE);
    }

    private int fewestSteps() {
        if (!s.seeking) {
            return NOT_POSSIBLE;
        }
        int[] spots = s.hidden().stream().mapToInt(p -> p.place.number).toArray();
        return Walks.fewestSteps(s.at, spots, s.sight);
    }

    private int append(int code) {
        if (code < 33 || code > 126) {
            return BAD_VALUE;
        }
        if (buffer.length() == 60) {
            return LIMIT;
        }
        buffer += (char) code;
        return buffer.length();
    }

    private int clearText() {
        int length = buffer.length();
        buffer = "";
        return length;
    }

    private static boolean begins(String start) {
        for (String ending : ENDINGS) {
            if (TEXT.matcher(start + ending).matches()) {
                return true;
            }
        }
        return false;
    }

    private int errorPosition() {
        for (int i = 0; i < buffer.length(); i++) {
            if (!begins(buffer.substring(0, i + 1))) {
                return i;
            }
        }
        return TEXT.matcher(buffer).matches() ? NONE : buffer.length();
    }

    private int play() {
        if (!TEXT.matcher(buffer).matches()) {
            return BAD_TEXT;
        }
        int made = 0;
        for (String move : buffer.split(",")) {
            int player = move.length() > 1 ? move.charAt(1) - '0' : 0;
            int spot = move.length() > 2 ? move.charAt(2) - 'a' : 0;
            int answer;
            switch (move.charAt(0)) {
                case 'h': answer = hide(player, spot); break;
                case 'b': answer = seek(); break;
                case '+': answer = walk(1); break;
                case '-': answer = walk(-1); break;
                case 'c': answer = cry(player, spot); break;
                default: answer = dash(player); break;
            }
            if (answer < 0) {
                break;
            }
            made++;
        }
        buffer = "";
        return made;
    }

    private int undo() {
        if (recorded.isEmpty()) {
            return NOT_POSSIBLE;
        }
        s = recorded.removeLast();
        return recorded.size();
    }

    private int restore() {
        if (saved == null) {
            return NOT_POSSIBLE;
        }
        s = saved.copy();
        return s.people.size();
    }
}
