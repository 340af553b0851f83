/** Long runs of mixed calls, each answered by the program and by the model; all promises together. */
public final class LongRunsTest {
    private static final Check CHECK = new Check();
    private static final int RUNS = 3000;
    private static final int CALLS = 512;
    private static final String[] MOVES = {"h", "b", "+", "-", "c", "d"};

    private long seed;
    private final SeekLeague league = new SeekLeague();
    private final Model model = new Model();
    private final StringBuilder calls = new StringBuilder();
    private int made = 0;
    private boolean isWrong = false;

    private LongRunsTest(long seed) {
        this.seed = seed;
    }

    public static void main(String[] args) {
        for (int run = 0; run < RUNS; run++) {
            new LongRunsTest(run * 7919L + 17).play(run);
        }
        CHECK.finish("LongRunsTest");
    }

    /** A number from 0 to bound - 1, the same ones for the same seed. */
    private int draw(int bound) {
        seed = seed * 6364136223846793005L + 1442695040888963407L;
        return (int) ((seed >>> 33) % bound);
    }

    private void play(int run) {
        int style = run % 4;
        for (int i = 0; i < 2 + draw(7); i++) {
            make("join", 0, 0);
        }
        while (made < CALLS && !isWrong) {
            if (style == 0 || draw(8) == 0) {
                makeAnyCall();
            } else if (style == 1 && draw(3) == 0 && made < CALLS - 60) {
                writeAndPlay();
            } else {
                makeFittingCall();
            }
        }
    }

    private void makeAnyCall() {
        String name = Calls.NAMES.get(draw(Calls.NAMES.size()));
        if (name.equals("append")) {
            make(name, 30 + draw(100), 0);
        } else if (name.equals("undo") && draw(3) > 0) {
            make("total", draw(10), 0);
        } else {
            make(name, drawArgument(9), drawArgument(16));
        }
    }

    private int drawArgument(int bound) {
        int kind = draw(40);
        if (kind < 2) {
            return draw(40) - 20;
        }
        if (kind < 3) {
            return draw(2) == 0 ? Integer.MIN_VALUE + draw(2) : Integer.MAX_VALUE - draw(2);
        }
        return draw(bound);
    }

    private void makeFittingCall() {
        int part = league.total(2);
        if (part == 0) {
            make("start", draw(league.total(0) + 1), 1 + draw(8));
        } else if (part == 1) {
            if (draw(6) == 0) {
                make("seek", 0, 0);
            } else if (draw(4) == 0) {
                make("bestSpot", 0, 0);
            } else {
                make("hide", draw(8), draw(3) == 0 ? 1 + draw(3) : draw(16));
            }
        } else {
            makeSeekingCall();
        }
        if (draw(2) == 0) {
            ask();
        }
    }

    private void makeSeekingCall() {
        int kind = draw(10);
        if (kind < 4) {
            make("walk", draw(8) == 0 ? draw(5) - 2 : draw(3) > 0 ? 1 : -1, 0);
        } else if (kind < 5) {
            make("cry", draw(8), (league.total(5) + draw(7) + 13) % 16);
        } else if (kind < 7) {
            int player = draw(8);
            int spot = league.player(player, 6);
            make("cry", player, spot < 0 ? draw(16) : spot);
        } else if (kind < 8) {
            make("dash", draw(8), 0);
        } else {
            make(Calls.PREDICTIONS.get(draw(4)), 0, 0);
        }
    }

    private void ask() {
        int kind = draw(6);
        if (kind == 0) {
            make("player", draw(8), draw(7));
        } else if (kind == 1) {
            make("spot", draw(16), draw(4));
        } else if (kind == 2) {
            make("total", draw(10), 0);
        } else if (kind == 3) {
            make("ranked", draw(8), 0);
        } else if (kind == 4) {
            make("nextSeeker", 0, 0);
        } else {
            make("set", draw(4), draw(10));
        }
    }

    private void writeAndPlay() {
        if (draw(3) > 0) {
            make("clearText", 0, 0);
        }
        int moves = 1 + draw(12);
        for (int i = 0; i < moves; i++) {
            String move = (i > 0 ? "," : "") + MOVES[draw(MOVES.length)];
            if (move.endsWith("h") || move.endsWith("c") || move.endsWith("d")) {
                move += (char) ('0' + draw(8));
            }
            if (move.contains("h") || move.contains("c")) {
                move += (char) ('a' + draw(16));
            }
            for (char sign : move.toCharArray()) {
                make("append", sign, 0);
            }
        }
        make("errorPosition", 0, 0);
        make("play", 0, 0);
    }

    private void make(String name, int a, int b) {
        if (made == CALLS || isWrong) {
            return;
        }
        made++;
        calls.append(name).append('(').append(a).append(", ").append(b).append(") ");
        int got = Calls.make(league, name, a, b);
        int want = model.call(name, a, b);
        isWrong = got != want;
        CHECK.due(isWrong ? calls.toString() : name, got, want);
    }
}
