import java.util.LinkedHashMap;
import java.util.Map;

/**
 * "A square that is not from 0 to 63 causes an IndexOutOfBoundsException; any other parameter that is out of range
 * causes an IllegalArgumentException. If several exceptions apply to a call, the one that the method lists first is
 * thrown. A call that throws an exception changes nothing." Each call of the face, in each state of a game.
 */
final class ArgumentsTest {
    private static final int[] NO_SQUARES = {-1, 64, 65, 127, 128, -63, -64, -65, 1 << 8, 1 << 16, 1 << 30, 1 << 31,
            Integer.MIN_VALUE + 1, Integer.MIN_VALUE + 63, Integer.MAX_VALUE - 1, Integer.MAX_VALUE};
    private static final int[] SQUARES = {0, 1, 8, 20, 62, 63};
    private static final int[] NO_KINDS = {0, 7, -1, -6, 8, 64, 1 << 16 | 1, 1 << 31, Integer.MAX_VALUE};
    private static final int[] NO_MOVES = {0, 3, -1, -2, 4, 64, 1 << 16 | 1, 1 << 31, Integer.MAX_VALUE};

    private static KnightPairChess game;

    public static void main(String[] args) {
        for (Map.Entry<String, KnightPairChess> state : Games.all().entrySet()) {
            game = state.getValue();
            String name = state.getKey() + ": ";
            String before = Check.picture(game);
            noSquares(name);
            noKinds(name);
            noMoves(name);
            Check.same(name + "nothing was changed", before, Check.picture(game));
            smallestAndGreatest(name);
            Check.same(name + "asking changes nothing", before, Check.picture(game));
        }
        order();
        refusedCallsBetween();
        Check.finish();
    }

    /** A call of the face with two squares, or with one that it looks at and one that it does not. */
    private interface SquareCall {
        Object answer(int one, int other);
    }

    private static Map<String, SquareCall> callsWithOneSquare() {
        Map<String, SquareCall> calls = new LinkedHashMap<>();
        calls.put("3: place", (one, other) -> game.place(one, KnightPairChess.KNIGHT, true));
        calls.put("3: place, a bad kind, too", (one, other) -> game.place(one, 7, false));
        calls.put("4: remove", (one, other) -> game.remove(one));
        calls.put("8: pieceAt", (one, other) -> game.pieceAt(one));
        calls.put("9: isWhite", (one, other) -> game.isWhite(one));
        calls.put("12: bondOf", (one, other) -> game.bondOf(one));
        calls.put("16: attackers", (one, other) -> game.attackers(one, true));
        calls.put("16: attackers, Black's", (one, other) -> game.attackers(one, false));
        calls.put("19: legalMoves", (one, other) -> game.legalMoves(one));
        calls.put("23: dissolveRefusal", (one, other) -> game.dissolveRefusal(one));
        calls.put("28: dissolve", (one, other) -> game.dissolve(one));
        return calls;
    }

    private static Map<String, SquareCall> callsWithTwoSquares() {
        Map<String, SquareCall> calls = new LinkedHashMap<>();
        calls.put("15: knightDistance", (one, other) -> game.knightDistance(one, other));
        calls.put("21: moveRefusal", (one, other) -> game.moveRefusal(one, other));
        calls.put("22: bondRefusal", (one, other) -> game.bondRefusal(one, other));
        calls.put("26: move", (one, other) -> game.move(one, other));
        calls.put("27: bond", (one, other) -> game.bond(one, other));
        return calls;
    }

    private static void noSquares(String name) {
        for (int bad : NO_SQUARES) {
            for (Map.Entry<String, SquareCall> call : callsWithOneSquare().entrySet()) {
                outside(name + call.getKey(), call.getValue(), bad, bad);
            }
            for (Map.Entry<String, SquareCall> call : callsWithTwoSquares().entrySet()) {
                for (int good : SQUARES) {
                    outside(name + call.getKey(), call.getValue(), bad, good);
                    outside(name + call.getKey(), call.getValue(), good, bad);
                }
                for (int other : NO_SQUARES) {
                    outside(name + call.getKey(), call.getValue(), bad, other);
                }
            }
        }
    }

    private static void outside(String name, SquareCall call, int one, int other) {
        Check.outside(name + " " + one + ", " + other, () -> call.answer(one, other));
    }

    private static void noKinds(String name) {
        for (int bad : NO_KINDS) {
            for (int square : SQUARES) {
                Check.badArgument(name + "3: place, kind " + bad, () -> game.place(square, bad, true));
                Check.badArgument(name + "3: place, kind " + bad, () -> game.place(square, bad, false));
            }
            for (int square : NO_SQUARES) {
                Check.outside(name + "3: the square is listed first", () -> game.place(square, bad, true));
            }
            Check.badArgument(name + "34: capturedCount, kind " + bad, () -> game.capturedCount(bad, true));
            Check.badArgument(name + "34: capturedCount, kind " + bad, () -> game.capturedCount(bad, false));
        }
    }

    private static void noMoves(String name) {
        for (int bad : NO_MOVES) {
            Check.badArgument(name + "25: countSequences, " + bad + " moves", () -> game.countSequences(bad));
        }
    }

    /** What is just inside of the range is answered. */
    private static void smallestAndGreatest(String name) {
        for (int square : new int[] {0, 63}) {
            Check.yes(name + "8: square " + square, game.pieceAt(square) >= KnightPairChess.EMPTY);
            Check.yes(name + "12: square " + square, game.bondOf(square) >= KnightPairChess.NONE);
            Check.is(name + "15: square " + square, 0, game.knightDistance(square, square));
            Check.is(name + "15: from corner to corner", 6, game.knightDistance(square, 63 - square));
            Check.yes(name + "16: square " + square, game.attackers(square, true) != -1);
            Check.yes(name + "19: square " + square, game.legalMoves(square) != -1);
            Check.yes(name + "21: square " + square, game.moveRefusal(square, 63 - square) > 0);
            Check.yes(name + "22: square " + square, game.bondRefusal(square, 63 - square) > 0);
            Check.yes(name + "23: square " + square, game.dissolveRefusal(square) > 0);
        }
        for (int kind : new int[] {KnightPairChess.KING, KnightPairChess.PAWN}) {
            Check.yes(name + "34: kind " + kind, game.capturedCount(kind, true) >= 0);
        }
        for (int moves = 1; moves <= 2; moves++) {
            Check.yes(name + "25: " + moves + " moves", game.countSequences(moves) >= 0);
        }
    }

    /** "If several exceptions apply to a call, the one that the method lists first is thrown." */
    private static void order() {
        game = Check.placed("Ka1 kh8 Nc3");
        Check.outside("3: square, kind and state", () -> game.place(-1, 0, true));
        Check.badArgument("3: kind and an occupied square", () -> game.place(0, 0, true));
        Check.badArgument("3: kind and a second king's square", () -> game.place(0, 7, true));
        Check.badState("3: a second king on an occupied square", () -> game.place(0, 1, true));
        Check.badState("3: a pawn on an occupied square of rank 0", () -> game.place(0, 6, true));
        game = new KnightPairChess();
        Check.outside("3: square, kind and no set-up", () -> game.place(64, 7, true));
        Check.badArgument("3: kind and no set-up", () -> game.place(0, 7, true));
        Check.badState("3: no set-up and an occupied square", () -> game.place(0, 5, true));
        Check.outside("4: square and no set-up", () -> game.remove(64));
        Check.badState("4: no set-up and an empty square", () -> game.remove(20));
        Check.outside("9: square, though nothing is there", () -> game.isWhite(64));
        Check.outside("26: from, and nothing to move", () -> game.move(64, 20));
        Check.outside("26: to, and nothing to move", () -> game.move(20, 64));
        Check.outside("27: one, and no knights", () -> game.bond(64, 20));
        Check.outside("27: other, and no knights", () -> game.bond(20, 64));
        Check.outside("27: both, and the same", () -> game.bond(64, 64));
        Check.outside("28: square, and no knight", () -> game.dissolve(64));
    }

    /**
     * "A call that throws an exception changes nothing": a game with refused calls between all of its steps goes, and
     * goes back, like the same game without them.
     */
    private static void refusedCallsBetween() {
        KnightPairChess plain = new KnightPairChess();
        game = new KnightPairChess();
        String[] steps = "b1c3 d7d6 c3e4 c8g4 e2e3 g4d1 e1d1 d8d7 e4g3 d7g4".split(" ");
        for (String step : steps) {
            refuseAll();
            Check.moved(plain, step);
            Check.moved(game, step);
            Check.same("after " + step, Check.picture(plain), Check.picture(game));
        }
        for (int left = steps.length - 1; left >= 0; left--) {
            refuseAll();
            Check.is("29: left", left, plain.takeBack());
            Check.is("29: left", left, game.takeBack());
            Check.same("29: back", Check.picture(plain), Check.picture(game));
        }
        Check.badState("29: none", game::takeBack);
        setUpBoth(plain, game);
        Check.same("5: begun", Check.picture(plain), Check.picture(game));
    }

    private static void setUpBoth(KnightPairChess plain, KnightPairChess other) {
        int[][] pieces = {{0, 1}, {63, 1}, {18, 5}, {35, 5}, {48, 6}};
        plain.beginSetup();
        other.beginSetup();
        for (int[] piece : pieces) {
            refuseSetup();
            plain.place(piece[0], piece[1], piece[0] < 40);
            other.place(piece[0], piece[1], piece[0] < 40);
            Check.same("3: during the set-up", Check.picture(plain), Check.picture(other));
        }
        refuseSetup();
        plain.endSetup(false);
        other.endSetup(false);
    }

    private static void refuseAll() {
        Check.badState("3: no set-up", () -> game.place(40, 5, true));
        Check.badState("4: no set-up", () -> game.remove(0));
        Check.badState("5: no set-up", () -> game.endSetup(true));
        Check.badState("26: nowhere", () -> game.move(0, 0));
        Check.badState("26: of the other side", () -> game.move(game.whiteToAct() ? 48 : 8, 40));
        Check.badState("27: a rook", () -> game.bond(0, 1));
        Check.badState("28: a rook", () -> game.dissolve(63));
        Check.noElement("9: empty", () -> game.isWhite(24));
        for (int bad : NO_SQUARES) {
            Check.outside("26: from", () -> game.move(bad, 16));
            Check.outside("26: to", () -> game.move(8, bad));
            Check.outside("27: one", () -> game.bond(bad, 6));
            Check.outside("27: other", () -> game.bond(1, bad));
            Check.outside("28: square", () -> game.dissolve(bad));
        }
    }

    private static void refuseSetup() {
        Check.badState("3: not empty, or a pawn on rank 0", () -> game.place(0, 6, true));
        Check.badState("4: empty", () -> game.remove(40));
        Check.badState("26: a set-up", () -> game.move(0, 1));
        Check.badState("27: a set-up", () -> game.bond(18, 35));
        Check.badState("28: a set-up", () -> game.dissolve(18));
        Check.badState("29: a set-up", game::takeBack);
        if (game.kingSquare(false) == KnightPairChess.NONE) {
            Check.badState("5: a king is missing", () -> game.endSetup(false));
        }
        Check.badArgument("3: kind", () -> game.place(40, 7, true));
        Check.outside("3: square", () -> game.place(64, 5, true));
        Check.outside("4: square", () -> game.remove(-1));
    }
}
