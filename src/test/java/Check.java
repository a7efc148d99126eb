import java.util.Objects;

/** Counts the answers of a test that are not as due, and tells them. */
final class Check {
    /** A call whose answer, or whose exception, is looked at. */
    interface Call {
        Object answer();
    }

    private static int looked = 0;
    private static int wrong = 0;

    private Check() {
    }

    static void same(String what, Object due, Object answer) {
        looked++;
        if (!Objects.equals(due, answer)) {
            wrong++;
            System.out.println(what + " answered " + answer + ", due is " + due);
        }
    }

    static void is(String what, long due, long answer) {
        same(what, due, answer);
    }

    static void yes(String what, boolean answer) {
        same(what, true, answer);
    }

    static void no(String what, boolean answer) {
        same(what, false, answer);
    }

    /** The answer of a call, or the name of the class of what it throws. */
    static Object told(Call call) {
        try {
            return call.answer();
        } catch (RuntimeException thrown) {
            return "throws." + thrown.getClass().getSimpleName();
        }
    }

    static void outside(String what, Call call) {
        same(what, "throws.IndexOutOfBoundsException", told(call));
    }

    static void badArgument(String what, Call call) {
        same(what, "throws.IllegalArgumentException", told(call));
    }

    static void badState(String what, Call call) {
        same(what, "throws.IllegalStateException", told(call));
    }

    static void noElement(String what, Call call) {
        same(what, "throws.NoSuchElementException", told(call));
    }

    /** All that a game tells of itself, to see that a call changes nothing. */
    static String picture(KnightPairChess game) {
        StringBuilder text = new StringBuilder();
        for (int square = 0; square < 64; square++) {
            int here = square;
            text.append(game.pieceAt(square)).append(told(() -> game.isWhite(here))).append(game.bondOf(square))
                    .append(':').append(game.legalMoves(square)).append(':').append(game.dissolveRefusal(square))
                    .append(':').append(game.attackers(square, true)).append(':').append(game.attackers(square, false))
                    .append(' ');
        }
        for (boolean white : new boolean[] {true, false}) {
            text.append(game.piecesOf(white)).append(' ').append(game.kingSquare(white)).append(' ')
                    .append(game.bondCount(white)).append(' ').append(game.longestBond(white)).append(' ')
                    .append(game.attackedSquares(white)).append(' ').append(game.isInCheck(white)).append(' ')
                    .append(game.strengthOf(white)).append(' ').append(game.strengthBits(white)).append(' ');
            for (int kind = 1; kind <= 6; kind++) {
                text.append(game.capturedCount(kind, white)).append(' ');
            }
        }
        return text.append(game.isSetup()).append(' ').append(game.whiteToAct()).append(' ')
                .append(game.outcome()).append(' ').append(game.occurrences()).append(' ')
                .append(game.quietActions()).append(' ').append(game.actionCount()).append(' ')
                .append(game.legalMoveCount()).append(' ').append(game.matingMove()).append(' ')
                .append(game.countSequences(1)).append(' ').append(game.countSequences(2)).append(' ')
                .append(game.balance()).toString();
    }

    /** The set of the given squares. */
    static long set(int... squares) {
        long set = 0L;
        for (int square : squares) {
            set |= 1L << square;
        }
        return set;
    }

    /** The number of a square by its name, as "e4". */
    static int at(String name) {
        return name.charAt(0) - 'a' + 8 * (name.charAt(1) - '1');
    }

    /** The set of the squares of these names, parted by blanks. */
    static long squares(String names) {
        long set = 0L;
        for (String name : names.trim().split(" +")) {
            set |= 1L << at(name);
        }
        return set;
    }

    /** Begins a set-up and places pieces, as "Ke1 ke8 Pa2": capitals are white. */
    static KnightPairChess placed(String pieces) {
        KnightPairChess game = new KnightPairChess();
        game.beginSetup();
        for (String piece : pieces.trim().split(" +")) {
            char letter = piece.charAt(0);
            int kind = "KQRBNP".indexOf(Character.toUpperCase(letter)) + 1;
            game.place(at(piece.substring(1)), kind, Character.isUpperCase(letter));
        }
        return game;
    }

    /** A game that begins with these pieces. */
    static KnightPairChess begun(String pieces, boolean white) {
        KnightPairChess game = placed(pieces);
        game.endSetup(white);
        return game;
    }

    /** Takes the moves "e2e3 d7d6 .." in a game. */
    static KnightPairChess moved(KnightPairChess game, String moves) {
        for (String move : moves.trim().split(" +")) {
            game.move(at(move.substring(0, 2)), at(move.substring(2, 4)));
        }
        return game;
    }

    /** The squares of 16 moves of a rook after which no square has been visited twice. */
    static final String TOUR = "b2 b3 b4 b5 b6 c6 c5 c4 c3 c2 d2 d3 d4 d5 d6 e6 e5";

    /** Takes the moves of one piece through these squares, each answered by a move of the other side's king. */
    static void tour(KnightPairChess game, String squares, String king) {
        String[] names = squares.split(" ");
        for (int step = 0; step + 1 < names.length; step++) {
            moved(game, names[step] + names[step + 1]);
            moved(game, step % 2 == 0 ? king : king.substring(2) + king.substring(0, 2));
        }
    }

    /** The legal moves of the other side, summed over all moves of the side to act. */
    static int answersToAll(KnightPairChess game) {
        int sum = 0;
        for (int from = 0; from < 64; from++) {
            long targets = game.legalMoves(from);
            for (int to = 0; to < 64; to++) {
                if ((targets >>> to & 1) != 0) {
                    game.move(from, to);
                    sum += game.countSequences(1);
                    game.takeBack();
                }
            }
        }
        return sum;
    }

    /** Ends the test, with exit code 1 if an answer was wrong. */
    static void finish() {
        System.out.println(wrong == 0 ? looked + " answers are as due" : wrong + " of " + looked + " are not as due");
        if (wrong != 0) {
            System.exit(1);
        }
    }
}
