import java.util.Arrays;

/**
 * Each piece on each square of the board, its edges and corners among them: what it attacks, where it can move, and
 * how near bonded knights must stay. What is due is told by differences of files and ranks alone.
 */
final class BoardEdgesTest {
    private static final int KING = KnightPairChess.KING;
    private static final int QUEEN = KnightPairChess.QUEEN;
    private static final int ROOK = KnightPairChess.ROOK;
    private static final int BISHOP = KnightPairChess.BISHOP;
    private static final int KNIGHT = KnightPairChess.KNIGHT;
    private static final int PAWN = KnightPairChess.PAWN;
    private static final long EDGES = 0xFF818181818181FFL;
    private static final int[] HOMES = {0, 63, 7, 56, 27, 36, 3, 60, 24, 39, 18, 45, 4, 59, 32, 31, 9, 14, 49, 54, 21,
            42};

    public static void main(String[] args) {
        attacksOnAnEmptyBoard();
        attacksInCorners();
        linesEndAtTheFirstPiece();
        movesOfEachPiece();
        pawns();
        pawnsAhead();
        knightsThatBond();
        Check.finish();
    }

    private static int files(int one, int other) {
        return Math.abs(one % 8 - other % 8);
    }

    private static int ranks(int one, int other) {
        return Math.abs(one / 8 - other / 8);
    }

    /** Tells whether the piece would attack the square if nothing stood between. */
    private static boolean reaches(int kind, boolean white, int from, int to) {
        int files = files(from, to);
        int ranks = ranks(from, to);
        boolean straight = from != to && (files == 0 || ranks == 0);
        boolean diagonal = from != to && files == ranks;
        switch (kind) {
            case KnightPairChess.KING:
                return Math.max(files, ranks) == 1;
            case KnightPairChess.QUEEN:
                return straight || diagonal;
            case KnightPairChess.ROOK:
                return straight;
            case KnightPairChess.BISHOP:
                return diagonal;
            case KnightPairChess.KNIGHT:
                return files + ranks == 3 && files != 0 && ranks != 0;
            default:
                return files == 1 && to / 8 - from / 8 == (white ? 1 : -1);
        }
    }

    private static boolean isBetween(int from, int middle, int to) {
        boolean inFiles = Integer.signum(to % 8 - from % 8) == Integer.signum(middle % 8 - from % 8);
        boolean inRanks = Integer.signum(to / 8 - from / 8) == Integer.signum(middle / 8 - from / 8);
        int far = Math.max(files(from, to), ranks(from, to));
        boolean onLine = reaches(QUEEN, true, from, middle) && reaches(QUEEN, true, from, to);
        return onLine && inFiles && inRanks && Math.max(files(from, middle), ranks(from, middle)) < far;
    }

    private static boolean standsOn(int kind, int square) {
        return kind != PAWN || square >= 8 && square < 56;
    }

    private static void attacksOnAnEmptyBoard() {
        for (int kind = KING; kind <= PAWN; kind++) {
            for (int from = 0; from < 64; from++) {
                if (standsOn(kind, from)) {
                    attacksFrom(kind, true, from);
                    attacksFrom(kind, false, from);
                }
            }
        }
    }

    private static void attacksFrom(int kind, boolean white, int from) {
        KnightPairChess game = Games.empty();
        game.place(from, kind, white);
        long due = 0L;
        for (int to = 0; to < 64; to++) {
            boolean reaches = reaches(kind, white, from, to);
            due |= reaches ? 1L << to : 0L;
            String what = "16: kind " + kind + " from " + from + " on " + to;
            Check.is(what, reaches ? 1L << from : 0L, game.attackers(to, white));
            Check.is(what + ", the other side's", 0, game.attackers(to, !white));
        }
        Check.is("17: kind " + kind + " from " + from, due, game.attackedSquares(white));
        Check.is("17: the other side's", 0, game.attackedSquares(!white));
        float weight = new float[] {0.0f, 9.5f, 5.0f, 3.3f, 3.2f, 1.0f}[kind - 1];
        Check.same("35: kind " + kind, weight + 0.1f * (float) Long.bitCount(due), game.strengthOf(white));
    }

    /** How many squares a piece attacks in the corner, on the edge, and where it attacks the most. */
    private static void attacksInCorners() {
        int[][] due = {{KING, 3, 5, 8}, {QUEEN, 21, 21, 27}, {ROOK, 14, 14, 14}, {BISHOP, 7, 7, 13}, {KNIGHT, 2, 4, 8}};
        for (int[] numbers : due) {
            for (String corner : "a1 h1 a8 h8".split(" ")) {
                Check.is("17: kind " + numbers[0] + " on " + corner, numbers[1], attacked(numbers[0], corner));
            }
            for (String edge : "a4 h5 d1 e8".split(" ")) {
                Check.is("17: kind " + numbers[0] + " on " + edge, numbers[2], attacked(numbers[0], edge));
            }
            for (String middle : "d4 e4 d5 e5".split(" ")) {
                Check.is("17: kind " + numbers[0] + " on " + middle, numbers[3], attacked(numbers[0], middle));
            }
        }
        Check.is("17: a knight beside the corner", 3, attacked(KNIGHT, "b1"));
        Check.is("17: a knight across the corner", 4, attacked(KNIGHT, "g7"));
        for (String edge : "a2 h2 a7 h7".split(" ")) {
            Check.is("17: a pawn on " + edge, 1, attacked(PAWN, edge));
        }
        Check.is("17: a pawn on b2", 2, attacked(PAWN, "b2"));
    }

    private static int attacked(int kind, String square) {
        KnightPairChess game = Games.empty();
        game.place(Check.at(square), kind, true);
        return Long.bitCount(game.attackedSquares(true));
    }

    /** "in each direction up to and including the first occupied square", whoever's piece stands there */
    private static void linesEndAtTheFirstPiece() {
        for (int kind : new int[] {QUEEN, ROOK, BISHOP}) {
            for (int from = 0; from < 64; from++) {
                for (int middle = 0; middle < 64; middle++) {
                    if (middle != from) {
                        lineEnds(kind, from, middle);
                    }
                }
            }
        }
    }

    private static void lineEnds(int kind, int from, int middle) {
        long due = 0L;
        for (int to = 0; to < 64; to++) {
            if (reaches(kind, true, from, to) && !isBetween(from, middle, to)) {
                due |= 1L << to;
            }
        }
        for (boolean own : new boolean[] {true, false}) {
            KnightPairChess game = Games.empty();
            game.place(middle, KNIGHT, own);
            game.place(from, kind, true);
            String what = "kind " + kind + " from " + from + ", a piece on " + middle;
            long knight = own ? knightTargets(middle) : 0L;
            Check.is("17: " + what, due | knight, game.attackedSquares(true));
            for (int step = 1; step < 8; step++) {
                int to = middle + Integer.signum(middle - from) * step;
                if (to >= 0 && to < 64 && (knight >>> to & 1) == 0) {
                    Check.is("16: " + what + ", on " + to, (due >>> to & 1) << from, game.attackers(to, true));
                }
            }
        }
    }

    private static long knightTargets(int from) {
        long targets = 0L;
        for (int to = 0; to < 64; to++) {
            targets |= reaches(KNIGHT, true, from, to) ? 1L << to : 0L;
        }
        return targets;
    }

    /** Begins a game with kings where they neither are in check nor stand in the way of the given squares. */
    private static KnightPairChess begun(int[][] pieces, boolean white, long away) {
        for (int own : HOMES) {
            for (int other : HOMES) {
                KnightPairChess game = Games.empty();
                boolean free = own != other && (away >>> own & 1) == 0 && (away >>> other & 1) == 0;
                for (int[] piece : pieces) {
                    free = free && piece[0] != own && piece[0] != other;
                    game.place(piece[0], piece[1], piece[2] == 1);
                }
                if (free && begins(game, own, other, white)) {
                    return game;
                }
            }
        }
        throw new IllegalStateException("no place for the kings");
    }

    private static boolean begins(KnightPairChess game, int own, int other, boolean white) {
        game.place(own, KING, white);
        game.place(other, KING, !white);
        if (game.isInCheck(true) || game.isInCheck(false)) {
            return false;
        }
        return game.endSetup(white) == KnightPairChess.ONGOING;
    }

    /** "A piece can move to a square that it attacks and on which no piece of its own side stands" */
    private static void movesOfEachPiece() {
        for (int kind = QUEEN; kind <= KNIGHT; kind++) {
            for (int from = 0; from < 64; from++) {
                for (boolean white : new boolean[] {true, false}) {
                    KnightPairChess game = begun(new int[][] {{from, kind, white ? 1 : 0}}, white, 0L);
                    int king = game.kingSquare(white);
                    long due = 0L;
                    for (int to = 0; to < 64; to++) {
                        boolean moves = reaches(kind, white, from, to) && to != king && !isBetween(from, king, to);
                        due |= moves ? 1L << to : 0L;
                        int refusal = moves ? 0 : KnightPairChess.CANNOT_MOVE;
                        Check.is("21: kind " + kind + " from " + from + " to " + to, refusal,
                                game.moveRefusal(from, to));
                    }
                    Check.is("19: kind " + kind + " from " + from, due, game.legalMoves(from));
                }
            }
        }
        kings();
    }

    private static void kings() {
        for (int one = 0; one < 64; one++) {
            for (int other = 0; other < 64; other++) {
                if (Math.max(files(one, other), ranks(one, other)) < 2) {
                    continue;
                }
                KnightPairChess game = Games.empty();
                game.place(one, KING, true);
                game.place(other, KING, false);
                game.place(freeOf(one, other), PAWN, false);
                game.endSetup(true);
                long due = 0L;
                for (int to = 0; to < 64; to++) {
                    boolean near = Math.max(files(other, to), ranks(other, to)) < 2;
                    due |= reaches(KING, true, one, to) && !near ? 1L << to : 0L;
                }
                Check.is("19: kings on " + one + " and " + other, due, game.legalMoves(one));
                Check.is("20: as many", Long.bitCount(due), game.legalMoveCount());
            }
        }
    }

    /** A square from which a pawn does not touch the moves of the king that is to act. */
    private static int freeOf(int one, int other) {
        int square = 8;
        while (square == other || Math.max(files(square, one), ranks(square, one)) < 4) {
            square++;
        }
        return square;
    }

    private static void pawns() {
        for (int from = 8; from < 56; from++) {
            for (boolean white : new boolean[] {true, false}) {
                for (int ahead = 0; ahead < 3; ahead++) {
                    for (int left = 0; left < 3; left++) {
                        for (int right = 0; right < 3; right++) {
                            pawn(from, white, new int[] {left, ahead, right});
                        }
                    }
                }
            }
        }
    }

    /** What stands to the left, ahead, and to the right: 0 nothing, 1 an own piece, 2 one of the other side. */
    private static void pawn(int from, boolean white, int[] stands) {
        int[][] pieces = {{from, PAWN, white ? 1 : 0}, null, null, null};
        int count = 1;
        long due = 0L;
        long away = 0L;
        for (int side = -1; side <= 1; side++) {
            int file = from % 8 + side;
            int to = from + (white ? 8 : -8) + side;
            if (file < 0 || file > 7) {
                continue;
            }
            away |= 1L << to;
            int there = stands[side + 1];
            if (there != 0) {
                pieces[count++] = new int[] {to, KNIGHT, white == (there == 1) ? 1 : 0};
            }
            boolean can = side == 0 ? there == 0 : there == 2;
            due |= can ? 1L << to : 0L;
        }
        KnightPairChess game = begun(Arrays.copyOf(pieces, count), white, away);
        Check.is("19: a pawn on " + from, due, game.legalMoves(from));
        for (int to = 0; to < 64; to++) {
            if ((due >>> to & 1) != 0) {
                pawnGoes(game, from, to, white);
            } else {
                Check.is("21: from " + from + " to " + to, KnightPairChess.CANNOT_MOVE, game.moveRefusal(from, to));
            }
        }
    }

    private static void pawnGoes(KnightPairChess game, int from, int to, boolean white) {
        boolean last = to < 8 || to > 55;
        boolean ahead = from % 8 == to % 8;
        Check.is("26: captured", ahead ? KnightPairChess.EMPTY : KNIGHT, game.move(from, to));
        Check.is("26: rank " + to / 8, last ? QUEEN : PAWN, game.pieceAt(to));
        Check.same("26: its side", white, game.isWhite(to));
        Check.is("26: it has left", KnightPairChess.EMPTY, game.pieceAt(from));
        Check.is("33: never quiet", 0, game.quietActions());
        Check.is("34: a knight or nothing", ahead ? 0 : 1, game.capturedCount(KNIGHT, !white));
        Check.is("34: never a pawn", 0, game.capturedCount(PAWN, white));
        Check.is("29: the only action", 0, game.takeBack());
        Check.is("29: a pawn again", PAWN, game.pieceAt(from));
        Check.is("29: what was captured", ahead ? KnightPairChess.EMPTY : KNIGHT, game.pieceAt(to));
    }

    /** From the ranks on which pawns of chess may move two squares they may not here. */
    private static void pawnsAhead() {
        KnightPairChess game = new KnightPairChess();
        for (int file = 0; file < 8; file++) {
            Check.is("21: White, two squares", KnightPairChess.CANNOT_MOVE, game.moveRefusal(8 + file, 24 + file));
            Check.is("21: White, one square", 0, game.moveRefusal(8 + file, 16 + file));
        }
        game.move(8, 16);
        for (int file = 0; file < 8; file++) {
            Check.is("21: Black, two squares", KnightPairChess.CANNOT_MOVE, game.moveRefusal(48 + file, 32 + file));
            Check.is("21: Black, one square", 0, game.moveRefusal(48 + file, 40 + file));
        }
    }

    /** "A bonding joins two own knights .. at a knight distance of at most 3", and they must stay so. */
    private static void knightsThatBond() {
        for (int one = 0; one < 64; one++) {
            for (int other = 0; other < 64; other++) {
                if (one != other) {
                    boolean white = (one + other) % 2 == 0;
                    knightsThatBond(one, other, white);
                }
            }
        }
    }

    private static void knightsThatBond(int one, int other, boolean white) {
        int side = white ? 1 : 0;
        KnightPairChess game = begun(new int[][] {{one, KNIGHT, side}, {other, KNIGHT, side}}, white, EDGES);
        int far = game.knightDistance(one, other);
        String what = "knights on " + one + " and " + other;
        Check.is("15: the same to and fro", far, game.knightDistance(other, one));
        Check.is("22: " + what, far > 3 ? KnightPairChess.TOO_FAR : 0, game.bondRefusal(one, other));
        if (far > 3) {
            Check.badState("27: " + what, () -> game.bond(one, other));
            return;
        }
        Check.is("27: " + what, far, game.bond(one, other));
        Check.is("12: " + what, other, game.bondOf(one));
        Check.is("12: " + what, one, game.bondOf(other));
        Check.is("14: " + what, far, game.longestBond(white));
        stayNear(game, one, other, white);
    }

    private static void stayNear(KnightPairChess game, int one, int other, boolean white) {
        int king = game.kingSquare(!white);
        for (int to = 0; to < 64; to++) {
            if (game.pieceAt(to) == KnightPairChess.EMPTY && game.moveRefusal(king, to) == 0) {
                game.move(king, to);
                break;
            }
        }
        for (int to = 0; to < 64; to++) {
            boolean can = reaches(KNIGHT, white, one, to) && to != other && to != game.kingSquare(white);
            int near = game.knightDistance(to, other) <= 3 ? 0 : KnightPairChess.TOO_FAR;
            Check.is("21: bonded with " + other + ", from " + one + " to " + to,
                    can ? near : KnightPairChess.CANNOT_MOVE, game.moveRefusal(one, to));
        }
        Check.is("28: the other knight", other, game.dissolve(one));
        Check.is("14: no bond", 0, game.longestBond(white));
    }
}
