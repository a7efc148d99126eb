/** Promises 1 to 6: a new object, and the set-up of positions. */
final class SetupTest {
    public static void main(String[] args) {
        newObject();
        beginSetup();
        place();
        placeRefused();
        remove();
        endSetup();
        endSetupRefused();
        isSetup();
        Check.finish();
    }

    private static void newObject() {
        KnightPairChess game = new KnightPairChess();
        int[] row = {3, 5, 4, 2, 1, 4, 5, 3};
        for (int file = 0; file < 8; file++) {
            Check.is("1: rank 0, file " + file, row[file], game.pieceAt(file));
            Check.is("1: rank 1, file " + file, 6, game.pieceAt(8 + file));
            Check.is("1: rank 6, file " + file, 6, game.pieceAt(48 + file));
            Check.is("1: rank 7, file " + file, row[file], game.pieceAt(56 + file));
        }
        for (int square = 16; square < 48; square++) {
            Check.is("1: square " + square, KnightPairChess.EMPTY, game.pieceAt(square));
        }
        Check.is("1: White's pieces", 0xFFFFL, game.piecesOf(true));
        Check.is("1: Black's pieces", 0xFFFFL << 48, game.piecesOf(false));
        Check.is("1: White's bond", 6, game.bondOf(1));
        Check.is("1: White's bond", 1, game.bondOf(6));
        Check.is("1: Black's bond", 62, game.bondOf(57));
        Check.is("1: Black's bond", 57, game.bondOf(62));
        Check.yes("1: White is to act", game.whiteToAct());
        Check.no("1: no set-up", game.isSetup());
        Check.is("1: outcome", KnightPairChess.ONGOING, game.outcome());
        Check.is("1: occurrences", 1, game.occurrences());
        Check.is("1: actions", 0, game.actionCount());
        Check.is("1: quiet actions", 0, game.quietActions());
    }

    private static void beginSetup() {
        KnightPairChess game = Check.moved(new KnightPairChess(), "b1c3 d7d6 c3b1");
        Check.no("2: Black is to act", game.whiteToAct());
        game.beginSetup();
        Check.yes("2: set-up", game.isSetup());
        Check.is("2: no white pieces", 0, game.piecesOf(true));
        Check.is("2: no black pieces", 0, game.piecesOf(false));
        for (int square = 0; square < 64; square++) {
            Check.is("2: empty", KnightPairChess.EMPTY, game.pieceAt(square));
            Check.is("2: no bond", KnightPairChess.NONE, game.bondOf(square));
        }
        Check.yes("2: White is to act", game.whiteToAct());
        Check.is("2: no actions", 0, game.actionCount());
        Check.badState("2: nothing to take back", game::takeBack);
        game.place(0, 5, true);
        game.beginSetup();
        Check.is("2: begun anew", 0, game.piecesOf(true));
        endedGame();
        KnightPairChess black = Check.begun("Ka1 kh8 Nc3", false);
        black.beginSetup();
        Check.yes("2: White is to act, whoever began before", black.whiteToAct());
    }

    private static void endedGame() {
        KnightPairChess game = Check.begun("Ka1 kh8", true);
        Check.is("2: an ended game", KnightPairChess.BARE_KINGS, game.outcome());
        game.beginSetup();
        Check.is("2: outcome in the set-up", KnightPairChess.ONGOING, game.outcome());
        game.place(0, 1, true);
        game.place(63, 1, false);
        game.place(1, 5, true);
        game.place(6, 5, true);
        Check.is("2: knights on the first squares have no bond", KnightPairChess.NONE, game.bondOf(1));
        game.endSetup(true);
        Check.is("2: nor when the game has begun", 0, game.bondCount(true));
        Check.is("2: nothing was captured in the new game", 0, game.capturedCount(6, false));
    }

    private static void place() {
        KnightPairChess game = new KnightPairChess();
        game.beginSetup();
        Check.is("3: one piece", 1, game.place(0, KnightPairChess.KING, true));
        Check.is("3: a king of each side", 2, game.place(63, KnightPairChess.KING, false));
        Check.is("3: a queen", 3, game.place(7, KnightPairChess.QUEEN, false));
        Check.is("3: a pawn on rank 1", 4, game.place(8, KnightPairChess.PAWN, false));
        Check.is("3: a pawn on rank 6", 5, game.place(55, KnightPairChess.PAWN, true));
        Check.is("3: a piece of rank 7", 6, game.place(56, KnightPairChess.KNIGHT, true));
        Check.is("3: a second queen", 7, game.place(20, KnightPairChess.QUEEN, false));
        Check.is("3: its kind", KnightPairChess.QUEEN, game.pieceAt(20));
        Check.no("3: its side", game.isWhite(20));
        Check.is("3: White's", Check.set(0, 55, 56), game.piecesOf(true));
        Check.is("3: Black's", Check.set(63, 7, 8, 20), game.piecesOf(false));
        game.beginSetup();
        int count = 0;
        for (int square = 0; square < 64; square++) {
            count++;
            Check.is("3: a full board", count, game.place(square, KnightPairChess.KNIGHT, square % 2 == 0));
        }
    }

    private static void placeRefused() {
        KnightPairChess game = Check.placed("Ka1 ke8 Nc3");
        String before = Check.picture(game);
        Check.outside("3: square 64", () -> game.place(64, 5, true));
        Check.outside("3: square -1", () -> game.place(-1, 5, true));
        Check.outside("3: square before kind", () -> game.place(64, 0, true));
        Check.outside("3: a far square", () -> game.place(Integer.MIN_VALUE, 7, true));
        Check.badArgument("3: EMPTY", () -> game.place(40, 0, true));
        Check.badArgument("3: kind 7", () -> game.place(40, 7, true));
        Check.badArgument("3: kind before state", () -> game.place(0, -1, true));
        Check.badState("3: not empty", () -> game.place(18, 2, true));
        Check.badState("3: not empty, the other side's", () -> game.place(18, 2, false));
        Check.badState("3: a second white king", () -> game.place(40, 1, true));
        Check.badState("3: a second black king", () -> game.place(40, 1, false));
        for (int file = 0; file < 8; file++) {
            int low = file;
            int high = 56 + file;
            Check.badState("3: a white pawn on rank 0", () -> game.place(low, 6, true));
            Check.badState("3: a black pawn on rank 0", () -> game.place(low, 6, false));
            Check.badState("3: a white pawn on rank 7", () -> game.place(high, 6, true));
            Check.badState("3: a black pawn on rank 7", () -> game.place(high, 6, false));
        }
        Check.same("3: nothing was changed", before, Check.picture(game));
        KnightPairChess played = new KnightPairChess();
        String then = Check.picture(played);
        Check.outside("3: square, without a set-up", () -> played.place(64, 9, true));
        Check.badArgument("3: kind, without a set-up", () -> played.place(20, 9, true));
        Check.badState("3: no set-up", () -> played.place(20, 5, true));
        Check.same("3: nothing was changed in the game", then, Check.picture(played));
    }

    private static void remove() {
        KnightPairChess game = Check.placed("Ka1 kh8 Nc3 ph7 Qd4 bd5 re5");
        Check.outside("4: square 64", () -> game.remove(64));
        Check.outside("4: square -1", () -> game.remove(-1));
        Check.is("4: a knight", KnightPairChess.KNIGHT, game.remove(Check.at("c3")));
        Check.is("4: a pawn", KnightPairChess.PAWN, game.remove(Check.at("h7")));
        Check.is("4: a queen", KnightPairChess.QUEEN, game.remove(Check.at("d4")));
        Check.is("4: a bishop", KnightPairChess.BISHOP, game.remove(Check.at("d5")));
        Check.is("4: a rook", KnightPairChess.ROOK, game.remove(Check.at("e5")));
        Check.is("4: White's rest", Check.squares("a1"), game.piecesOf(true));
        Check.is("4: Black's rest", Check.squares("h8"), game.piecesOf(false));
        Check.is("4: the king", KnightPairChess.KING, game.remove(0));
        Check.is("4: no king any more", KnightPairChess.NONE, game.kingSquare(true));
        Check.is("4: a king can be placed again", 2, game.place(10, KnightPairChess.KING, true));
        String before = Check.picture(game);
        Check.badState("4: an empty square", () -> game.remove(0));
        Check.badState("4: removed before", () -> game.remove(Check.at("c3")));
        Check.same("4: nothing was changed", before, Check.picture(game));
        KnightPairChess played = new KnightPairChess();
        String then = Check.picture(played);
        Check.badState("4: no set-up", () -> played.remove(0));
        Check.outside("4: square, without a set-up", () -> played.remove(64));
        Check.same("4: nothing was changed in the game", then, Check.picture(played));
    }

    private static void endSetup() {
        KnightPairChess game = Check.placed("Ka1 kh8 Nc3 nf6");
        Check.is("5: the game goes on", KnightPairChess.ONGOING, game.endSetup(false));
        Check.no("5: Black acts first", game.whiteToAct());
        Check.no("5: the set-up is over", game.isSetup());
        Check.is("5: the first position counts", 1, game.occurrences());
        Check.is("5: no actions", 0, game.actionCount());
        Check.is("5: no quiet actions", 0, game.quietActions());
        Check.badState("5: nothing to take back", game::takeBack);
        Check.yes("5: White acts first", Check.begun("Ka1 kh8 Nc3", true).whiteToAct());
        Check.is("5: only kings", KnightPairChess.BARE_KINGS, Check.placed("Ka1 kh8").endSetup(true));
        Check.is("5: stalemate", KnightPairChess.STALEMATE, Check.placed("ka8 Qb6 Kh1").endSetup(false));
        Check.is("5: not with White to act", KnightPairChess.ONGOING, Check.placed("ka8 Qb6 Kh1").endSetup(true));
        Check.is("5: checkmate", KnightPairChess.CHECKMATE, Check.placed("kh8 Kh6 Ra8").endSetup(false));
        Check.is("5: the side to act may be in check", 0, Check.placed("kh8 Kh1 Ra8").endSetup(false));
    }

    private static void endSetupRefused() {
        Check.badState("5: no set-up", () -> new KnightPairChess().endSetup(true));
        KnightPairChess empty = new KnightPairChess();
        empty.beginSetup();
        Check.badState("5: no king", () -> empty.endSetup(true));
        empty.place(0, 1, true);
        Check.badState("5: no black king", () -> empty.endSetup(true));
        Check.yes("5: still a set-up", empty.isSetup());
        KnightPairChess black = Check.placed("kh8 Na1");
        Check.badState("5: no white king", () -> black.endSetup(false));
        KnightPairChess checked = Check.placed("Ka1 kh8 ra8");
        String before = Check.picture(checked);
        Check.badState("5: the side not to act is in check", () -> checked.endSetup(false));
        Check.same("5: nothing was changed", before, Check.picture(checked));
        Check.is("5: so the other side acts first", 0, checked.endSetup(true));
        Check.badState("5: no set-up any more", () -> checked.endSetup(true));
        Check.badState("5: kings side by side", () -> Check.placed("Ka1 kb2 Nh1").endSetup(true));
        Check.badState("5: Black in check by a pawn", () -> Check.placed("Ka1 Pd4 ke5").endSetup(true));
        Check.is("5: a pawn attacks upwards only", 0, Check.placed("Ka1 Pd4 ke3").endSetup(true));
    }

    private static void isSetup() {
        KnightPairChess game = new KnightPairChess();
        Check.no("6: a new game", game.isSetup());
        game.beginSetup();
        Check.yes("6: begun", game.isSetup());
        game.place(0, 1, true);
        Check.yes("6: going on", game.isSetup());
        Check.badState("6: it cannot end yet", () -> game.endSetup(true));
        Check.yes("6: still going on", game.isSetup());
        game.place(63, 1, false);
        game.endSetup(true);
        Check.no("6: ended", game.isSetup());
    }
}
