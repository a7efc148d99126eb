/**
 * The boundary cases of setting up: an empty board, empty squares, a full board, a side without a king, a second king
 * of a side, pawns on the ranks 0 and 7, and set-ups that cannot end.
 */
final class SetupEdgesTest {
    private static final int KING = KnightPairChess.KING;
    private static final int KNIGHT = KnightPairChess.KNIGHT;
    private static final int PAWN = KnightPairChess.PAWN;
    private static final int NONE = KnightPairChess.NONE;

    public static void main(String[] args) {
        emptyBoard();
        emptySquares();
        fullBoard();
        everyPieceOnEverySquare();
        noKing();
        secondKing();
        pawnsOnTheLastRanks();
        withoutAKing();
        checkedByEachPiece();
        bothInCheck();
        tryAgain();
        begunTwice();
        endedInEachGame();
        noBonds();
        countedFromTheEndOn();
        Check.finish();
    }

    /** "begins a set-up with an empty board" */
    private static void emptyBoard() {
        KnightPairChess game = Games.empty();
        for (int square = 0; square < 64; square++) {
            int here = square;
            Check.is("8: empty", KnightPairChess.EMPTY, game.pieceAt(here));
            Check.noElement("9: empty", () -> game.isWhite(here));
            Check.is("12: no knight", NONE, game.bondOf(here));
            Check.badState("4: nothing to remove", () -> game.remove(here));
            Check.is("16: nobody", 0, game.attackers(here, true) | game.attackers(here, false));
            Check.is("19: nothing moves", 0, game.legalMoves(here));
        }
        for (boolean white : new boolean[] {true, false}) {
            Check.is("10: no pieces", 0, game.piecesOf(white));
            Check.is("11: no king", NONE, game.kingSquare(white));
            Check.is("13: no bonds", 0, game.bondCount(white));
            Check.is("14: no bonds", 0, game.longestBond(white));
            Check.is("17: nothing attacked", 0, game.attackedSquares(white));
            Check.no("18: no king", game.isInCheck(white));
            Check.same("35: no strength", 0.0f, game.strengthOf(white));
            Check.is("36: no strength", 0, game.strengthBits(white));
        }
        Check.same("37: no strengths", 0.0, game.balance());
        Check.badState("5: an empty board", () -> game.endSetup(true));
        Check.badState("5: an empty board", () -> game.endSetup(false));
        Check.is("15: the distance needs no pieces", 3, game.knightDistance(0, 1));
    }

    /** "if the square is empty": when nothing was placed, when it was removed, and where a piece has left. */
    private static void emptySquares() {
        KnightPairChess game = Check.placed("Ka1 kh8 Nc3");
        Check.is("4: there", KNIGHT, game.remove(Check.at("c3")));
        Check.badState("4: removed before", () -> game.remove(Check.at("c3")));
        Check.noElement("9: removed", () -> game.isWhite(Check.at("c3")));
        Check.is("8: removed", KnightPairChess.EMPTY, game.pieceAt(Check.at("c3")));
        Check.is("3: placed again, by the other side", 3, game.place(Check.at("c3"), KNIGHT, false));
        Check.no("9: Black's", game.isWhite(Check.at("c3")));
        Check.is("10: Black's", Check.squares("h8 c3"), game.piecesOf(false));
        Check.is("10: no more White's", Check.squares("a1"), game.piecesOf(true));
        KnightPairChess left = Check.moved(new KnightPairChess(), "b1c3");
        Check.noElement("9: left", () -> left.isWhite(1));
        Check.is("8: left", KnightPairChess.EMPTY, left.pieceAt(1));
        left.takeBack();
        Check.yes("9: back", left.isWhite(1));
        Check.noElement("9: not yet", () -> left.isWhite(18));
    }

    private static void fullBoard() {
        KnightPairChess game = Games.full();
        String before = Check.picture(game);
        for (int square = 0; square < 64; square++) {
            int here = square;
            Check.badState("3: no room", () -> game.place(here, KnightPairChess.QUEEN, true));
            Check.badState("3: no room", () -> game.place(here, KING, false));
            Check.badState("3: no room", () -> game.place(here, PAWN, false));
            Check.is("12: no bonds", NONE, game.bondOf(here));
        }
        Check.same("3: nothing was changed", before, Check.picture(game));
        Check.is("10: White's half", 0xFFFFFFFFL, game.piecesOf(true));
        Check.is("10: Black's half", 0xFFFFFFFFL << 32, game.piecesOf(false));
        Check.is("17: own pieces are attacked, too", 0xFFFFFFFFFFFFL, game.attackedSquares(true));
        for (int square = 0; square < 64; square++) {
            Check.is("4: removed", KNIGHT, game.remove(square));
        }
        Check.is("4: empty again", 0, game.piecesOf(true) | game.piecesOf(false));
        Check.is("3: one", 1, game.place(63, KNIGHT, true));
        KnightPairChess queens = Games.empty();
        queens.place(0, KING, true);
        queens.place(63, KING, false);
        for (int square = 1; square < 63; square++) {
            Check.is("3: all but full", square + 2, queens.place(square, KNIGHT, square < 32));
        }
        Check.is("5: a full board", KnightPairChess.ONGOING, queens.endSetup(true));
        Check.is("19: shut in", 0, queens.legalMoves(0));
        Check.yes("20: knights can capture", queens.legalMoveCount() > 0);
    }

    /** Each kind of each side on each square, and what the board tells of it. */
    private static void everyPieceOnEverySquare() {
        KnightPairChess game = Games.empty();
        for (int square = 0; square < 64; square++) {
            for (int kind = KING; kind <= PAWN; kind++) {
                for (boolean white : new boolean[] {true, false}) {
                    int here = square;
                    int what = kind;
                    if (kind == PAWN && (square < 8 || square > 55)) {
                        Check.badState("3: a pawn on rank 0 or 7", () -> game.place(here, PAWN, white));
                        Check.is("8: nothing was placed", KnightPairChess.EMPTY, game.pieceAt(here));
                        continue;
                    }
                    Check.is("3: one piece", 1, game.place(square, kind, white));
                    Check.is("8: its kind", kind, game.pieceAt(square));
                    Check.same("9: its side", white, game.isWhite(square));
                    Check.is("10: its side's", 1L << square, game.piecesOf(white));
                    Check.is("10: not the other side's", 0, game.piecesOf(!white));
                    Check.is("11: the king's square", kind == KING ? square : NONE, game.kingSquare(white));
                    Check.is("11: no king", NONE, game.kingSquare(!white));
                    Check.badState("3: not empty", () -> game.place(here, what, white));
                    Check.badState("3: not empty", () -> game.place(here, KNIGHT, !white));
                    Check.is("4: its kind", kind, game.remove(square));
                }
            }
        }
    }

    /** "false if it has no king", "NONE if it has none" */
    private static void noKing() {
        KnightPairChess game = Check.placed("Qa1 ra8 ke8 Ne1");
        Check.no("18: no king", game.isInCheck(true));
        Check.is("11: no king", NONE, game.kingSquare(true));
        Check.is("11: Black's", Check.at("e8"), game.kingSquare(false));
        Check.badState("5: no white king", () -> game.endSetup(true));
        Check.badState("5: no white king", () -> game.endSetup(false));
        game.place(Check.at("e4"), KING, true);
        game.remove(Check.at("e8"));
        Check.no("18: no black king any more", game.isInCheck(false));
        Check.is("11: none any more", NONE, game.kingSquare(false));
        Check.badState("5: no black king", () -> game.endSetup(true));
        Check.badState("5: no black king", () -> game.endSetup(false));
        KnightPairChess first = Check.placed("ka1 Kh8");
        Check.is("11: the first square is not NONE", 0, first.kingSquare(false));
        Check.is("11: the last square", 63, first.kingSquare(true));
    }

    /** "if the kind is KING and the side has a king" */
    private static void secondKing() {
        KnightPairChess game = Games.empty();
        game.place(0, KING, true);
        for (int square = 1; square < 64; square++) {
            int here = square;
            Check.badState("3: a second white king", () -> game.place(here, KING, true));
        }
        Check.is("3: a black one", 2, game.place(63, KING, false));
        for (int square = 1; square < 63; square++) {
            int here = square;
            Check.badState("3: a second black king", () -> game.place(here, KING, false));
        }
        Check.is("10: nothing was placed", 1, game.piecesOf(true));
        game.remove(0);
        Check.is("3: the white king again", 2, game.place(62, KING, true));
        Check.badState("3: again a second one", () -> game.place(0, KING, true));
        Check.badState("3: Black has its one still", () -> game.place(0, KING, false));
        game.beginSetup();
        Check.is("3: a king on the new board", 1, game.place(0, KING, false));
    }

    /** "if the kind is PAWN and the rank of the square is 0 or 7" */
    private static void pawnsOnTheLastRanks() {
        KnightPairChess game = Games.empty();
        int count = 0;
        for (int square = 0; square < 64; square++) {
            int here = square;
            boolean white = square % 2 == 0;
            if (square < 8 || square >= 56) {
                Check.badState("3: rank " + square / 8, () -> game.place(here, PAWN, white));
                Check.badState("3: rank " + square / 8, () -> game.place(here, PAWN, !white));
            } else {
                count++;
                Check.is("3: rank " + square / 8, count, game.place(square, PAWN, white));
            }
        }
        Check.is("3: the ranks 1 to 6", 48, count);
        for (int kind = KnightPairChess.QUEEN; kind < PAWN; kind++) {
            count++;
            Check.is("3: other kinds on rank 0", count, game.place(kind, kind, true));
        }
        Check.is("3: the king, too", count + 1, game.place(63, KING, true));
    }

    /** "if a side has no king" */
    private static void withoutAKing() {
        for (boolean white : new boolean[] {true, false}) {
            for (boolean king : new boolean[] {true, false}) {
                KnightPairChess game = Games.empty();
                game.place(27, KING, king);
                game.place(0, KNIGHT, !king);
                String before = Check.picture(game);
                Check.badState("5: one king", () -> game.endSetup(white));
                Check.same("5: nothing was changed", before, Check.picture(game));
                game.place(63, KING, !king);
                Check.is("5: both kings", KnightPairChess.ONGOING, game.endSetup(white));
                Check.same("7: who is to act", white, game.whiteToAct());
            }
        }
    }

    /** "if the side that is not to act is in check", from each kind of piece */
    private static void checkedByEachPiece() {
        String[] checks = {"Ka1 kb2", "Kd4 ke5", "Kh8 kg8", "Ka1 kh8 qd4", "Ka1 kh8 qa8", "Ka1 kh7 ra8",
            "Ka1 kg3 rh1", "Ka1 kh7 bh8", "Kd4 kh8 bc5", "Ka1 kh8 nb3", "Ka1 kh8 nc2", "Kd4 kh8 pe5", "Kd4 kh8 pc5",
            "Kh1 ka8 pg2", "Ka6 kh8 pb7"};
        for (String pieces : checks) {
            KnightPairChess game = Check.placed(pieces);
            Check.yes("18: " + pieces, game.isInCheck(true));
            String before = Check.picture(game);
            Check.badState("5: White is in check and not to act: " + pieces, () -> game.endSetup(false));
            Check.same("5: nothing was changed", before, Check.picture(game));
            KnightPairChess turned = Check.placed(turned(pieces));
            Check.yes("18: " + turned(pieces), turned.isInCheck(false));
            Check.badState("5: Black is in check and not to act: " + pieces, () -> turned.endSetup(true));
            Check.yes("5: still a set-up", turned.isSetup());
            boolean kings = pieces.length() == 7;
            if (!kings) {
                Check.yes("5: White may be in check and to act", game.endSetup(true) != NONE);
                Check.yes("5: Black may be in check and to act", turned.endSetup(false) != NONE);
            }
        }
        for (String pieces : new String[] {"Kd4 kh8 pe3", "Kd4 kh8 pd5", "Ka1 kh8 qh7", "Ka1 kc1", "Ka1 kh8 Pa2 ra8",
            "Ka1 kh8 bb1 nc3", "Ka1 ka3", "Kh4 ka5 na6 ra3"}) {
            Check.no("18: not in check: " + pieces, Check.placed(pieces).isInCheck(true));
            Check.yes("5: so the other side may begin", Check.placed(pieces).endSetup(false) != NONE);
        }
    }

    /** The same pieces with colours changed and ranks turned round. */
    private static String turned(String pieces) {
        StringBuilder text = new StringBuilder();
        for (char sign : pieces.toCharArray()) {
            if (Character.isDigit(sign)) {
                text.append((char) ('1' + '8' - sign));
            } else if ("abcdefgh".indexOf(sign) >= 0 && text.length() > 0 && text.charAt(text.length() - 1) != ' ') {
                text.append(sign);
            } else {
                text.append(Character.isUpperCase(sign) ? Character.toLowerCase(sign) : Character.toUpperCase(sign));
            }
        }
        return text.toString();
    }

    /** A set-up that cannot end, whoever is to act. */
    private static void bothInCheck() {
        for (String pieces : new String[] {"Ka1 kb2", "Ka1 kh8 Rh1 ra8", "Kd4 kd6 Ne4 nf5"}) {
            KnightPairChess game = Check.placed(pieces);
            String before = Check.picture(game);
            Check.badState("5: both in check: " + pieces, () -> game.endSetup(true));
            Check.badState("5: both in check: " + pieces, () -> game.endSetup(false));
            Check.same("5: nothing was changed", before, Check.picture(game));
            Check.yes("6: still a set-up", game.isSetup());
            Check.yes("7: White is to act", game.whiteToAct());
            Check.is("31: ONGOING", KnightPairChess.ONGOING, game.outcome());
            Check.is("32: no occurrence", 0, game.occurrences());
        }
    }

    /** After a set-up could not end, it goes on. */
    private static void tryAgain() {
        KnightPairChess game = Check.placed("Ka1 kh8 Rh1 ra8");
        Check.badState("5: both in check", () -> game.endSetup(false));
        Check.is("4: a rook is removed", KnightPairChess.ROOK, game.remove(Check.at("a8")));
        Check.badState("5: Black is in check and not to act", () -> game.endSetup(true));
        Check.is("5: Black is in check and to act", KnightPairChess.ONGOING, game.endSetup(false));
        Check.no("7: Black", game.whiteToAct());
        Check.badState("5: a second time", () -> game.endSetup(false));
        Check.badState("5: a second time", () -> game.endSetup(true));
        Check.badState("3: no set-up any more", () -> game.place(20, KNIGHT, true));
        Check.badState("4: no set-up any more", () -> game.remove(0));
    }

    /** "Ends the present game and begins a set-up with an empty board": also while there is a set-up. */
    private static void begunTwice() {
        KnightPairChess game = Check.placed("Ka1 kh8 Nc3");
        String empty = Check.picture(Games.empty());
        game.beginSetup();
        Check.same("2: empty again", empty, Check.picture(game));
        game.beginSetup();
        Check.same("2: and again", empty, Check.picture(game));
        Check.is("3: the first piece", 1, game.place(0, KING, true));
    }

    private static void endedInEachGame() {
        String empty = Check.picture(Games.empty());
        for (KnightPairChess game : Games.all().values()) {
            game.beginSetup();
            Check.same("2: nothing is left of the game before", empty, Check.picture(game));
            Check.badState("29: nothing to take back", game::takeBack);
            game.place(0, KING, true);
            game.place(63, KING, false);
            game.place(1, KNIGHT, true);
            game.place(6, KNIGHT, true);
            Check.is("5: the game begins", KnightPairChess.ONGOING, game.endSetup(false));
            Check.same("5: as on a new object", Check.picture(Check.begun("Ka1 kh8 Nb1 Ng1", false)),
                    Check.picture(game));
            Check.badState("29: nothing to take back", game::takeBack);
        }
    }

    /** "there are no bonds" */
    private static void noBonds() {
        KnightPairChess game = Check.placed("Ke1 ke8 Nb1 Ng1 nb8 ng8");
        for (int square : new int[] {1, 6, 57, 62}) {
            Check.is("12: a set-up", NONE, game.bondOf(square));
        }
        Check.is("13: a set-up", 0, game.bondCount(true) + game.bondCount(false));
        Check.is("14: a set-up", 0, game.longestBond(true) + game.longestBond(false));
        game.endSetup(true);
        for (int square : new int[] {1, 6, 57, 62}) {
            Check.is("12: begun", NONE, game.bondOf(square));
        }
        Check.is("13: begun", 0, game.bondCount(true) + game.bondCount(false));
        Check.is("23: no bond", KnightPairChess.HAS_NO_BOND, game.dissolveRefusal(1));
        Check.is("22: but it can be made", 0, game.bondRefusal(1, 6));
    }

    /** "Occurrences and actions count from .. the end of its set-up on; the first position counts as an occurrence." */
    private static void countedFromTheEndOn() {
        KnightPairChess game = Games.played();
        Check.is("34: captured before", 1, game.capturedCount(KnightPairChess.QUEEN, true));
        game.beginSetup();
        game.place(0, KING, true);
        game.place(63, KING, false);
        game.place(10, KnightPairChess.ROOK, true);
        game.endSetup(true);
        Check.is("32: the first position", 1, game.occurrences());
        Check.is("30: no actions", 0, game.actionCount());
        Check.is("33: no quiet ones", 0, game.quietActions());
        Check.is("34: nothing captured", 0, game.capturedCount(KnightPairChess.QUEEN, true));
        Check.moved(game, "a1b1 h8g8 b1a1 g8h8");
        Check.is("32: the first position again", 2, game.occurrences());
        game.beginSetup();
        game.place(0, KING, true);
        game.place(63, KING, false);
        game.place(10, KnightPairChess.ROOK, true);
        game.endSetup(true);
        Check.is("32: counted anew", 1, game.occurrences());
        Check.moved(game, "a1b1 h8g8 b1a1 g8h8");
        Check.is("32: twice in this game", 2, game.occurrences());
        Check.is("31: the game goes on", KnightPairChess.ONGOING, game.outcome());
    }
}
