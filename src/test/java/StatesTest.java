import java.util.Map;

/** What each call answers during a set-up, and what after each end of a game. */
final class StatesTest {
    private static final int NONE = KnightPairChess.NONE;

    public static void main(String[] args) {
        duringASetup(afterAGame());
        duringASetup(afterAnEnd());
        for (Map.Entry<Integer, KnightPairChess> game : Games.ended().entrySet()) {
            afterTheEnd(game.getKey(), game.getValue());
        }
        mateThatIsNotPlayed();
        sequencesAfterTheEnd();
        whoIsToAct();
        playedUntilTheEnd();
        Check.finish();
    }

    private static KnightPairChess afterAGame() {
        KnightPairChess game = Games.played();
        Check.no("7: Black is to act", game.whiteToAct());
        game.beginSetup();
        return game;
    }

    private static KnightPairChess afterAnEnd() {
        KnightPairChess game = Games.checkmate();
        game.beginSetup();
        return game;
    }

    /** White could mate by the rook, and bond its knights, if this were a game. */
    private static void duringASetup(KnightPairChess game) {
        answersOfASetup(game);
        String pieces = "Kh6 kh8 Ra1 Nc3 Ne3 pb4 Pg2";
        for (String piece : pieces.split(" ")) {
            char letter = piece.charAt(0);
            int kind = "KQRBNP".indexOf(Character.toUpperCase(letter)) + 1;
            game.place(Check.at(piece.substring(1)), kind, Character.isUpperCase(letter));
            answersOfASetup(game);
        }
        positionOfASetup(game);
        game.remove(Check.at("b4"));
        answersOfASetup(game);
        Check.is("31: nothing of this is in the way of the game", KnightPairChess.ONGOING, game.endSetup(true));
        Check.is("24: now it mates", Check.at("a8"), game.matingMove());
        Check.is("22: now they can be bonded", 0, game.bondRefusal(Check.at("c3"), Check.at("e3")));
        Check.is("32: now the position has occurred", 1, game.occurrences());
        Check.yes("25: now there are sequences", game.countSequences(1) > 0);
    }

    private static void answersOfASetup(KnightPairChess game) {
        Check.yes("6: a set-up", game.isSetup());
        Check.yes("7: always true", game.whiteToAct());
        Check.is("20: not played", 0, game.legalMoveCount());
        Check.is("24: not played", NONE, game.matingMove());
        Check.is("25: a set-up", 0, game.countSequences(1));
        Check.is("25: a set-up", 0, game.countSequences(2));
        Check.is("30: a set-up", 0, game.actionCount());
        Check.is("31: a set-up", KnightPairChess.ONGOING, game.outcome());
        Check.is("32: a set-up", 0, game.occurrences());
        Check.is("33: a set-up", 0, game.quietActions());
        Check.badState("29: a set-up", game::takeBack);
        for (int kind = 1; kind <= 6; kind++) {
            Check.is("34: a set-up", 0, game.capturedCount(kind, true));
            Check.is("34: a set-up", 0, game.capturedCount(kind, false));
        }
        for (boolean white : new boolean[] {true, false}) {
            Check.is("13: no bonds", 0, game.bondCount(white));
            Check.is("14: no bonds", 0, game.longestBond(white));
        }
        for (int one = 0; one < 64; one++) {
            squareOfASetup(game, one);
        }
    }

    private static void squareOfASetup(KnightPairChess game, int one) {
        Check.is("12: no bonds", NONE, game.bondOf(one));
        Check.is("19: not played", 0, game.legalMoves(one));
        Check.is("23: not played", KnightPairChess.NOT_PLAYED, game.dissolveRefusal(one));
        Check.badState("28: not played", () -> game.dissolve(one));
        for (int other = 0; other < 64; other++) {
            Check.is("21: not played", KnightPairChess.NOT_PLAYED, game.moveRefusal(one, other));
            Check.is("22: not played", KnightPairChess.NOT_PLAYED, game.bondRefusal(one, other));
        }
        Check.badState("26: not played", () -> game.move(one, 63 - one));
        Check.badState("27: not played", () -> game.bond(one, 63 - one));
    }

    /** The calls that tell of the position and of attacks answer as in a game. */
    private static void positionOfASetup(KnightPairChess game) {
        Check.is("8: a pawn", KnightPairChess.PAWN, game.pieceAt(Check.at("b4")));
        Check.no("9: Black's", game.isWhite(Check.at("b4")));
        Check.is("10: White's", Check.squares("h6 a1 c3 e3 g2"), game.piecesOf(true));
        Check.is("10: Black's", Check.squares("h8 b4"), game.piecesOf(false));
        Check.is("11: White's king", Check.at("h6"), game.kingSquare(true));
        Check.is("11: Black's king", Check.at("h8"), game.kingSquare(false));
        Check.is("15: the distance", 2, game.knightDistance(Check.at("c3"), Check.at("e3")));
        Check.is("16: on c3", Check.squares("b4"), game.attackers(Check.at("c3"), false));
        Check.is("16: on d1", Check.squares("a1 c3 e3"), game.attackers(Check.at("d1"), true));
        Check.is("17: Black's", Check.squares("a3 c3 g8 g7 h7"), game.attackedSquares(false));
        Check.no("18: not in check", game.isInCheck(false));
        float black = 0.0f + 1.0f + 0.0f + 0.1f * 5.0f;
        Check.same("35: without bonds", 0.0f + 5.0f + 1.0f + 3.2f + 3.2f + 0.0f
                + 0.1f * (float) Long.bitCount(game.attackedSquares(true)), game.strengthOf(true));
        Check.same("35: Black's", black, game.strengthOf(false));
        Check.is("36: Black's", Float.floatToIntBits(black), game.strengthBits(false));
        Check.same("37: the balance", (double) game.strengthOf(true) - (double) black, game.balance());
    }

    private static void afterTheEnd(int outcome, KnightPairChess game) {
        String name = "outcome " + outcome;
        String before = Check.picture(game);
        int actions = game.actionCount();
        Check.is("31: " + name, outcome, game.outcome());
        Check.no("6: " + name, game.isSetup());
        Check.yes("30: " + name, actions > 0);
        Check.yes("32: " + name, game.occurrences() >= 1);
        Check.is("20: " + name, 0, game.legalMoveCount());
        Check.is("24: " + name, NONE, game.matingMove());
        Check.badState("5: " + name, () -> game.endSetup(true));
        for (int square = 0; square < 64; square++) {
            squareAfterTheEnd(name, game, square);
        }
        Check.same("26 to 28: nothing was changed, " + name, before, Check.picture(game));
        Check.is("29: " + name, actions - 1, game.takeBack());
        Check.is("31: taken back", KnightPairChess.ONGOING, game.outcome());
        game.beginSetup();
        Check.yes("2: " + name, game.isSetup());
    }

    private static void squareAfterTheEnd(String name, KnightPairChess game, int one) {
        Check.is("19: " + name, 0, game.legalMoves(one));
        Check.is("23: " + name, KnightPairChess.NOT_PLAYED, game.dissolveRefusal(one));
        Check.badState("28: " + name, () -> game.dissolve(one));
        Check.badState("3: " + name, () -> game.place(one, KnightPairChess.KNIGHT, true));
        Check.badState("4: " + name, () -> game.remove(one));
        for (int other = 0; other < 64; other++) {
            int to = other;
            Check.is("21: " + name, KnightPairChess.NOT_PLAYED, game.moveRefusal(one, to));
            Check.is("22: " + name, KnightPairChess.NOT_PLAYED, game.bondRefusal(one, to));
            Check.badState("26: " + name, () -> game.move(one, to));
            Check.badState("27: " + name, () -> game.bond(one, to));
        }
    }

    /** "NONE if there is none or if the game is not played": the same positions in a game have a mating move. */
    private static void mateThatIsNotPlayed() {
        Check.is("24: could mate", Check.at("a8"), Check.begun("kh8 Kh6 Ra1 Nc3 Ne3", true).matingMove());
        Check.is("24: repetition", NONE, Games.repetition().matingMove());
        Check.is("24: could mate", 64 * Check.at("e3") + Check.at("h3"),
                Check.begun("Ka1 Re3 Rg1 kh8 Na7 Nb8", true).matingMove());
        Check.is("8: there the rook stands", KnightPairChess.ROOK, Games.quiet().pieceAt(Check.at("e3")));
        Check.is("24: quiet", NONE, Games.quiet().matingMove());
    }

    /** "Outcomes other than CHECKMATE and STALEMATE do not matter in it." */
    private static void sequencesAfterTheEnd() {
        for (int moves = 1; moves <= 2; moves++) {
            Check.is("25: checkmate", 0, Games.checkmate().countSequences(moves));
            Check.is("25: stalemate", 0, Games.stalemate().countSequences(moves));
            Check.is("25: repetition", Check.begun("kh8 Kh6 Ra1 Nc3 Ne3", true).countSequences(moves),
                    Games.repetition().countSequences(moves));
            Check.is("25: quiet", Check.begun("Ka1 Re3 Rg1 kh8 Na7 Nb8", true).countSequences(moves),
                    Games.quiet().countSequences(moves));
        }
        Check.is("25: bare kings", 3, Games.bareKings().countSequences(1));
        Check.is("25: bare kings", 24, Games.bareKings().countSequences(2));
        KnightPairChess ends = Check.begun("Ka1 qb2 kh8", true);
        Check.is("25: the move that leaves bare kings is counted", 1, ends.countSequences(1));
        Check.is("25: and the moves after it", 3, ends.countSequences(2));
        KnightPairChess mates = Check.begun("kh8 Kh6 Ra7", true);
        Check.is("25: after the mating move there is no second one", Check.answersToAll(mates), mates.countSequences(2));
        KnightPairChess third = Games.repetition();
        third.takeBack();
        Check.is("25: the third occurrence does not end a sequence", Check.answersToAll(third), third.countSequences(2));
        KnightPairChess quiet = Games.quiet();
        quiet.takeBack();
        Check.is("25: nor the 40th quiet action", Check.answersToAll(quiet), quiet.countSequences(2));
    }

    /** "Returns true if White is to act": after the end it is the side that would be to act. */
    private static void whoIsToAct() {
        Check.no("7: checkmate", Games.checkmate().whiteToAct());
        Check.no("7: stalemate", Games.stalemate().whiteToAct());
        Check.no("7: bare kings", Games.bareKings().whiteToAct());
        Check.yes("7: repetition", Games.repetition().whiteToAct());
        Check.yes("7: quiet", Games.quiet().whiteToAct());
    }

    /** What counts goes on counting until the end, and stays. */
    private static void playedUntilTheEnd() {
        Check.is("30: checkmate", 1, Games.checkmate().actionCount());
        Check.is("34: checkmate", 1, Games.checkmate().capturedCount(KnightPairChess.PAWN, false));
        Check.is("33: checkmate", 0, Games.checkmate().quietActions());
        Check.yes("18: checkmate", Games.checkmate().isInCheck(false));
        Check.is("30: stalemate", 5, Games.stalemate().actionCount());
        Check.is("33: stalemate", 4, Games.stalemate().quietActions());
        Check.no("18: stalemate", Games.stalemate().isInCheck(false));
        Check.is("34: bare kings", 1, Games.bareKings().capturedCount(KnightPairChess.QUEEN, false));
        Check.is("32: repetition", 3, Games.repetition().occurrences());
        Check.is("30: repetition", 8, Games.repetition().actionCount());
        Check.is("33: quiet", 40, Games.quiet().quietActions());
        Check.is("30: quiet", 40, Games.quiet().actionCount());
    }
}
