/**
 * "the outcome is the first of the following that applies": what just ends a game and what just does not, and which
 * outcome comes first where several apply.
 */
final class OutcomeEdgesTest {
    private static final int ONGOING = KnightPairChess.ONGOING;
    private static final int CHECKMATE = KnightPairChess.CHECKMATE;
    private static final int STALEMATE = KnightPairChess.STALEMATE;
    private static final int BARE_KINGS = KnightPairChess.BARE_KINGS;
    private static final int REPETITION = KnightPairChess.REPETITION;
    private static final int QUIET = KnightPairChess.QUIET;

    public static void main(String[] args) {
        checkmates();
        noCheckmates();
        stalemates();
        noStalemates();
        bareKings();
        thirdOccurrence();
        sameAndOtherPositions();
        coloursChanged();
        bondsInPositions();
        fortiethAction();
        fortiethIsNotQuiet();
        countedForBothSides();
        checkmateFirst();
        stalemateFirst();
        repetitionFirst();
        Check.finish();
    }

    private static void begins(String pieces, boolean white, int due) {
        Check.is("5: " + pieces, due, Check.placed(pieces).endSetup(white));
        Check.is("31: " + pieces, due, Check.begun(pieces, white).outcome());
    }

    private static void after(String pieces, String moves, boolean white, int due) {
        KnightPairChess game = Check.moved(Check.begun(pieces, white), moves);
        Check.is("31: " + pieces + ", " + moves, due, game.outcome());
    }

    /** "CHECKMATE if the side to act is in check and has no legal move": bonds do not help. */
    private static void checkmates() {
        begins("Ka1 kb3 ra8", true, ONGOING);
        begins("Ka1 ka3 re1", true, CHECKMATE);
        begins("kh8 Kg6 Qg7", false, CHECKMATE);
        begins("kh8 Kg6 Re8", false, CHECKMATE);
        begins("kh8 rg8 pg7 ph7 Nf7 Ka1", false, CHECKMATE);
        begins("kh8 rg8 pg7 ph7 Nf7 Ka1 na8 nb6 na5", false, CHECKMATE);
        begins("kh8 rg8 pg7 ph7 Nf7 Ka1 nd6", false, ONGOING);
        begins("Kd1 kd3 pd2 pc2 pe2", true, CHECKMATE);
        after("Ka1 ka3 rh2", "h2h1", false, CHECKMATE);
        after("kc8 Kc6 Pg7", "g7g8", true, CHECKMATE);
        after("Kc1 kc3 pg2", "g2g1", false, CHECKMATE);
        after("kh8 Kh6 Ra1 na8", "a1a8", true, CHECKMATE);
        KnightPairChess bonded = Check.begun("Kh1 Ng5 kh8 rg8 pg7 ph7 nd8 nb3 pa7", false);
        bonded.bond(Check.at("d8"), Check.at("b3"));
        Check.moved(bonded, "g5f7");
        Check.is("31: a bonded knight may not capture", CHECKMATE, bonded.outcome());
        Check.is("20: no legal move", 0, bonded.legalMoveCount());
    }

    private static void noCheckmates() {
        begins("kh8 Kh6 Qg7 rg1", false, ONGOING);
        begins("kh8 Kg6 Re8 bd7", false, ONGOING);
        begins("kh8 Kg5 Qg7", false, ONGOING);
        begins("kh8 Kh6 Ra8 rb7", false, ONGOING);
        begins("kh8 Kh6 Ra8 nb7", false, ONGOING);
        begins("kh8 Kh6 Ra8 nd7", false, ONGOING);
        begins("Kd1 kd3 pc2 pd2 Na3", true, ONGOING);
    }

    /** "STALEMATE if it is not in check and has no legal action": an action is a move, a bonding or a dissolving. */
    private static void stalemates() {
        begins("ka8 Qb6 Kh1", false, STALEMATE);
        begins("ka8 Qc7 Kh1 pa5 Pa4", false, STALEMATE);
        begins("ka8 Qc7 Kh1 pa5", false, ONGOING);
        begins("Ka1 kc2 pa2 pb3", true, STALEMATE);
        begins("Ka1 kc2 pa2", true, ONGOING);
        begins("Ka1 kb3 pa2", true, STALEMATE);
        begins("kh8 Kh6 Rg1 ph7", false, STALEMATE);
        begins("Ka1 Na2 ra8 rb8 kh8", true, STALEMATE);
        begins("kh8 nh7 Rh1 Rg1 Ka1", false, STALEMATE);
        begins("ka8 pa7 Pa6 Kc7", false, STALEMATE);
        after("ka8 Qb5 Kh1", "b5b6", true, STALEMATE);
        after("Ka1 kc3 pa2", "c3b3", false, STALEMATE);
    }

    private static void noStalemates() {
        begins("ka8 Qb6 Kh1 ph7", false, ONGOING);
        begins("ka8 Qb6 Kh1", true, ONGOING);
        begins("Ka1 Na2 ra8 rb8 kh8 Ph2", true, ONGOING);
        begins("Ka1 Na2 ra8 rb8 qh1 Nd1 kh8", true, ONGOING);
        KnightPairChess bonds = Check.begun("Ka1 Na2 ra8 rb8 qh1 Nd1 kh8", true);
        Check.is("20: only a bonding is left", 0, bonds.legalMoveCount());
        Check.is("22: only a bonding is left", 0, bonds.bondRefusal(Check.at("a2"), Check.at("d1")));
        Check.is("25: no moves", 0, bonds.countSequences(2));
        Check.is("24: no moves", KnightPairChess.NONE, bonds.matingMove());
        bonds.bond(Check.at("a2"), Check.at("d1"));
        Check.moved(bonds, "h8h7");
        Check.is("31: only a dissolving is left", ONGOING, bonds.outcome());
        Check.is("20: only a dissolving is left", 0, bonds.legalMoveCount());
        Check.is("23: only a dissolving is left", 0, bonds.dissolveRefusal(Check.at("d1")));
        bonds.dissolve(Check.at("d1"));
        Check.moved(bonds, "h1d1");
        Check.is("31: the other knight is captured", CHECKMATE, bonds.outcome());
        begins("Ka1 Na2 ra8 rb8 qh1 Ne1 kh8", true, ONGOING);
        KnightPairChess far = Check.begun("Ka1 Na2 ra8 rb8 rh1 Nf1 kh8", true);
        Check.is("15: from a2 to f1", 4, far.knightDistance(Check.at("a2"), Check.at("f1")));
        Check.is("31: two pinned knights that are too far from each other", STALEMATE, far.outcome());
    }

    /** "BARE_KINGS if there are no pieces but the two kings" */
    private static void bareKings() {
        begins("Ka1 kh8", true, BARE_KINGS);
        begins("Ka1 kh8", false, BARE_KINGS);
        begins("Ka1 ka3", true, BARE_KINGS);
        for (String piece : "Nc3 nc3 Bc3 bc4 Pc3 pc3 Rc3 rc3 Qb3 qc4".split(" ")) {
            begins("Ka1 kh7 " + piece, true, ONGOING);
        }
        after("Ka1 kh8 qb2", "a1b2", true, BARE_KINGS);
        after("Ka1 kh8 Qg7", "h8g7", false, BARE_KINGS);
        after("Ka1 kh8 Qg7 Ph2", "h8g7", false, ONGOING);
        after("Ka1 kh8 qb2 na8", "a1b2", true, ONGOING);
    }

    /** "REPETITION if the present position has occurred at least three times" */
    private static void thirdOccurrence() {
        KnightPairChess game = new KnightPairChess();
        for (int round = 1; round <= 2; round++) {
            String[] moves = "b1c3 b8c6 c3b1 c6b8".split(" ");
            for (int step = 0; step < moves.length; step++) {
                Check.is("31: goes on", ONGOING, game.outcome());
                Check.moved(game, moves[step]);
                Check.is("32: round " + round, step == 3 ? round + 1 : round, game.occurrences());
            }
        }
        Check.is("31: the first position, the third time", REPETITION, game.outcome());
        KnightPairChess middle = Check.begun("Ka1 Rb2 kh8", true);
        Check.moved(middle, "b2c2 h8g8 c2d2 g8g7 d2c2 g7g8");
        Check.is("32: twice", 2, middle.occurrences());
        Check.moved(middle, "c2e2 g8f8 e2c2");
        Check.is("32: with Black to act", 1, middle.occurrences());
        Check.is("31: goes on", ONGOING, middle.outcome());
        Check.moved(middle, "f8g8");
        Check.is("32: three times", 3, middle.occurrences());
        Check.is("31: not one after the other", REPETITION, middle.outcome());
        takenBack();
    }

    /** What was taken back has not occurred. */
    private static void takenBack() {
        KnightPairChess game = Check.begun("Ka1 Rb2 kh8", true);
        for (int time = 0; time < 5; time++) {
            Check.moved(game, "b2c2");
            Check.is("32: the first time again", 1, game.occurrences());
            game.takeBack();
            Check.is("32: the first position, still the first time", 1, game.occurrences());
            Check.is("31: goes on", ONGOING, game.outcome());
        }
        Check.moved(game, "b2c2 h8g8 c2b2 g8h8");
        Check.is("32: the second time", 2, game.occurrences());
        game.takeBack();
        Check.moved(game, "g8h8");
        Check.is("32: the second time again", 2, game.occurrences());
        Check.is("31: goes on", ONGOING, game.outcome());
    }

    /** "Two positions are the same if the same pieces stand on the same squares .. and the same side is to act." */
    private static void sameAndOtherPositions() {
        KnightPairChess side = Check.begun("Ka1 Rb2 kh8", true);
        Check.moved(side, "b2b3 h8g8 b3b5 g8h8 b5b2");
        Check.is("32: the other side is to act", 1, side.occurrences());
        Check.moved(side, "h8g8 b2b3 g8h8 b3b4 h8g8 b4b5 g8h8 b5b2");
        Check.is("32: Black to act, twice", 2, side.occurrences());
        KnightPairChess queen = Check.begun("Ka1 Pa7 Qc2 kh7", false);
        Check.moved(queen, "h7g7 a7a8");
        Check.is("32: a pawn is gone", 1, queen.occurrences());
        KnightPairChess same = Check.begun("Ka1 Rb3 Rc3 kh8", true);
        Check.moved(same, "b3b4 h8g8 c3b3 g8h8 b4c4 h8g8 c4c3 g8h8");
        Check.is("32: two rooks have changed places", 2, same.occurrences());
        KnightPairChess fewer = Check.begun("Ka1 Rb3 kh8 nb4", true);
        Check.moved(fewer, "b3b4 h8g8 b4b3 g8h8");
        Check.is("32: a knight has gone", 1, fewer.occurrences());
    }

    private static void coloursChanged() {
        KnightPairChess game = Check.begun("Ka1 Rb3 kh8 rc4", true);
        Check.moved(game, "b3b5 c4c3 b5d5 c3b3 d5d4 h8h7 d4c4 h7h8");
        Check.is("8: a rook", KnightPairChess.ROOK, game.pieceAt(Check.at("b3")));
        Check.is("8: a rook", KnightPairChess.ROOK, game.pieceAt(Check.at("c4")));
        Check.is("32: the rooks' colours are changed", 1, game.occurrences());
        KnightPairChess knight = Check.begun("Ka1 Nb1 kh8 nf6 Pa5 pa6", true);
        Check.moved(knight, "b1c3 f6g4 c3b1 g4f6");
        Check.is("32: the second time", 2, knight.occurrences());
    }

    /** "the same knights (by their squares) are bonded" */
    private static void bondsInPositions() {
        KnightPairChess game = Check.begun("Ka1 Nc3 Nd5 kh8 nf6 ng4", true);
        game.bond(Check.at("c3"), Check.at("d5"));
        Check.moved(game, "h8h7");
        game.dissolve(Check.at("c3"));
        Check.moved(game, "h7h8");
        Check.is("32: without the bond, the second time", 2, game.occurrences());
        game.bond(Check.at("d5"), Check.at("c3"));
        Check.is("32: with the bond, the second time", 2, game.occurrences());
        Check.moved(game, "h8h7 a1a2 h7h8 a2a1");
        Check.is("32: with the bond and Black to act", 3, game.occurrences());
        Check.is("31: the third time", REPETITION, game.outcome());
        game.takeBack();
        game.dissolve(Check.at("d5"));
        Check.is("32: another square of the king", 1, game.occurrences());
        KnightPairChess sides = Check.begun("Ka1 Nc3 Nd5 kh8 nf6 ng4", true);
        sides.bond(Check.at("c3"), Check.at("d5"));
        sides.bond(Check.at("f6"), Check.at("g4"));
        Check.is("32: both bonds", 1, sides.occurrences());
        sides.dissolve(Check.at("c3"));
        Check.moved(sides, "h8h7 a1a2 h7h8 a2a1");
        Check.is("32: Black's bond alone, Black to act", 2, sides.occurrences());
        sides.dissolve(Check.at("g4"));
        Check.is("32: no bond, White to act", 2, sides.occurrences());
        KnightPairChess walked = new KnightPairChess();
        Check.moved(walked, "b1c3 b8c6 g1f3 g8f6 c3b1 c6b8 f3g1 f6g8");
        Check.is("32: the bonds have gone with the knights", 2, walked.occurrences());
        changedPlaces();
    }

    /** A knight with and one without a bond change places: the same pieces, but another knight is bonded. */
    private static void changedPlaces() {
        KnightPairChess game = Check.begun("Ka1 Nc3 Ne3 Nd5 kh8", true);
        game.bond(Check.at("c3"), Check.at("d5"));
        Check.moved(game, "h8h7");
        Check.is("32: c3 and d5", 1, game.occurrences());
        game.dissolve(Check.at("c3"));
        Check.moved(game, "h7h8");
        game.bond(Check.at("e3"), Check.at("d5"));
        Check.moved(game, "h8h7");
        Check.is("32: e3 and d5", 1, game.occurrences());
        game.dissolve(Check.at("e3"));
        Check.moved(game, "h7h8");
        Check.is("32: none, the third time", 3, game.occurrences());
        Check.is("31: the third time", REPETITION, game.outcome());
    }

    /** A game with 39 quiet actions, Black to act; the rook is on f2 and Black's king on g8. */
    private static KnightPairChess quiet39(String more) {
        KnightPairChess game = Check.begun("Ka1 Rb2 kh8 " + more, true);
        Check.tour(game, Check.TOUR + " e4 e3 e2", "h8g8");
        Check.moved(game, "e2f2");
        Check.is("33: 39", 39, game.quietActions());
        Check.is("31: 39 are not enough", ONGOING, game.outcome());
        return game;
    }

    /** "QUIET if the last 40 actions or more were neither captures nor moves of pawns" */
    private static void fortiethAction() {
        KnightPairChess move = quiet39("pa6 Pa5");
        Check.moved(move, "g8h8");
        Check.is("33: 40", 40, move.quietActions());
        Check.is("31: a move", QUIET, move.outcome());
        move.takeBack();
        Check.is("31: 39 again", ONGOING, move.outcome());
        Check.moved(move, "g8h7");
        Check.is("31: another move", QUIET, move.outcome());
        KnightPairChess bond = quiet39("nh5 nh6");
        bond.bond(Check.at("h5"), Check.at("h6"));
        Check.is("33: 40", 40, bond.quietActions());
        Check.is("31: a bonding", QUIET, bond.outcome());
        KnightPairChess check = quiet39("rh2");
        Check.moved(check, "h2h1");
        Check.yes("18: White is in check", check.isInCheck(true));
        Check.is("31: a check", QUIET, check.outcome());
        Check.is("31: set up again, nothing is quiet", ONGOING, Check.begun("Ka1 Rf2 kh8", true).outcome());
    }

    private static void fortiethIsNotQuiet() {
        KnightPairChess capture = quiet39("nh3");
        Check.moved(capture, "h3f2");
        Check.is("33: a capture", 0, capture.quietActions());
        Check.is("31: a capture", ONGOING, capture.outcome());
        KnightPairChess pawn = quiet39("pa7");
        Check.moved(pawn, "a7a6");
        Check.is("33: a move of a pawn", 0, pawn.quietActions());
        Check.is("31: a move of a pawn", ONGOING, pawn.outcome());
        Check.moved(pawn, "f2e2");
        Check.is("33: from then on", 1, pawn.quietActions());
        KnightPairChess last = quiet39("ph2");
        Check.moved(last, "h2h1");
        Check.is("8: a queen", KnightPairChess.QUEEN, last.pieceAt(Check.at("h1")));
        Check.is("33: a pawn that becomes a queen", 0, last.quietActions());
        Check.is("31: a pawn that becomes a queen", ONGOING, last.outcome());
        KnightPairChess takes = quiet39("pg3");
        Check.moved(takes, "g3f2");
        Check.is("33: a capture by a pawn", 0, takes.quietActions());
        KnightPairChess bare = Check.begun("Ka1 qb2 kh8", true);
        Check.moved(bare, "a1b2");
        Check.is("33: a capture by a king", 0, bare.quietActions());
    }

    /** "the latest actions in succession": those of both sides. */
    private static void countedForBothSides() {
        KnightPairChess game = new KnightPairChess();
        Check.moved(game, "b1c3");
        Check.is("33: White's", 1, game.quietActions());
        Check.moved(game, "b8c6");
        Check.is("33: Black's, too", 2, game.quietActions());
        Check.moved(game, "a2a3");
        Check.is("33: White's pawn", 0, game.quietActions());
        game.dissolve(Check.at("c6"));
        Check.is("33: a dissolving", 1, game.quietActions());
        game.dissolve(Check.at("c3"));
        Check.moved(game, "a7a6");
        Check.is("33: Black's pawn", 0, game.quietActions());
        game.bond(Check.at("c3"), Check.at("g1"));
        Check.is("33: a bonding", 1, game.quietActions());
        game.takeBack();
        Check.is("33: taken back", 0, game.quietActions());
        game.takeBack();
        Check.is("33: Black's pawn is taken back", 2, game.quietActions());
    }

    /** CHECKMATE and QUIET at once: with the 40th quiet action. */
    private static void checkmateFirst() {
        KnightPairChess game = Check.begun("Ka1 Rb2 Rg1 kh8", false);
        Check.moved(game, "h8h7");
        Check.tour(game, Check.TOUR + " e4 e3 e2", "h7h8");
        Check.is("31: 39", ONGOING, game.outcome());
        Check.moved(game, "e2h2");
        Check.is("33: 40", 40, game.quietActions());
        Check.is("31: CHECKMATE before QUIET", CHECKMATE, game.outcome());
        game.takeBack();
        Check.is("24: the mating move is known before", 64 * Check.at("e2") + Check.at("h2"), game.matingMove());
        Check.moved(game, "e2e1");
        Check.is("31: no mate", QUIET, game.outcome());
        Check.is("24: not played", KnightPairChess.NONE, game.matingMove());
    }

    /** STALEMATE and QUIET at once. */
    private static void stalemateFirst() {
        String round = "f1 e2 d1 b3 a2 c4 b5 a6 b7 g2 ";
        KnightPairChess game = Check.begun("Kf7 Bf1 kh8", false);
        Check.moved(game, "h8h7");
        Check.tour(game, round + round.trim(), "h7h8");
        Check.moved(game, "g2e4");
        Check.is("33: 40", 40, game.quietActions());
        Check.is("31: STALEMATE before QUIET", STALEMATE, game.outcome());
        game.takeBack();
        Check.moved(game, "g2h1");
        Check.is("31: no stalemate", QUIET, game.outcome());
    }

    /** REPETITION and QUIET at once. */
    private static void repetitionFirst() {
        KnightPairChess game = Check.begun("Ka1 Rb2 kh8 Ph2", true);
        Check.tour(game, Check.TOUR, "h8g8");
        Check.moved(game, "e5e4 h8h7 e4e5 h7h8 e5e4 h8h7 e4e5");
        Check.is("33: 39", 39, game.quietActions());
        Check.is("32: twice", 2, game.occurrences());
        Check.moved(game, "h7h8");
        Check.is("33: 40", 40, game.quietActions());
        Check.is("32: three times", 3, game.occurrences());
        Check.is("31: REPETITION before QUIET", REPETITION, game.outcome());
        game.takeBack();
        Check.moved(game, "h7g8");
        Check.is("31: no repetition", QUIET, game.outcome());
    }
}
