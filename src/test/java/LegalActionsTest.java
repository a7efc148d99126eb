/** Promises 19 to 25: which actions are legal, why others are refused, and looking ahead. */
final class LegalActionsTest {
    private static final String SMOTHERED = "Ka1 Ng5 Nf1 kh8 rg8 pg7 ph7 pa7";

    public static void main(String[] args) {
        legalMoves();
        movesOfPawns();
        movesInCheck();
        movesOfBondedKnights();
        legalMovesOutsideOfPlay();
        legalMoveCount();
        moveRefusal();
        bondRefusal();
        dissolveRefusal();
        matingMove();
        countSequences();
        nothingChanges();
        Check.finish();
    }

    private static long legal(KnightPairChess game, String square) {
        return game.legalMoves(Check.at(square));
    }

    private static int refusal(KnightPairChess game, String move) {
        return game.moveRefusal(Check.at(move.substring(0, 2)), Check.at(move.substring(2, 4)));
    }

    private static void legalMoves() {
        KnightPairChess game = new KnightPairChess();
        Check.is("19: a bonded knight", Check.squares("c3"), legal(game, "b1"));
        Check.is("19: the other", Check.squares("f3"), legal(game, "g1"));
        Check.is("19: a shut-in rook", 0, legal(game, "a1"));
        Check.is("19: the other side's piece", 0, legal(game, "a7"));
        Check.is("19: an empty square", 0, legal(game, "e4"));
        Check.outside("19: -1", () -> game.legalMoves(-1));
        Check.outside("19: 64", () -> game.legalMoves(64));
        KnightPairChess pieces = Check.begun("Ka1 Qd4 pd6 Pf4 kh7 Na8 Bb1 bc2", true);
        Check.is("19: queen", Check.squares("a4 b4 c4 e4 d1 d2 d3 d5 d6 a7 b6 c5 e3 f2 g1 e5 f6 g7 h8 c3 b2"),
                legal(pieces, "d4"));
        Check.is("19: bishop", Check.squares("a2 c2"), legal(pieces, "b1"));
        Check.is("19: knight", Check.squares("b6 c7"), legal(pieces, "a8"));
        Check.is("19: king", Check.squares("a2 b2"), legal(pieces, "a1"));
        Check.is("19: Black's turn is not now", 0, legal(pieces, "c2"));
    }

    private static void movesOfPawns() {
        KnightPairChess game = Check.begun("Ka1 kh8 Pe4 pd5 nf5 Pb5 nb6 Ph4 pa5 Pd2 Pd3 Pg2", true);
        Check.is("19: ahead and both captures", Check.squares("e5 d5 f5"), legal(game, "e4"));
        Check.is("19: a shut-in pawn, no capture en passant", 0, legal(game, "b5"));
        Check.is("19: ahead, not round the edge", Check.squares("h5"), legal(game, "h4"));
        Check.is("19: an own piece ahead", 0, legal(game, "d2"));
        Check.is("19: no double step", Check.squares("g3"), legal(game, "g2"));
        Check.is("21: no double step", KnightPairChess.CANNOT_MOVE, refusal(game, "g2g4"));
        Check.is("21: no capture of nothing", KnightPairChess.CANNOT_MOVE, refusal(game, "g2h3"));
        Check.is("21: not backwards", KnightPairChess.CANNOT_MOVE, refusal(game, "e4e3"));
        KnightPairChess black = Check.begun("Ka1 kh8 pe5 Pd4 Nf4 pa7 ph4 Pg3", false);
        Check.is("19: Black, ahead and both captures", Check.squares("e4 d4 f4"), legal(black, "e5"));
        Check.is("19: Black, no double step", Check.squares("a6"), legal(black, "a7"));
        Check.is("19: Black, at the edge", Check.squares("h3 g3"), legal(black, "h4"));
        KnightPairChess last = Check.begun("Ka1 kh6 Pc7 rb8 rd8 Pf7 bf8", true);
        Check.is("19: to the last rank", Check.squares("b8 c8 d8"), legal(last, "c7"));
        Check.is("19: shut in before the last rank", 0, legal(last, "f7"));
    }

    private static void movesInCheck() {
        KnightPairChess pinned = Check.begun("Ka1 Ra2 ra8 Nb1 rh1 kh8", true);
        Check.is("19: a pinned rook along the line", Check.squares("a3 a4 a5 a6 a7 a8"), legal(pinned, "a2"));
        Check.is("19: a pinned knight", 0, legal(pinned, "b1"));
        Check.is("21: a pinned knight", KnightPairChess.CHECK, refusal(pinned, "b1c3"));
        Check.is("21: a pinned rook beside the line", KnightPairChess.CHECK, refusal(pinned, "a2b2"));
        KnightPairChess checked = Check.begun("Ka2 ra8 kg8 Rh5 Nc4", true);
        Check.is("19: the king does not go back on the line", Check.squares("b1 b2 b3"), legal(checked, "a2"));
        Check.is("19: a piece steps between", Check.squares("a5"), legal(checked, "h5"));
        Check.is("19: the knight, too", Check.squares("a3 a5"), legal(checked, "c4"));
        KnightPairChess capture = Check.begun("Ka1 rb1 rb8 kh8 Bg6", true);
        Check.is("19: the checking piece is captured", Check.squares("b1"), legal(capture, "g6"));
        Check.is("19: not by the king, as it is guarded", Check.squares("a2"), legal(capture, "a1"));
        Check.is("21: a guarded piece", KnightPairChess.CHECK, refusal(capture, "a1b1"));
        KnightPairChess kings = Check.begun("Kd4 kd6 Pa2", true);
        Check.is("19: kings keep apart", Check.squares("c3 d3 e3 c4 e4"), legal(kings, "d4"));
        KnightPairChess two = Check.begun("Ke1 re8 nf3 kh8 Ng1 Be2", true);
        Check.is("19: check by a knight", Check.squares("f3"), legal(two, "g1"));
        Check.is("19: a pinned bishop cannot capture it", 0, legal(two, "e2"));
        Check.is("21: as the rook would give check", KnightPairChess.CHECK, refusal(two, "e2f3"));
    }

    private static void movesOfBondedKnights() {
        KnightPairChess game = Check.begun(SMOTHERED, true);
        long free = Check.squares("e4 e6 f3 f7 h3 h7");
        Check.is("19: without a bond", free, legal(game, "g5"));
        game.bond(Check.at("g5"), Check.at("f1"));
        Check.moved(game, "a7a6");
        Check.is("19: with a bond", Check.squares("e4 f3"), legal(game, "g5"));
        Check.is("19: the other knight", Check.squares("d2 g3 h2"), legal(game, "f1"));
        Check.is("21: near enough", 0, refusal(game, "g5e4"));
        Check.is("21: too far", KnightPairChess.TOO_FAR, refusal(game, "g5f7"));
        Check.is("21: too far for the other", KnightPairChess.TOO_FAR, refusal(game, "f1e3"));
        Check.is("20: counted so", 2 + 3 + 3, game.legalMoveCount());
        KnightPairChess pinned = Check.begun("Ka1 Na2 Ne3 ra8 kh8 pg7", true);
        pinned.bond(Check.at("a2"), Check.at("e3"));
        Check.moved(pinned, "g7g6");
        Check.is("21: CHECK comes before TOO_FAR", KnightPairChess.CHECK, refusal(pinned, "a2c1"));
        Check.moved(pinned, "a1b1 a8a7");
        Check.is("21: no pin any more", KnightPairChess.TOO_FAR, refusal(pinned, "a2c1"));
    }

    private static void legalMovesOutsideOfPlay() {
        KnightPairChess setup = Check.placed("Ka1 Qb2 kh8");
        Check.is("19: during a set-up", 0, legal(setup, "b2"));
        Check.is("20: during a set-up", 0, setup.legalMoveCount());
        Check.is("21: during a set-up", KnightPairChess.NOT_PLAYED, refusal(setup, "b2b3"));
        Check.outside("19: 64 during a set-up", () -> setup.legalMoves(64));
        KnightPairChess ended = Check.begun("Ka1 kh8", true);
        Check.is("19: ended", 0, legal(ended, "a1"));
        Check.is("20: ended", 0, ended.legalMoveCount());
        Check.is("21: ended", KnightPairChess.NOT_PLAYED, refusal(ended, "a1a2"));
        Check.outside("21: -1 when ended", () -> ended.moveRefusal(-1, 64));
        ended.beginSetup();
        Check.outside("19: -1", () -> ended.legalMoves(-1));
    }

    private static void legalMoveCount() {
        KnightPairChess game = new KnightPairChess();
        Check.is("20: eight pawns and two knights", 10, game.legalMoveCount());
        game.dissolve(1);
        Check.is("20: Black's", 10, game.legalMoveCount());
        game.move(48, 40);
        Check.is("20: two more without the bond", 12, game.legalMoveCount());
        Check.is("20: only a king", 3, Check.begun("Ka1 kh8 ph7", true).legalMoveCount());
        Check.is("20: a promotion is one move", 4, Check.begun("Ka1 kh6 Pc7", true).legalMoveCount());
    }

    private static void moveRefusal() {
        KnightPairChess game = new KnightPairChess();
        Check.is("21: legal", 0, refusal(game, "b1c3"));
        Check.is("21: too far", KnightPairChess.TOO_FAR, refusal(game, "b1a3"));
        Check.is("21: an own piece there", KnightPairChess.CANNOT_MOVE, refusal(game, "b1d2"));
        Check.is("21: not so", KnightPairChess.CANNOT_MOVE, refusal(game, "b1b3"));
        Check.is("21: nowhere", KnightPairChess.CANNOT_MOVE, refusal(game, "b1b1"));
        Check.is("21: an empty square", KnightPairChess.NO_OWN_PIECE, refusal(game, "e4e5"));
        Check.is("21: the other side's", KnightPairChess.NO_OWN_PIECE, refusal(game, "a7a6"));
        Check.outside("21: from -1", () -> game.moveRefusal(-1, 0));
        Check.outside("21: from 64", () -> game.moveRefusal(64, 0));
        Check.outside("21: to -1", () -> game.moveRefusal(0, -1));
        Check.outside("21: to 64", () -> game.moveRefusal(0, 64));
    }

    private static void bondRefusal() {
        KnightPairChess game = Check.begun("Kh1 kh8 Na1 Nb3 Nb2 Nc1 Qe4 na8 nb6", true);
        Check.is("22: legal", 0, bonding(game, "a1", "b3"));
        Check.is("22: the other way round", 0, bonding(game, "b3", "a1"));
        Check.is("22: at distance 2", 0, bonding(game, "a1", "c1"));
        Check.is("22: too far", KnightPairChess.TOO_FAR, bonding(game, "a1", "b2"));
        Check.is("22: the same square", KnightPairChess.NO_OWN_PIECE, bonding(game, "a1", "a1"));
        Check.is("22: no knight", KnightPairChess.NO_OWN_PIECE, bonding(game, "a1", "e4"));
        Check.is("22: no knight", KnightPairChess.NO_OWN_PIECE, bonding(game, "e4", "a1"));
        Check.is("22: nothing", KnightPairChess.NO_OWN_PIECE, bonding(game, "a1", "d5"));
        Check.is("22: the other side's", KnightPairChess.NO_OWN_PIECE, bonding(game, "a8", "b6"));
        Check.is("22: of both sides", KnightPairChess.NO_OWN_PIECE, bonding(game, "b3", "b6"));
        game.bond(Check.at("a1"), Check.at("b3"));
        Check.is("22: White's are not Black's", KnightPairChess.NO_OWN_PIECE, bonding(game, "b2", "c1"));
        game.bond(Check.at("a8"), Check.at("b6"));
        Check.is("22: bonded with each other", KnightPairChess.HAS_BOND, bonding(game, "a1", "b3"));
        Check.is("22: the one has a bond", KnightPairChess.HAS_BOND, bonding(game, "a1", "c1"));
        Check.is("22: the other has a bond", KnightPairChess.HAS_BOND, bonding(game, "c1", "a1"));
        Check.is("22: HAS_BOND comes before TOO_FAR", KnightPairChess.HAS_BOND, bonding(game, "a1", "b2"));
        Check.is("22: two without", 0, bonding(game, "b2", "c1"));
        bondRefusalInCheck();
        Check.outside("22: -1", () -> game.bondRefusal(-1, 0));
        Check.outside("22: 64", () -> game.bondRefusal(64, 0));
        Check.outside("22: other -1", () -> game.bondRefusal(0, -1));
        Check.outside("22: other 64", () -> game.bondRefusal(0, 64));
    }

    private static int bonding(KnightPairChess game, String one, String other) {
        return game.bondRefusal(Check.at(one), Check.at(other));
    }

    private static void bondRefusalInCheck() {
        KnightPairChess game = Check.begun("Ka1 kh8 ra8 Nc3 Ne3 Nh6", true);
        Check.is("22: in check", KnightPairChess.CHECK, bonding(game, "c3", "e3"));
        Check.is("22: TOO_FAR comes before CHECK", KnightPairChess.TOO_FAR, bonding(game, "c3", "h6"));
        Check.is("22: NO_OWN_PIECE comes before CHECK", KnightPairChess.NO_OWN_PIECE, bonding(game, "c3", "a1"));
        KnightPairChess bonded = Check.begun("Ka1 kh8 rb8 Nc3 Ne3 Nd5", true);
        bonded.bond(Check.at("c3"), Check.at("e3"));
        Check.moved(bonded, "b8a8");
        Check.is("22: HAS_BOND comes before CHECK", KnightPairChess.HAS_BOND, bonding(bonded, "c3", "d5"));
        Check.is("23: in check", KnightPairChess.CHECK, bonded.dissolveRefusal(Check.at("c3")));
        Check.is("23: HAS_NO_BOND comes before CHECK", KnightPairChess.HAS_NO_BOND,
                bonded.dissolveRefusal(Check.at("d5")));
        Check.is("23: NO_OWN_PIECE comes before CHECK", KnightPairChess.NO_OWN_PIECE,
                bonded.dissolveRefusal(Check.at("a1")));
        Check.badState("27: in check", () -> game.bond(Check.at("c3"), Check.at("e3")));
        Check.badState("28: in check", () -> bonded.dissolve(Check.at("c3")));
        KnightPairChess setup = Check.placed("Ka1 kh8 Nc3 Ne3");
        Check.is("22: during a set-up", KnightPairChess.NOT_PLAYED, bonding(setup, "c3", "e3"));
        Check.is("22: NOT_PLAYED comes first", KnightPairChess.NOT_PLAYED, bonding(setup, "c3", "c3"));
        Check.is("23: during a set-up", KnightPairChess.NOT_PLAYED, setup.dissolveRefusal(Check.at("c3")));
        Check.is("23: NOT_PLAYED comes first", KnightPairChess.NOT_PLAYED, setup.dissolveRefusal(40));
        Check.outside("22: 64 during a set-up", () -> setup.bondRefusal(1, 64));
        Check.outside("23: 64 during a set-up", () -> setup.dissolveRefusal(64));
        KnightPairChess three = Check.begun("Kh1 kh8 Na1 Nb1 Nh7", true);
        Check.is("22: three moves are near enough", 0, bonding(three, "a1", "b1"));
    }

    private static void dissolveRefusal() {
        KnightPairChess game = new KnightPairChess();
        Check.is("23: legal", 0, game.dissolveRefusal(1));
        Check.is("23: legal at the other end", 0, game.dissolveRefusal(6));
        Check.is("23: no knight", KnightPairChess.NO_OWN_PIECE, game.dissolveRefusal(0));
        Check.is("23: nothing", KnightPairChess.NO_OWN_PIECE, game.dissolveRefusal(30));
        Check.is("23: the other side's", KnightPairChess.NO_OWN_PIECE, game.dissolveRefusal(62));
        Check.outside("23: -1", () -> game.dissolveRefusal(-1));
        Check.outside("23: 64", () -> game.dissolveRefusal(64));
        game.dissolve(1);
        game.dissolve(57);
        Check.is("23: no bond", KnightPairChess.HAS_NO_BOND, game.dissolveRefusal(1));
        Check.is("23: no bond", KnightPairChess.HAS_NO_BOND, game.dissolveRefusal(6));
        KnightPairChess ended = Check.begun("Kh1 kh8 Qg6 Nc3", false);
        Check.is("23: ended", KnightPairChess.NOT_PLAYED, ended.dissolveRefusal(Check.at("c3")));
        Check.is("22: ended", KnightPairChess.NOT_PLAYED, bonding(ended, "c3", "c3"));
    }

    private static void matingMove() {
        Check.is("24: none", KnightPairChess.NONE, new KnightPairChess().matingMove());
        Check.is("24: the smallest from", 64 * 7 + 63, Check.begun("ka8 Kb6 Rh1 Rg2", true).matingMove());
        Check.is("24: the smallest to", 64 * 55 + 48, Check.begun("ka8 Kb6 Qh7", true).matingMove());
        Check.is("24: Black's", 64 * Check.at("h8") + Check.at("h1"), Check.begun("Ka1 kb3 rh8", false).matingMove());
        Check.is("24: a stalemate is none", KnightPairChess.NONE, Check.begun("ka8 Kh1 Qb5", true).matingMove());
        Check.is("24: by a pawn that becomes a queen", 64 * Check.at("g7") + Check.at("g8"),
                Check.begun("kc8 Kc6 Pg7", true).matingMove());
        Check.is("24: from the first square", 56, Check.begun("kh8 Kh6 Ra1", true).matingMove());
        Check.is("24: to the first square", 64 * Check.at("a8"), Check.begun("Kh1 kh3 ra8", false).matingMove());
        Check.is("24: to the last square", 64 * Check.at("h1") + 63, Check.begun("ka8 Ka6 Rh1", true).matingMove());
        Check.is("24: from the last square", 64 * 63 + 7, Check.begun("Ka1 ka3 rh8", false).matingMove());
        KnightPairChess corner = Check.begun("Kc1 kc3 pa2", false);
        Check.is("24: the first square is all that the pawn has", 64 * Check.at("a2"), corner.matingMove());
        Check.is("25: two, from the pawn, too", Check.answersToAll(corner), corner.countSequences(2));
        Check.is("24: during a set-up", KnightPairChess.NONE, Check.placed("ka8 Kb6 Rh1").matingMove());
        KnightPairChess knights = Check.begun(SMOTHERED, true);
        Check.is("24: by a knight", 64 * Check.at("g5") + Check.at("f7"), knights.matingMove());
        knights.bond(Check.at("g5"), Check.at("f1"));
        Check.moved(knights, "a7a6");
        Check.is("24: too far for the bonded knight", KnightPairChess.NONE, knights.matingMove());
        KnightPairChess free = Check.begun("Ka1 Ng5 kh8 rg8 pg7 ph7 na8 nb6", true);
        Check.is("24: knights that could be bonded do not help", 64 * Check.at("g5") + Check.at("f7"),
                free.matingMove());
        Check.moved(free, "g5f7");
        Check.is("31: checkmate", KnightPairChess.CHECKMATE, free.outcome());
        KnightPairChess black = Check.begun("Ka1 Ng5 kh8 rg8 pg7 ph7", false);
        Check.is("24: White's mating move is not Black's", KnightPairChess.NONE, black.matingMove());
        bondedDefender();
        KnightPairChess over = Check.begun("Ka1 kh8", true);
        Check.is("24: ended", KnightPairChess.NONE, over.matingMove());
    }

    /** A knight that must stay near its mate cannot capture the one that gives check. */
    private static void bondedDefender() {
        KnightPairChess game = Check.begun("Kh1 Ng5 kh8 rg8 pg7 ph7 nd8 nb3 pa7", false);
        Check.moved(game, "a7a6");
        Check.is("24: a knight can capture the mating one", KnightPairChess.NONE, game.matingMove());
        game.takeBack();
        game.bond(Check.at("d8"), Check.at("b3"));
        Check.is("24: not so when bonded", 64 * Check.at("g5") + Check.at("f7"), game.matingMove());
        Check.moved(game, "g5f7");
        Check.is("31: checkmate", KnightPairChess.CHECKMATE, game.outcome());
    }

    private static void countSequences() {
        KnightPairChess game = new KnightPairChess();
        Check.is("25: one", 10, game.countSequences(1));
        Check.is("25: two", 100, game.countSequences(2));
        Check.badArgument("25: 0", () -> game.countSequences(0));
        Check.badArgument("25: 3", () -> game.countSequences(3));
        Check.badArgument("25: -1", () -> game.countSequences(-1));
        Check.badArgument("25: far", () -> game.countSequences(Integer.MAX_VALUE));
        KnightPairChess kings = Check.begun("Ka1 kh8", true);
        Check.is("25: bare kings do not matter", 3, kings.countSequences(1));
        Check.is("25: bare kings do not matter", 9, kings.countSequences(2));
        KnightPairChess setup = Check.placed("Ka1 kh8 Qb2");
        Check.is("25: during a set-up", 0, setup.countSequences(1));
        Check.is("25: during a set-up", 0, setup.countSequences(2));
        Check.badArgument("25: 3 during a set-up", () -> setup.countSequences(3));
        KnightPairChess mated = Check.begun("kh8 Kh6 Ra8", false);
        Check.is("25: checkmate", 0, mated.countSequences(1));
        Check.is("25: checkmate", 0, mated.countSequences(2));
        KnightPairChess stale = Check.begun("ka8 Qb6 Kh1", false);
        Check.is("25: stalemate", 0, stale.countSequences(1));
        Check.is("25: stalemate", 0, stale.countSequences(2));
        KnightPairChess bare = Check.begun("Ka1 qb2 kh8", true);
        Check.is("25: the only move leaves bare kings", 1, bare.countSequences(1));
        Check.is("25: and Black goes on", 3, bare.countSequences(2));
        Check.is("25: in a game", Check.answersToAll(knights()), knights().countSequences(2));
        KnightPairChess corner = Check.begun("Ka2 kh8 rb8", true);
        Check.is("19: to the first square", Check.squares("a1 a3"), corner.legalMoves(Check.at("a2")));
        Check.is("25: two", Check.begun("Ka1 kh8 rb8", false).legalMoveCount()
                + Check.begun("Ka3 kh8 rb8", false).legalMoveCount(), corner.countSequences(2));
        KnightPairChess again = Check.moved(new KnightPairChess(), "b1c3 b8c6 c3b1 c6b8 b1c3 b8c6 c3b1 c6b8");
        Check.is("25: after a repetition", KnightPairChess.REPETITION, again.outcome());
        Check.is("25: it does not matter", 10, again.countSequences(1));
        Check.is("25: it does not matter", 100, again.countSequences(2));
    }

    private static KnightPairChess knights() {
        return Check.moved(new KnightPairChess(), "b1c3 e7e6 g1f3 d8h4");
    }

    private static void nothingChanges() {
        KnightPairChess game = Check.begun(SMOTHERED, true);
        String before = Check.picture(game);
        game.matingMove();
        game.countSequences(2);
        game.countSequences(1);
        game.legalMoveCount();
        game.moveRefusal(Check.at("g5"), Check.at("f7"));
        game.bondRefusal(Check.at("g5"), Check.at("f1"));
        Check.same("19 to 25: asking changes nothing", before, Check.picture(game));
    }
}
