/** "the first refusal that applies, in this order": positions in which several refusals apply at once. */
final class RefusalOrderTest {
    private static final int NOT_PLAYED = KnightPairChess.NOT_PLAYED;
    private static final int NO_OWN_PIECE = KnightPairChess.NO_OWN_PIECE;
    private static final int CANNOT_MOVE = KnightPairChess.CANNOT_MOVE;
    private static final int CHECK = KnightPairChess.CHECK;
    private static final int TOO_FAR = KnightPairChess.TOO_FAR;
    private static final int HAS_BOND = KnightPairChess.HAS_BOND;
    private static final int HAS_NO_BOND = KnightPairChess.HAS_NO_BOND;

    public static void main(String[] args) {
        notPlayed();
        movesOfNoOwnPiece();
        movesThatCannotBe();
        movesIntoCheck();
        movesTooFar();
        bondsOfNoOwnPiece();
        bondsOfBondedKnights();
        bondsTooFar();
        bondsInCheck();
        dissolvings();
        refusedAreThrown();
        Check.finish();
    }

    private static void move(KnightPairChess game, String move, int due) {
        int from = Check.at(move.substring(0, 2));
        int to = Check.at(move.substring(2, 4));
        Check.is("21: " + move, due, game.moveRefusal(from, to));
        if (due != 0) {
            Check.badState("26: " + move, () -> game.move(from, to));
        }
    }

    private static void bond(KnightPairChess game, String knights, int due) {
        int one = Check.at(knights.substring(0, 2));
        int other = Check.at(knights.substring(2, 4));
        Check.is("22: " + knights, due, game.bondRefusal(one, other));
        Check.is("22: " + knights + " the other way round", due, game.bondRefusal(other, one));
        if (due != 0) {
            Check.badState("27: " + knights, () -> game.bond(one, other));
            Check.badState("27: " + knights + " the other way round", () -> game.bond(other, one));
        }
    }

    private static void dissolve(KnightPairChess game, String knight, int due) {
        int square = Check.at(knight);
        Check.is("23: " + knight, due, game.dissolveRefusal(square));
        if (due != 0) {
            Check.badState("28: " + knight, () -> game.dissolve(square));
        }
    }

    /** NOT_PLAYED before everything else, during a set-up and after each end. */
    private static void notPlayed() {
        KnightPairChess setup = Check.placed("Ka1 kh8 ra8 Nc3 Ne3 Nh6 nf6");
        for (String move : "d4d5 f6g8 a1a1 a1h7 a1a2 c3e4 c3b5 a1b1".split(" ")) {
            move(setup, move, NOT_PLAYED);
        }
        for (String knights : "c3c3 d4d5 c3f6 c3h6 c3e3 a1h8".split(" ")) {
            bond(setup, knights, NOT_PLAYED);
        }
        for (String knight : "d4 a1 f6 c3".split(" ")) {
            dissolve(setup, knight, NOT_PLAYED);
        }
        for (KnightPairChess game : Games.ended().values()) {
            notPlayedAtAll(game);
        }
        notPlayedAtAll(Games.empty());
        notPlayedAtAll(Games.full());
    }

    private static void notPlayedAtAll(KnightPairChess game) {
        for (int one = 0; one < 64; one++) {
            Check.is("23: NOT_PLAYED", NOT_PLAYED, game.dissolveRefusal(one));
            Check.is("19: not played", 0, game.legalMoves(one));
            for (int other = 0; other < 64; other++) {
                Check.is("21: NOT_PLAYED", NOT_PLAYED, game.moveRefusal(one, other));
                Check.is("22: NOT_PLAYED", NOT_PLAYED, game.bondRefusal(one, other));
            }
        }
    }

    private static void movesOfNoOwnPiece() {
        KnightPairChess game = new KnightPairChess();
        move(game, "e4e5", NO_OWN_PIECE);
        move(game, "e4e4", NO_OWN_PIECE);
        move(game, "e4e2", NO_OWN_PIECE);
        move(game, "a7a6", NO_OWN_PIECE);
        move(game, "a7a2", NO_OWN_PIECE);
        move(game, "h8h8", NO_OWN_PIECE);
        Check.moved(game, "a2a3");
        move(game, "a3a4", NO_OWN_PIECE);
        move(game, "a2a3", NO_OWN_PIECE);
        move(game, "b1c3", NO_OWN_PIECE);
        move(game, "b8c6", 0);
        KnightPairChess checked = Check.begun("Ka1 kh8 ra8", true);
        move(checked, "a8a1", NO_OWN_PIECE);
        move(checked, "b2b3", NO_OWN_PIECE);
        move(checked, "h8h7", NO_OWN_PIECE);
    }

    /** CANNOT_MOVE before CHECK and before TOO_FAR. */
    private static void movesThatCannotBe() {
        KnightPairChess game = Check.begun("Ka1 Na2 ra8 kh8 Rh1 ph7 Nb4", true);
        game.bond(Check.at("a2"), Check.at("b4"));
        Check.moved(game, "h7h6");
        move(game, "a2a2", CANNOT_MOVE);
        move(game, "a2b3", CANNOT_MOVE);
        move(game, "a2b4", CANNOT_MOVE);
        move(game, "a2h8", CANNOT_MOVE);
        move(game, "b4a2", CANNOT_MOVE);
        move(game, "b4b4", CANNOT_MOVE);
        move(game, "a1a2", CANNOT_MOVE);
        move(game, "a1c1", CANNOT_MOVE);
        move(game, "h1h7", CANNOT_MOVE);
        move(game, "h1a1", CANNOT_MOVE);
        move(game, "h1g2", CANNOT_MOVE);
        move(game, "h1h6", 0);
        KnightPairChess checked = Check.begun("Ka1 kh7 ra8 Nc3 Bd4 Pb2 Pg3", true);
        move(checked, "c3c4", CANNOT_MOVE);
        move(checked, "d4d5", CANNOT_MOVE);
        move(checked, "b2a3", CANNOT_MOVE);
        move(checked, "b2c3", CANNOT_MOVE);
        move(checked, "b2b4", CANNOT_MOVE);
        move(checked, "g3g2", CANNOT_MOVE);
        move(checked, "g3g5", CANNOT_MOVE);
        KnightPairChess bonded = Check.moved(new KnightPairChess(), "a2a3 a7a6");
        move(bonded, "b1a3", CANNOT_MOVE);
        move(bonded, "b1d2", CANNOT_MOVE);
        move(bonded, "b1b8", CANNOT_MOVE);
        move(bonded, "g1h3", TOO_FAR);
    }

    /** CHECK before TOO_FAR; the side in check, and the side that would be. */
    private static void movesIntoCheck() {
        KnightPairChess pinned = Check.begun("Ka1 Na2 Ne3 ra8 kh8 pg7", true);
        move(pinned, "a2c1", CHECK);
        pinned.bond(Check.at("a2"), Check.at("e3"));
        Check.moved(pinned, "g7g6");
        move(pinned, "a2c1", CHECK);
        move(pinned, "a2b4", CHECK);
        move(pinned, "e3g4", TOO_FAR);
        move(pinned, "e3c4", TOO_FAR);
        move(pinned, "e3c2", 0);
        Check.is("19: pinned", 0, pinned.legalMoves(Check.at("a2")));
        KnightPairChess checked = Check.begun("Ka1 Nc3 Ne3 rb8 kh8 pg7", true);
        checked.bond(Check.at("c3"), Check.at("e3"));
        Check.moved(checked, "b8a8");
        move(checked, "c3d5", CHECK);
        move(checked, "c3a4", 0);
        move(checked, "e3g4", CHECK);
        move(checked, "a1a2", CHECK);
        move(checked, "a1b2", 0);
        KnightPairChess far = Check.begun("Kh1 Nd4 Ng4 ra8 kb7 pg7", true);
        far.bond(Check.at("d4"), Check.at("g4"));
        Check.moved(far, "a8h8");
        move(far, "d4b5", CHECK);
        move(far, "d4e6", CHECK);
        move(far, "d4f5", CHECK);
        move(far, "g4h2", 0);
        move(far, "g4h6", 0);
        move(far, "g4f2", CHECK);
        KnightPairChess beside = Check.begun("Kd4 kd6 Rd1", false);
        move(beside, "d6d5", CHECK);
        move(beside, "d6c5", CHECK);
        move(beside, "d6c6", 0);
        KnightPairChess captures = Check.begun("Ka1 qb2 kc2 Na4", true);
        move(captures, "a1b2", CHECK);
        move(captures, "a4b2", 0);
        KnightPairChess two = Check.begun("Ka1 ra8 bh8 kg8 Nc6", true);
        move(two, "c6e5", CHECK);
        move(two, "c6a7", CHECK);
        move(two, "a1a2", CHECK);
        move(two, "a1b2", CHECK);
        move(two, "a1b1", 0);
    }

    private static void movesTooFar() {
        KnightPairChess game = new KnightPairChess();
        move(game, "b1a3", TOO_FAR);
        move(game, "g1h3", TOO_FAR);
        move(game, "b1c3", 0);
        move(game, "g1f3", 0);
        Check.is("15: from a3 to g1", 4, game.knightDistance(Check.at("a3"), Check.at("g1")));
        game.dissolve(Check.at("b1"));
        Check.moved(game, "a7a6");
        move(game, "b1a3", 0);
        move(game, "g1h3", 0);
        KnightPairChess captures = Check.begun("Ka1 Nd4 Ng4 kh8 pb5 pc6 pg7", true);
        move(captures, "d4b5", 0);
        captures.bond(Check.at("d4"), Check.at("g4"));
        Check.moved(captures, "g7g6");
        move(captures, "d4b5", TOO_FAR);
        move(captures, "d4e6", TOO_FAR);
        move(captures, "d4e2", TOO_FAR);
        move(captures, "d4c6", 0);
        move(captures, "d4f5", 0);
        move(captures, "d4c2", 0);
    }

    /** NO_OWN_PIECE before HAS_BOND, TOO_FAR and CHECK. */
    private static void bondsOfNoOwnPiece() {
        KnightPairChess game = new KnightPairChess();
        bond(game, "b1b1", NO_OWN_PIECE);
        bond(game, "b1a1", NO_OWN_PIECE);
        bond(game, "b1e4", NO_OWN_PIECE);
        bond(game, "b1b8", NO_OWN_PIECE);
        bond(game, "b8g8", NO_OWN_PIECE);
        bond(game, "a1h8", NO_OWN_PIECE);
        bond(game, "e4e4", NO_OWN_PIECE);
        bond(game, "e4d4", NO_OWN_PIECE);
        KnightPairChess loose = Check.begun("Ka1 kh8 Nc3 Ne3 nf6 Qd5 Pb2", true);
        bond(loose, "c3c3", NO_OWN_PIECE);
        bond(loose, "c3h8", NO_OWN_PIECE);
        bond(loose, "c3f6", NO_OWN_PIECE);
        bond(loose, "c3d5", NO_OWN_PIECE);
        bond(loose, "c3b2", NO_OWN_PIECE);
        bond(loose, "e3a1", NO_OWN_PIECE);
        bond(loose, "c3e3", 0);
        KnightPairChess checked = Check.begun("Ka1 kh8 ra8 Nc3 Ne3", true);
        bond(checked, "c3c3", NO_OWN_PIECE);
        bond(checked, "c3e4", NO_OWN_PIECE);
        bond(checked, "a8a1", NO_OWN_PIECE);
    }

    /** HAS_BOND before TOO_FAR and CHECK, whichever of the two has a bond. */
    private static void bondsOfBondedKnights() {
        KnightPairChess bonded = Check.begun("Ka1 Nc3 Ne3 Nd5 Ng5 Nh8 kd7 rb8", true);
        bonded.bond(Check.at("c3"), Check.at("e3"));
        Check.moved(bonded, "d7d6");
        bond(bonded, "c3e3", HAS_BOND);
        bond(bonded, "c3d5", HAS_BOND);
        bond(bonded, "c3h8", HAS_BOND);
        bond(bonded, "e3h8", HAS_BOND);
        bond(bonded, "d5g5", 0);
        bonded.bond(Check.at("d5"), Check.at("g5"));
        Check.moved(bonded, "b8a8");
        Check.yes("18: in check", bonded.isInCheck(true));
        bond(bonded, "c3e3", HAS_BOND);
        bond(bonded, "c3d5", HAS_BOND);
        bond(bonded, "c3h8", HAS_BOND);
        bond(bonded, "g5h8", HAS_BOND);
    }

    /** TOO_FAR before CHECK. */
    private static void bondsTooFar() {
        KnightPairChess game = Check.begun("Kh1 kh8 Na1 Nb2 Nd4 Ng7 ra8", true);
        bond(game, "a1b2", TOO_FAR);
        bond(game, "a1g7", TOO_FAR);
        bond(game, "a1d4", 0);
        KnightPairChess checked = Check.begun("Kh1 kg8 Na1 Nb2 Nd4 rh8", true);
        Check.yes("18: in check", checked.isInCheck(true));
        bond(checked, "a1b2", TOO_FAR);
        bond(checked, "a1d4", CHECK);
        bond(checked, "b2d4", TOO_FAR);
    }

    private static void bondsInCheck() {
        for (String check : "ra8 qh8 nb3 pb2 bd4".split(" ")) {
            KnightPairChess game = Check.begun("Ka1 kg6 Ng1 Nh3 " + check, true);
            Check.yes("18: in check by " + check, game.isInCheck(true));
            bond(game, "g1h3", CHECK);
        }
        KnightPairChess black = Check.begun("Ka1 kh8 nc6 ne6 Rh1", false);
        bond(black, "c6e6", CHECK);
        Check.moved(black, "h8g8 h1g1");
        bond(black, "c6e6", CHECK);
        Check.moved(black, "g8h8 g1f1");
        bond(black, "c6e6", 0);
    }

    /** NO_OWN_PIECE before HAS_NO_BOND before CHECK. */
    private static void dissolvings() {
        KnightPairChess game = new KnightPairChess();
        for (String square : "a1 d1 e1 e2 e4 a8 b8 g8 e7".split(" ")) {
            dissolve(game, square, NO_OWN_PIECE);
        }
        dissolve(game, "b1", 0);
        dissolve(game, "g1", 0);
        KnightPairChess checked = Check.begun("Ka1 Nc3 Ne3 Nd5 rb8 kh8 nf6", true);
        dissolve(checked, "c3", HAS_NO_BOND);
        checked.bond(Check.at("c3"), Check.at("e3"));
        Check.moved(checked, "b8a8");
        dissolve(checked, "a8", NO_OWN_PIECE);
        dissolve(checked, "a1", NO_OWN_PIECE);
        dissolve(checked, "f6", NO_OWN_PIECE);
        dissolve(checked, "b4", NO_OWN_PIECE);
        dissolve(checked, "d5", HAS_NO_BOND);
        dissolve(checked, "c3", CHECK);
        dissolve(checked, "e3", CHECK);
        Check.moved(checked, "a1b2 h8h7");
        dissolve(checked, "c3", 0);
        dissolve(checked, "e3", 0);
        Check.moved(checked, "b2b1 f6d5 e3d5 h7h8");
        dissolve(checked, "c3", 0);
        dissolve(checked, "e3", NO_OWN_PIECE);
    }

    /** "Throws IllegalStateException if moveRefusal is not 0", and only then; so for the others. */
    private static void refusedAreThrown() {
        for (KnightPairChess game : Games.all().values()) {
            String before = Check.picture(game);
            int legal = 0;
            for (int one = 0; one < 64; one++) {
                int count = 0;
                for (int other = 0; other < 64; other++) {
                    count += acted(game, one, other);
                }
                legal += count;
                Check.is("19: as many targets", count, Long.bitCount(game.legalMoves(one)));
            }
            Check.is("20: as many moves", legal, game.legalMoveCount());
            Check.same("21 to 29: nothing was changed", before, Check.picture(game));
        }
    }

    private static int acted(KnightPairChess game, int one, int other) {
        Object refused = "throws.IllegalStateException";
        if (game.bondRefusal(one, other) == 0) {
            Check.same("27: its answer", game.knightDistance(one, other), Check.told(() -> game.bond(one, other)));
            game.takeBack();
        } else {
            Check.same("27: refused", refused, Check.told(() -> game.bond(one, other)));
        }
        if (one == other && game.dissolveRefusal(one) == 0) {
            Check.same("28: its answer", game.bondOf(one), Check.told(() -> game.dissolve(one)));
            game.takeBack();
        } else if (one == other) {
            Check.same("28: refused", refused, Check.told(() -> game.dissolve(one)));
        }
        boolean isTarget = (game.legalMoves(one) >>> other & 1) != 0;
        Check.same("19: the same as moveRefusal", isTarget, game.moveRefusal(one, other) == 0);
        if (!isTarget) {
            Check.same("26: refused", refused, Check.told(() -> game.move(one, other)));
            return 0;
        }
        Check.same("26: its answer", game.pieceAt(other), Check.told(() -> game.move(one, other)));
        game.takeBack();
        return 1;
    }
}
