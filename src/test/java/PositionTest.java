import java.util.Arrays;

/** Promises 7 to 18: what stands on the board, the bonds, and the attacks. */
final class PositionTest {
    public static void main(String[] args) {
        whiteToAct();
        pieceAt();
        isWhite();
        piecesOf();
        kingSquare();
        bondOf();
        bondCount();
        longestBond();
        knightDistance();
        attackers();
        attackersOfPawns();
        attackedSquares();
        isInCheck();
        Check.finish();
    }

    private static void whiteToAct() {
        KnightPairChess game = new KnightPairChess();
        Check.yes("7: new", game.whiteToAct());
        game.move(8, 16);
        Check.no("7: after a move", game.whiteToAct());
        game.dissolve(57);
        Check.yes("7: after a dissolving", game.whiteToAct());
        game.move(16, 24);
        game.bond(57, 62);
        Check.yes("7: after a bonding", game.whiteToAct());
        game.takeBack();
        Check.no("7: after a taking back", game.whiteToAct());
        Check.badState("7: a refused move", () -> game.move(0, 0));
        Check.no("7: changes nothing", game.whiteToAct());
        game.beginSetup();
        Check.yes("7: during a set-up", game.whiteToAct());
    }

    private static void pieceAt() {
        KnightPairChess game = Check.begun("Ka1 kh8 Qb2 rc3 Bd4 ne5 Pf6", true);
        int[] due = {1, 1, 2, 3, 4, 5, 6};
        String[] names = {"a1", "h8", "b2", "c3", "d4", "e5", "f6"};
        for (int piece = 0; piece < due.length; piece++) {
            Check.is("8: " + names[piece], due[piece], game.pieceAt(Check.at(names[piece])));
        }
        Check.is("8: an empty square", KnightPairChess.EMPTY, game.pieceAt(1));
        Check.outside("8: -1", () -> game.pieceAt(-1));
        Check.outside("8: 64", () -> game.pieceAt(64));
        Check.outside("8: far", () -> game.pieceAt(Integer.MAX_VALUE));
    }

    private static void isWhite() {
        KnightPairChess game = new KnightPairChess();
        Check.yes("9: white", game.isWhite(15));
        Check.no("9: black", game.isWhite(48));
        Check.noElement("9: empty", () -> game.isWhite(16));
        Check.noElement("9: empty", () -> game.isWhite(47));
        Check.outside("9: -1", () -> game.isWhite(-1));
        Check.outside("9: 64", () -> game.isWhite(64));
        game.beginSetup();
        Check.noElement("9: empty in a set-up", () -> game.isWhite(0));
        Check.outside("9: 64 in a set-up", () -> game.isWhite(64));
    }

    private static void piecesOf() {
        KnightPairChess game = new KnightPairChess();
        Check.is("10: White", 65535L, game.piecesOf(true));
        Check.is("10: Black", 65535L << 48, game.piecesOf(false));
        game.move(12, 20);
        Check.is("10: after a move", 65535L - (1L << 12) + (1L << 20), game.piecesOf(true));
        game.takeBack();
        Check.is("10: taken back", 65535L, game.piecesOf(true));
        KnightPairChess small = Check.begun("Ka1 kh8 Ra7 pb7", true);
        small.move(Check.at("a7"), Check.at("b7"));
        Check.is("10: after a capture", Check.squares("a1 b7"), small.piecesOf(true));
        Check.is("10: the captured piece is gone", Check.squares("h8"), small.piecesOf(false));
    }

    private static void kingSquare() {
        KnightPairChess game = new KnightPairChess();
        Check.is("11: White", 4, game.kingSquare(true));
        Check.is("11: Black", 60, game.kingSquare(false));
        game.beginSetup();
        Check.is("11: none", KnightPairChess.NONE, game.kingSquare(true));
        game.place(63, 1, true);
        game.place(0, 1, false);
        Check.is("11: the last square", 63, game.kingSquare(true));
        Check.is("11: the first square", 0, game.kingSquare(false));
        game.place(20, 2, true);
        game.endSetup(true);
        game.move(63, 62);
        Check.is("11: moved", 62, game.kingSquare(true));
    }

    private static void bondOf() {
        KnightPairChess game = new KnightPairChess();
        Check.is("12: no knight", KnightPairChess.NONE, game.bondOf(0));
        Check.is("12: empty", KnightPairChess.NONE, game.bondOf(30));
        Check.is("12: White", 6, game.bondOf(1));
        Check.is("12: Black", 57, game.bondOf(62));
        game.move(1, 18);
        Check.is("12: the bond goes with the knight", 6, game.bondOf(18));
        Check.is("12: the other end", 18, game.bondOf(6));
        Check.is("12: where it stood", KnightPairChess.NONE, game.bondOf(1));
        game.dissolve(62);
        Check.is("12: dissolved", KnightPairChess.NONE, game.bondOf(62));
        Check.is("12: dissolved", KnightPairChess.NONE, game.bondOf(57));
        Check.outside("12: -1", () -> game.bondOf(-1));
        Check.outside("12: 64", () -> game.bondOf(64));
        captured();
    }

    private static void captured() {
        KnightPairChess game = Check.begun("Ka1 kh8 Nc3 Nd5 nb8 re8 Qg1", true);
        game.bond(Check.at("c3"), Check.at("d5"));
        game.move(Check.at("e8"), Check.at("e1"));
        Check.is("12: bonded", Check.at("d5"), game.bondOf(Check.at("c3")));
        game.takeBack();
        game.move(Check.at("b8"), Check.at("c6"));
        game.move(Check.at("g1"), Check.at("g2"));
        game.move(Check.at("c6"), Check.at("e7"));
        game.move(Check.at("g2"), Check.at("g1"));
        game.move(Check.at("e7"), Check.at("d5"));
        Check.is("12: the bond ends with a capture", KnightPairChess.NONE, game.bondOf(Check.at("c3")));
        Check.is("12: the capturing knight has none", KnightPairChess.NONE, game.bondOf(Check.at("d5")));
        Check.is("13: no bond left", 0, game.bondCount(true));
        game.takeBack();
        Check.is("12: taken back", Check.at("c3"), game.bondOf(Check.at("d5")));
    }

    private static void bondCount() {
        KnightPairChess game = Check.begun("Ka1 kh8 Nc3 Nd5 Ne3 Nf5 nb8 nc6", true);
        Check.is("13: none", 0, game.bondCount(true));
        game.bond(Check.at("c3"), Check.at("d5"));
        Check.is("13: one", 1, game.bondCount(true));
        Check.is("13: none of Black", 0, game.bondCount(false));
        game.bond(Check.at("b8"), Check.at("c6"));
        Check.is("13: one of Black", 1, game.bondCount(false));
        game.bond(Check.at("e3"), Check.at("f5"));
        Check.is("13: two", 2, game.bondCount(true));
        game.dissolve(Check.at("c6"));
        Check.is("13: dissolved", 0, game.bondCount(false));
        game.beginSetup();
        Check.is("13: in a set-up", 0, game.bondCount(true));
        KnightPairChess corners = Check.begun("Kh1 ka8 Na1 Nb3 nh8 ng6", true);
        corners.bond(0, Check.at("b3"));
        corners.bond(Check.at("g6"), 63);
        Check.is("13: with a knight in the first corner", 1, corners.bondCount(true));
        Check.is("13: with a knight in the last corner", 1, corners.bondCount(false));
        Check.is("12: the first corner", Check.at("b3"), corners.bondOf(0));
        Check.is("12: the last corner", Check.at("g6"), corners.bondOf(63));
    }

    private static void longestBond() {
        KnightPairChess game = Check.begun("Ka1 kh8 Nc3 Nd5 Ne3 Ng3 nb8 ne8", true);
        Check.is("14: none", 0, game.longestBond(true));
        game.bond(Check.at("c3"), Check.at("d5"));
        Check.is("14: one", 1, game.longestBond(true));
        Check.is("14: none of Black", 0, game.longestBond(false));
        game.bond(Check.at("b8"), Check.at("e8"));
        Check.is("14: three", 3, game.longestBond(false));
        game.bond(Check.at("e3"), Check.at("g3"));
        Check.is("14: the greatest of two", 2, game.longestBond(true));
        game.dissolve(Check.at("b8"));
        Check.is("14: dissolved", 0, game.longestBond(false));
        game.dissolve(Check.at("e3"));
        Check.is("14: the other is left", 1, game.longestBond(true));
    }

    private static void knightDistance() {
        KnightPairChess game = new KnightPairChess();
        for (int from = 0; from < 64; from++) {
            int[] due = distances(from);
            for (int to = 0; to < 64; to++) {
                Check.is("15: from " + from + " to " + to, due[to], game.knightDistance(from, to));
            }
        }
        Check.is("15: diagonal neighbours", 2, game.knightDistance(9, 18));
        Check.is("15: at a corner", 4, game.knightDistance(0, 9));
        Check.is("15: from corner to corner", 6, game.knightDistance(7, 56));
        Check.outside("15: from -1", () -> game.knightDistance(-1, 0));
        Check.outside("15: from 64", () -> game.knightDistance(64, 0));
        Check.outside("15: to -1", () -> game.knightDistance(0, -1));
        Check.outside("15: to 64", () -> game.knightDistance(0, 64));
    }

    private static int[] distances(int from) {
        int[] far = new int[64];
        Arrays.fill(far, 99);
        far[from] = 0;
        for (int round = 0; round < 7; round++) {
            for (int one = 0; one < 64; one++) {
                for (int other = 0; other < 64; other++) {
                    if (Math.abs(one % 8 - other % 8) * Math.abs(one / 8 - other / 8) == 2) {
                        far[other] = Math.min(far[other], far[one] + 1);
                    }
                }
            }
        }
        return far;
    }

    private static void attackers() {
        KnightPairChess game = Check.begun("Kc3 Qd1 Rh4 Ba7 Nb5 kg8 re8 pe5 ra4", true);
        Check.is("16: all kinds on d4", Check.squares("c3 d1 h4 a7 b5"), game.attackers(Check.at("d4"), true));
        Check.is("16: Black's on d4", Check.squares("e5 a4"), game.attackers(Check.at("d4"), false));
        Check.is("16: a line ends at the first piece", Check.squares("a4"), game.attackers(Check.at("c4"), false)
                & Check.squares("a4 h4"));
        Check.is("16: own pieces are attacked, too", Check.squares("e8"), game.attackers(Check.at("e5"), false));
        Check.is("16: behind a piece", 0, game.attackers(Check.at("e4"), false) & Check.squares("e8"));
        KnightPairChess first = new KnightPairChess();
        Check.is("16: nobody", 0, first.attackers(Check.at("e4"), true));
        Check.is("16: a queen behind a pawn", 0, first.attackers(Check.at("d3"), true) & Check.squares("d1"));
        Check.is("16: a guarded pawn", Check.squares("d1 e1 f1 g1"), first.attackers(Check.at("e2"), true));
        Check.outside("16: -1", () -> first.attackers(-1, true));
        Check.outside("16: 64", () -> first.attackers(64, false));
        KnightPairChess alone = Check.placed("Nb1");
        Check.is("16: in a set-up", Check.squares("b1"), alone.attackers(Check.at("a3"), true));
        Check.is("16: not round the edge", 0, Check.placed("Kh4").attackers(Check.at("a4"), true));
        Check.is("16: not round the edge", 0, Check.placed("Rh4").attackers(Check.at("a5"), true));
        Check.is("16: not round the edge", 0, Check.placed("Bh4").attackers(Check.at("a6"), true));
        Check.is("16: not round the edge", 0, Check.placed("Ng4").attackers(Check.at("a6"), true));
    }

    private static void attackersOfPawns() {
        KnightPairChess game = Check.placed("Pa2 Ph2 pa7 ph7 Pd4 pe5");
        Check.is("16: a white pawn to the right", Check.squares("a2"), game.attackers(Check.at("b3"), true));
        Check.is("16: a white pawn to the left", Check.squares("h2"), game.attackers(Check.at("g3"), true));
        Check.is("16: a black pawn to the right", Check.squares("a7"), game.attackers(Check.at("b6"), false));
        Check.is("16: a black pawn to the left", Check.squares("h7"), game.attackers(Check.at("g6"), false));
        Check.is("16: not ahead", 0, game.attackers(Check.at("a3"), true));
        Check.is("16: not backwards", 0, game.attackers(Check.at("b1"), true));
        Check.is("16: not round the edge", 0, game.attackers(Check.at("h4"), true));
        Check.is("16: a white pawn on a black one", Check.squares("d4"), game.attackers(Check.at("e5"), true));
        Check.is("16: a black pawn on a white one", Check.squares("e5"), game.attackers(Check.at("d4"), false));
    }

    private static void attackedSquares() {
        Check.is("17: new", 16777086L, new KnightPairChess().attackedSquares(true));
        Check.is("17: king in the corner", Check.squares("a2 b1 b2"), Check.placed("Ka1").attackedSquares(true));
        Check.is("17: king in the middle", Check.squares("c3 d3 e3 c4 e4 c5 d5 e5"),
                Check.placed("kd4").attackedSquares(false));
        Check.is("17: rook up to and including a piece", Check.squares("a2 a3 b1 c1 d1"),
                Check.placed("Ra1 na3 kd1").attackedSquares(true));
        Check.is("17: bishop", Check.squares("a1 b2 d4 e5 b4 a5 d2 e1"),
                Check.placed("Bc3 pe5").attackedSquares(true));
        Check.is("17: queen", Check.squares("a7 b8 b7 a6 a5 c8 c6"),
                Check.placed("Qa8 pa5 rc8 kc6").attackedSquares(true));
        Check.is("17: knight", Check.squares("b3 c2"), Check.placed("na1").attackedSquares(false));
        Check.is("17: pawns", Check.squares("b3 g3"), Check.placed("Pa2 Ph2").attackedSquares(true));
        Check.is("17: black pawns", Check.squares("b1 g1 d4 f4"), Check.placed("pa2 ph2 pe5").attackedSquares(false));
        Check.is("17: own pieces are attacked", Check.squares("a1 c1 a2 b2 c2 a3 c3"),
                Check.placed("Kb1 Pb2").attackedSquares(true));
        Check.is("17: nothing", 0, Check.placed("Kb1").attackedSquares(false));
    }

    private static void isInCheck() {
        KnightPairChess game = new KnightPairChess();
        Check.no("18: new, White", game.isInCheck(true));
        Check.no("18: new, Black", game.isInCheck(false));
        Check.no("18: no king", Check.placed("Qa1 ra8").isInCheck(true));
        KnightPairChess checked = Check.begun("Ka1 kh8 ra8", true);
        Check.yes("18: by a rook", checked.isInCheck(true));
        Check.no("18: the other side", checked.isInCheck(false));
        Check.no("18: a piece between", Check.placed("Ka1 Pa2 ra8").isInCheck(true));
        Check.yes("18: by a knight", Check.placed("Ka1 nb3").isInCheck(true));
        Check.yes("18: by a bishop", Check.placed("Ka1 bh8").isInCheck(true));
        Check.yes("18: by a queen", Check.placed("ka1 Qh8").isInCheck(false));
        Check.yes("18: by a black pawn", Check.placed("Ka1 pb2").isInCheck(true));
        Check.no("18: not by a pawn beneath", Check.placed("Ka3 pb2").isInCheck(true));
        Check.yes("18: by a white pawn", Check.placed("kb3 Pa2").isInCheck(false));
        Check.yes("18: by a king", Check.placed("Ka1 kb2").isInCheck(true));
        Check.no("18: not by an own piece", Check.placed("Ka1 Ra8").isInCheck(true));
    }
}
