/** Promises 35 to 37: the strengths of the sides. */
final class StrengthsTest {
    public static void main(String[] args) {
        strengthOf();
        strengthBits();
        balance();
        Check.finish();
    }

    private static void strengthOf() {
        KnightPairChess game = new KnightPairChess();
        Check.same("35: new", 43.70000076293945, (double) game.strengthOf(true));
        Check.same("35: new, Black", 43.70000076293945, (double) game.strengthOf(false));
        Check.same("35: a king", 0.0f + 0.1f * 3.0f, Check.placed("Ka1").strengthOf(true));
        Check.same("35: nothing", 0.0f, Check.placed("Ka1").strengthOf(false));
        Check.same("35: a queen", 9.5f + 0.1f * 21.0f, Check.placed("Qa1").strengthOf(true));
        Check.same("35: a rook", 5.0f + 0.1f * 14.0f, Check.placed("ra1").strengthOf(false));
        Check.same("35: a bishop", 3.3f + 0.1f * 7.0f, Check.placed("Ba1").strengthOf(true));
        Check.same("35: a knight", 3.2f + 0.1f * 2.0f, Check.placed("Na1").strengthOf(true));
        Check.same("35: a pawn", 1.0f + 0.1f * 1.0f, Check.placed("Pa2").strengthOf(true));
        bonded();
        order();
    }

    private static void bonded() {
        KnightPairChess game = Check.begun("Ka1 Ng1 Nh3 kh8", true);
        long attacked = Check.squares("a2 b1 b2 e2 f3 h3 f2 f4 g5 g1");
        Check.is("35: attacked squares", attacked, game.attackedSquares(true));
        Check.same("35: without a bond", ((0.0f + 0.0f) + 3.2f) + 3.2f + 0.1f * 10.0f, game.strengthOf(true));
        game.bond(Check.at("g1"), Check.at("h3"));
        Check.same("35: with a bond", ((0.0f + 0.0f) + 3.7f) + 3.7f + 0.1f * 10.0f, game.strengthOf(true));
    }

    /** In float arithmetic the order of the sums is to be seen in the answer. */
    private static void order() {
        KnightPairChess game = Check.placed("Bb1 Nc1 Nd1 Be1 Pf2 Ng3 Bh3 Na4 Bb4 Qc4 Nd5 Be5 Nf6 Bg6 Nh7");
        float[] weights = {3.3f, 3.2f, 3.2f, 3.3f, 1.0f, 3.2f, 3.3f, 3.2f, 3.3f, 9.5f, 3.2f, 3.3f, 3.2f, 3.3f, 3.2f};
        float due = 0.0f;
        for (float weight : weights) {
            due = due + weight;
        }
        due = due + 0.1f * (float) Long.bitCount(game.attackedSquares(true));
        Check.same("35: in ascending order", due, game.strengthOf(true));
    }

    private static void strengthBits() {
        Check.is("36: new", 1110363341L, new KnightPairChess().strengthBits(false));
        Check.is("36: nothing", 0, Check.placed("Ka1").strengthBits(false));
        String[] boards = {"Ka1", "Pa2", "Na1", "Ka1 Pa2", "Qa1", "Qa1 Qb2 Qc3 Rd4 Re5 Nf6", "Ke4", "pa2", "Pa2 Pc3"};
        for (String board : boards) {
            KnightPairChess game = Check.placed(board);
            Check.is("36: " + board, Float.floatToIntBits(game.strengthOf(true)), game.strengthBits(true));
            Check.is("36: " + board, Float.floatToIntBits(game.strengthOf(false)), game.strengthBits(false));
        }
        KnightPairChess crowd = new KnightPairChess();
        crowd.beginSetup();
        for (int square = 0; square < 64; square++) {
            crowd.place(square, KnightPairChess.QUEEN, true);
            Check.is("36: queens", Float.floatToIntBits(crowd.strengthOf(true)), crowd.strengthBits(true));
        }
    }

    private static void balance() {
        Check.same("37: new", 0.0, new KnightPairChess().balance());
        KnightPairChess white = Check.placed("Qa1 nh8");
        double due = (double) (9.5f + 0.1f * 21.0f) - (double) (3.2f + 0.1f * 2.0f);
        Check.same("37: White's minus Black's", due, white.balance());
        KnightPairChess black = Check.placed("Na1 qh8");
        Check.same("37: the other way round", -due, Check.placed("qa1 Nh8").balance());
        Check.same("37: in double arithmetic", (double) black.strengthOf(true) - (double) black.strengthOf(false),
                black.balance());
        KnightPairChess fine = Check.placed("Pa2 bh8");
        Check.same("37: not rounded to float", (double) 1.1f - (double) (3.3f + 0.1f * 7.0f), fine.balance());
        KnightPairChess game = new KnightPairChess();
        game.move(1, 18);
        Check.same("37: in a game", (double) game.strengthOf(true) - (double) game.strengthOf(false), game.balance());
        Check.yes("37: White reaches more", game.balance() > 0.0);
    }
}
