import java.util.Random;

/** Many calls with any arguments on one object: each answers, or throws as its face says, beyond 512 calls, too. */
final class LongRunTest {
    private static final String ALLOWED = " throws.IndexOutOfBoundsException throws.IllegalArgumentException"
            + " throws.IllegalStateException throws.NoSuchElementException ";

    public static void main(String[] args) {
        for (int seed = 0; seed < 40; seed++) {
            anyCalls(seed);
        }
        manyActions();
        Check.finish();
    }

    private static int any(Random chance) {
        int[] odd = {-1, 64, Integer.MIN_VALUE, Integer.MAX_VALUE, 1 << 16, -64};
        return chance.nextInt(12) == 0 ? odd[chance.nextInt(odd.length)] : chance.nextInt(64);
    }

    private static void anyCalls(int seed) {
        Random chance = new Random(seed);
        KnightPairChess game = new KnightPairChess();
        for (int call = 0; call < 3000; call++) {
            int one = any(chance);
            int other = any(chance);
            int kind = chance.nextInt(9) - 1;
            boolean white = chance.nextBoolean();
            int which = chance.nextInt(400);
            if (which == 0) {
                game.beginSetup();
                continue;
            }
            Object told = Check.told(() -> called(game, which % 25, one, other, kind, white));
            boolean thrown = told instanceof String;
            Check.yes("call " + which + " told " + told, !thrown || ALLOWED.contains(" " + told + " "));
        }
    }

    private static Object called(KnightPairChess game, int which, int one, int other, int kind, boolean white) {
        switch (which) {
            case 0: return game.place(one, kind, white);
            case 1: return game.remove(one);
            case 2: return game.endSetup(white);
            case 3: return game.pieceAt(one);
            case 4: return game.isWhite(one);
            case 5: return game.kingSquare(white);
            case 6: return game.bondOf(one);
            case 7: return game.longestBond(white);
            case 8: return game.knightDistance(one, other);
            case 9: return game.attackers(one, white);
            case 10: return game.legalMoves(one);
            case 11: return game.moveRefusal(one, other);
            case 12: return game.bondRefusal(one, other);
            case 13: return game.dissolveRefusal(one);
            case 14: return game.matingMove();
            case 15: return game.countSequences(kind);
            case 16: return game.move(one, other);
            case 17: return game.bond(one, other);
            case 18: return game.dissolve(one);
            case 19: return game.capturedCount(kind, white);
            case 20: return game.strengthBits(white);
            case 21: return game.place(one, kind, white);
            case 22: return firstMove(game, one);
            default: return game.takeBack();
        }
    }

    private static Object firstMove(KnightPairChess game, int offset) {
        for (int step = 0; step < 64; step++) {
            int from = Math.floorMod(step + offset, 64);
            long targets = game.legalMoves(from);
            if (targets != 0) {
                return game.move(from, Long.numberOfTrailingZeros(targets));
            }
        }
        return 0;
    }

    /** As many actions as an object has calls: rounds of a rook, and a pawn's step before forty of them are quiet. */
    private static void manyActions() {
        String[] round = "b2 b3 b4 b5 b6 c6 c5 c4 c3 d3 d4 d5 d6 e6 e5 e4 e3 e2 b2".split(" ");
        KnightPairChess game = Check.begun("Ka1 Rb2 Pf2 Pf3 Pg2 Pg3 Ph2 Ph3 kh8", true);
        String before = Check.picture(game);
        int refused = 0;
        for (String pawn : "f3 f4 f5 g3 g4 g5 h3 h4 h5 f2 f3 f4 g2 g3 g4 h2 h3 h4".split(" ")) {
            for (int step = 0; step + 1 < round.length; step++) {
                refused += refused(game, Check.at(round[step]), Check.at(round[step + 1]));
                refused += moveBlackKing(game);
            }
            refused += refused(game, Check.at(pawn), Check.at(pawn) + 8);
            refused += moveBlackKing(game);
        }
        Check.yes("as many actions as calls", game.actionCount() >= 512);
        Check.is("none of the actions was refused before", 18 * 38 - game.actionCount(), refused);
        for (int left = game.actionCount() - 1; left >= 0; left--) {
            Check.is("29: left", left, game.takeBack());
        }
        Check.same("29: back at the beginning", before, Check.picture(game));
    }

    private static int refused(KnightPairChess game, int from, int to) {
        Object told = Check.told(() -> game.move(from, to));
        if (told instanceof String) {
            Check.same("beyond the calls of an object", "throws.IllegalStateException", told);
            Check.yes("not before", game.actionCount() >= 512);
            return 1;
        }
        return 0;
    }

    private static int moveBlackKing(KnightPairChess game) {
        int king = game.kingSquare(false);
        return refused(game, king, king == 63 ? 62 : 63);
    }
}
