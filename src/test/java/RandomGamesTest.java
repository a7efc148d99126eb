import java.util.ArrayList;
import java.util.List;
import java.util.Random;

/** Plays games of chance with the program and with the naive game, and compares all that they tell. */
final class RandomGamesTest {
    private static final int KING = 1;
    private static final int KNIGHT = 5;
    private static final int PAWN = 6;
    private static final int MOST_CALLS_THAT_ACT = 400;

    private final Random chance;
    private final String name;
    private final KnightPairChess game = new KnightPairChess();
    private final NaiveGame naive = new NaiveGame();
    private final int[] lastFrom = {-1, -1};
    private final int[] lastTo = {-1, -1};
    private final boolean shuffling;
    /** The files and ranks on which pieces are placed: a few of them fill the corner. */
    private int width = 8;

    private static final int[] outcomes = new int[6];
    private static final int[] refusals = new int[8];
    private static int mates = 0;
    private static int promotions = 0;
    private static int bondsCaptured = 0;

    private RandomGamesTest(String name, long seed, boolean shuffling) {
        this.name = name + " " + seed;
        this.shuffling = shuffling;
        chance = new Random(seed);
    }

    public static void main(String[] args) {
        for (int seed = 0; seed < 12; seed++) {
            new RandomGamesTest("usual", seed, seed % 3 == 0).play(120);
        }
        for (int seed = 0; seed < 60; seed++) {
            RandomGamesTest test = new RandomGamesTest("few pieces", 1000 + seed, seed % 2 == 0);
            test.setUp("QRRNNPB");
            test.play(60);
        }
        for (int seed = 0; seed < 40; seed++) {
            RandomGamesTest test = new RandomGamesTest("knights", 2000 + seed, seed % 2 == 0);
            test.setUp("NNNNNNP");
            test.play(70);
        }
        for (int seed = 0; seed < 60; seed++) {
            RandomGamesTest test = new RandomGamesTest("mates", 3000 + seed, false);
            test.setUp("QRQR");
            test.play(20);
        }
        for (int seed = 0; seed < 40; seed++) {
            RandomGamesTest test = new RandomGamesTest("pawns", 4000 + seed, false);
            test.setUp("PPPPN");
            test.play(50);
        }
        for (int seed = 0; seed < 20; seed++) {
            RandomGamesTest test = new RandomGamesTest("quiet", 5000 + seed, false);
            test.setUp("NNR");
            test.play(90);
        }
        for (int seed = 0; seed < 6; seed++) {
            RandomGamesTest test = new RandomGamesTest("crowd", 6000 + seed, false);
            test.setUpMany(40 + seed);
            test.play(6);
        }
        for (int seed = 0; seed < 30; seed++) {
            RandomGamesTest test = new RandomGamesTest("again and again", 7000 + seed, true);
            test.width = 4;
            for (int game = 0; game < 4; game++) {
                test.setUp("NNNNRP");
                test.play(25);
            }
        }
        seeThatAllWasMet();
        Check.finish();
    }

    /** A game of chance proves nothing about what never came up in it. */
    private static void seeThatAllWasMet() {
        for (int outcome = 0; outcome < 6; outcome++) {
            Check.yes("outcome " + outcome + " came up " + outcomes[outcome], outcomes[outcome] >= 3);
        }
        for (int refusal = 0; refusal < 8; refusal++) {
            Check.yes("refusal " + refusal + " came up " + refusals[refusal], refusals[refusal] >= 50);
        }
        Check.yes("mating moves came up " + mates, mates >= 20);
        Check.yes("promotions came up " + promotions, promotions >= 10);
        Check.yes("captures of bonded knights came up " + bondsCaptured, bondsCaptured >= 10);
    }

    // ---- Set-ups

    private void setUp(String kinds) {
        do {
            clearBoard();
            tryPlacing(KING, true);
            tryPlacing(KING, false);
            int pieces = 1 + chance.nextInt(kinds.length());
            for (int piece = 0; piece < pieces; piece++) {
                char letter = kinds.charAt(chance.nextInt(kinds.length()));
                tryPlacing("KQRBNP".indexOf(letter) + 1, chance.nextBoolean());
            }
        } while (!ended());
    }

    private void setUpMany(int pieces) {
        do {
            clearBoard();
            tryPlacing(KING, true);
            tryPlacing(KING, false);
            for (int piece = 0; piece < pieces; piece++) {
                tryPlacing(2 + chance.nextInt(5), chance.nextBoolean());
            }
        } while (!ended());
    }

    private void clearBoard() {
        game.beginSetup();
        naive.beginSetup();
    }

    private void tryPlacing(int kind, boolean white) {
        int square = width == 8 ? chance.nextInt(66) - 1 : chance.nextInt(width) + 8 * chance.nextInt(width);
        Check.same(name + " place", Check.told(() -> naive.place(square, kind, white)),
                Check.told(() -> game.place(square, kind, white)));
        if (chance.nextInt(8) == 0) {
            int other = chance.nextInt(64);
            Check.same(name + " remove", Check.told(() -> naive.remove(other)), Check.told(() -> game.remove(other)));
        }
    }

    private boolean ended() {
        compareAll();
        boolean white = chance.nextBoolean();
        Object due = Check.told(() -> naive.endSetup(white));
        Check.same(name + " endSetup", due, Check.told(() -> game.endSetup(white)));
        return due instanceof Integer;
    }

    // ---- Play

    private void play(int actions) {
        compareAll();
        for (int action = 0; action < actions && naive.actionCount() < MOST_CALLS_THAT_ACT; action++) {
            int before = naive.outcome();
            act();
            outcomes[naive.outcome()]++;
            compareAll();
            if (before != 0 && naive.outcome() != 0) {
                return;
            }
        }
    }

    private void act() {
        if (naive.outcome() != 0 || chance.nextInt(25) == 0) {
            takeBackSome();
        }
        if (chance.nextInt(5) == 0) {
            tryAnything();
        } else if (chance.nextInt(6) != 0 || !actOnBonds()) {
            makeLegalMove();
        }
    }

    private void takeBackSome() {
        int times = 1 + chance.nextInt(4);
        for (int time = 0; time < times; time++) {
            Check.same(name + " takeBack", Check.told(naive::takeBack), Check.told(game::takeBack));
            compareAll();
        }
    }

    private void tryAnything() {
        int one = chance.nextInt(66) - 1;
        int other = chance.nextInt(66) - 1;
        switch (chance.nextInt(5)) {
            case 0 -> compare("move", () -> naive.move(one, other), () -> game.move(one, other));
            case 1 -> compare("bond", () -> naive.bond(one, other), () -> game.bond(one, other));
            case 2 -> compare("dissolve", () -> naive.dissolve(one), () -> game.dissolve(one));
            case 3 -> compare("place", () -> naive.place(one, 5, true), () -> game.place(one, 5, true));
            default -> compare("remove", () -> naive.remove(one), () -> game.remove(one));
        }
    }

    private void compare(String what, Check.Call due, Check.Call call) {
        Check.same(name + " " + what, Check.told(due), Check.told(call));
    }

    private boolean actOnBonds() {
        List<Integer> knights = new ArrayList<>();
        for (int square = 0; square < 64; square++) {
            if (naive.pieceAt(square) == KNIGHT && naive.isWhite(square) == naive.whiteToAct()) {
                knights.add(square);
            }
        }
        if (knights.isEmpty()) {
            return false;
        }
        int one = knights.get(chance.nextInt(knights.size()));
        int other = knights.get(chance.nextInt(knights.size()));
        if (naive.bondOf(one) != -1 && chance.nextInt(3) == 0) {
            compare("dissolve", () -> naive.dissolve(one), () -> game.dissolve(one));
        } else {
            compare("bond", () -> naive.bond(one, other), () -> game.bond(one, other));
        }
        return true;
    }

    private void makeLegalMove() {
        List<int[]> moves = new ArrayList<>();
        for (int from = 0; from < 64; from++) {
            long targets = naive.legalMoves(from);
            for (int to = 0; to < 64; to++) {
                if ((targets >>> to & 1) != 0) {
                    moves.add(new int[] {from, to});
                }
            }
        }
        if (moves.isEmpty()) {
            return;
        }
        int[] move = chosen(moves);
        int side = naive.whiteToAct() ? 0 : 1;
        lastFrom[side] = move[0];
        lastTo[side] = move[1];
        if (naive.pieceAt(move[0]) == PAWN && (move[1] < 8 || move[1] > 55)) {
            promotions++;
        }
        if (naive.bondOf(move[1]) != -1) {
            bondsCaptured++;
        }
        compare("move", () -> naive.move(move[0], move[1]), () -> game.move(move[0], move[1]));
    }

    /** Often a capture, sometimes the mating move, and the way back where the game is to go in circles. */
    private int[] chosen(List<int[]> moves) {
        int side = naive.whiteToAct() ? 0 : 1;
        int mating = chance.nextInt(4) == 0 ? naive.matingMove() : -1;
        boolean greedy = chance.nextInt(5) == 0;
        for (int[] move : moves) {
            boolean back = shuffling && move[0] == lastTo[side] && move[1] == lastFrom[side];
            boolean captures = greedy && naive.pieceAt(move[1]) != 0;
            if (64 * move[0] + move[1] == mating || captures || back && chance.nextInt(8) != 0) {
                return move;
            }
        }
        return moves.get(chance.nextInt(moves.size()));
    }

    // ---- Comparing

    private void compareAll() {
        for (int square = 0; square < 64; square++) {
            compareSquare(square);
        }
        compareSides(true);
        compareSides(false);
        Check.is(name + " isSetup", naive.isSetup() ? 1 : 0, game.isSetup() ? 1 : 0);
        Check.same(name + " whiteToAct", naive.whiteToAct(), game.whiteToAct());
        Check.is(name + " legalMoveCount", naive.legalMoveCount(), game.legalMoveCount());
        Check.is(name + " actionCount", naive.actionCount(), game.actionCount());
        Check.is(name + " outcome", naive.outcome(), game.outcome());
        Check.is(name + " occurrences", naive.occurrences(), game.occurrences());
        Check.is(name + " quietActions", naive.quietActions(), game.quietActions());
        Check.same(name + " balance", naive.balance(), game.balance());
        Check.is(name + " countSequences(1)", naive.countSequences(1), game.countSequences(1));
        if (chance.nextInt(10) == 0) {
            Check.is(name + " countSequences(2)", naive.countSequences(2), game.countSequences(2));
        }
        if (chance.nextInt(4) == 0) {
            int mating = naive.matingMove();
            mates += mating == -1 ? 0 : 1;
            Check.is(name + " matingMove", mating, game.matingMove());
        }
        comparePairs();
    }

    private void compareSquare(int square) {
        Check.is(name + " pieceAt", naive.pieceAt(square), game.pieceAt(square));
        compare("isWhite", () -> naive.isWhite(square), () -> game.isWhite(square));
        Check.is(name + " bondOf", naive.bondOf(square), game.bondOf(square));
        Check.is(name + " attackers", naive.attackers(square, true), game.attackers(square, true));
        Check.is(name + " attackers", naive.attackers(square, false), game.attackers(square, false));
        Check.is(name + " legalMoves", naive.legalMoves(square), game.legalMoves(square));
        int refusal = naive.dissolveRefusal(square);
        refusals[refusal]++;
        Check.is(name + " dissolveRefusal", refusal, game.dissolveRefusal(square));
    }

    private void compareSides(boolean white) {
        Check.is(name + " piecesOf", naive.piecesOf(white), game.piecesOf(white));
        Check.is(name + " kingSquare", naive.kingSquare(white), game.kingSquare(white));
        Check.is(name + " bondCount", naive.bondCount(white), game.bondCount(white));
        Check.is(name + " longestBond", naive.longestBond(white), game.longestBond(white));
        Check.is(name + " attackedSquares", naive.attackedSquares(white), game.attackedSquares(white));
        Check.same(name + " isInCheck", naive.isInCheck(white), game.isInCheck(white));
        Check.same(name + " strengthOf", naive.strengthOf(white), game.strengthOf(white));
        Check.is(name + " strengthBits", naive.strengthBits(white), game.strengthBits(white));
        for (int kind = 1; kind <= 6; kind++) {
            Check.is(name + " capturedCount", naive.capturedCount(kind, white), game.capturedCount(kind, white));
        }
    }

    private void comparePairs() {
        for (int from = 0; from < 64; from++) {
            boolean own = (naive.piecesOf(naive.whiteToAct()) >>> from & 1) != 0;
            int first = own ? 0 : 63;
            for (int to = first; to < 64; to++) {
                int refusal = naive.moveRefusal(from, to);
                refusals[refusal]++;
                Check.is(name + " moveRefusal", refusal, game.moveRefusal(from, to));
            }
            int other = own ? from : chance.nextInt(64);
            for (int one = 0; one < (own ? 64 : 1); one++) {
                int refusal = naive.bondRefusal(one, other);
                refusals[refusal]++;
                Check.is(name + " bondRefusal", refusal, game.bondRefusal(one, other));
            }
        }
    }
}
