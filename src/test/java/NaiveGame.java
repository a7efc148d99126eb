import java.util.ArrayDeque;
import java.util.ArrayList;
import java.util.Arrays;
import java.util.List;
import java.util.NoSuchElementException;

/**
 * The document's rules written once more in the most plain form, to be compared with the program:
 * a board of letters, every action tried out on a copy, nothing kept that can be computed.
 */
final class NaiveGame {
    private static final String KINDS = "KQRBNP";
    private static final int[][] ALONG = {{1, 0}, {-1, 0}, {0, 1}, {0, -1}};
    private static final int[][] ACROSS = {{1, 1}, {1, -1}, {-1, 1}, {-1, -1}};
    private static final int[][] LEAPS = {{1, 2}, {2, 1}, {-1, 2}, {-2, 1}, {1, -2}, {2, -1}, {-1, -2}, {-2, -1}};

    /** What stands after an action, and what the action was. */
    private static final class State {
        char[] board = new char[64];
        int[] mate = new int[64];
        boolean white = true;
        char taken = ' ';
        boolean loud;
        /** The outcome once it has been found; it never changes again. */
        int found = -1;

        State() {
            Arrays.fill(board, ' ');
            Arrays.fill(mate, -1);
        }

        State copied() {
            State copy = new State();
            copy.board = board.clone();
            copy.mate = mate.clone();
            copy.white = white;
            return copy;
        }

        String key() {
            return new String(board) + Arrays.toString(mate) + white;
        }
    }

    private List<State> game = new ArrayList<>();
    private boolean setup;

    NaiveGame() {
        State first = new State();
        String rows = "RNBQKBNRPPPPPPPP" + " ".repeat(32) + "pppppppprnbqkbnr";
        first.board = rows.toCharArray();
        first.mate[1] = 6;
        first.mate[6] = 1;
        first.mate[57] = 62;
        first.mate[62] = 57;
        game.add(first);
    }

    private State now() {
        return game.get(game.size() - 1);
    }

    private static void onBoard(int square) {
        if (square < 0 || square > 63) {
            throw new IndexOutOfBoundsException();
        }
    }

    private static void aKind(int kind) {
        if (kind < 1 || kind > 6) {
            throw new IllegalArgumentException();
        }
    }

    private static void must(boolean possible) {
        if (!possible) {
            throw new IllegalStateException();
        }
    }

    private static boolean own(char piece, boolean white) {
        return piece != ' ' && Character.isUpperCase(piece) == white;
    }

    private static int kindOf(char piece) {
        return KINDS.indexOf(Character.toUpperCase(piece)) + 1;
    }

    private static char letter(int kind, boolean white) {
        char letter = KINDS.charAt(kind - 1);
        return white ? letter : Character.toLowerCase(letter);
    }

    // Set-up

    void beginSetup() {
        game = new ArrayList<>();
        game.add(new State());
        setup = true;
    }

    int place(int square, int kind, boolean white) {
        onBoard(square);
        aKind(kind);
        must(setup);
        must(now().board[square] == ' ');
        must(kind != 1 || kingSquare(white) == -1);
        must(kind != 6 || square >= 8 && square < 56);
        now().board[square] = letter(kind, white);
        return 64 - (int) new String(now().board).chars().filter(piece -> piece == ' ').count();
    }

    int remove(int square) {
        onBoard(square);
        must(setup);
        must(now().board[square] != ' ');
        int kind = pieceAt(square);
        now().board[square] = ' ';
        return kind;
    }

    int endSetup(boolean white) {
        must(setup);
        must(kingSquare(true) != -1 && kingSquare(false) != -1);
        must(!isInCheck(!white));
        now().white = white;
        setup = false;
        return outcome();
    }

    boolean isSetup() {
        return setup;
    }

    // Position

    boolean whiteToAct() {
        return now().white;
    }

    int pieceAt(int square) {
        onBoard(square);
        return kindOf(now().board[square]);
    }

    boolean isWhite(int square) {
        onBoard(square);
        if (now().board[square] == ' ') {
            throw new NoSuchElementException();
        }
        return Character.isUpperCase(now().board[square]);
    }

    long piecesOf(boolean white) {
        long set = 0;
        for (int square = 0; square < 64; square++) {
            if (own(now().board[square], white)) {
                set += 1L << square;
            }
        }
        return set;
    }

    int kingSquare(boolean white) {
        return new String(now().board).indexOf(white ? 'K' : 'k');
    }

    int bondOf(int square) {
        onBoard(square);
        return now().mate[square];
    }

    int bondCount(boolean white) {
        int ends = 0;
        for (int square = 0; square < 64; square++) {
            if (own(now().board[square], white) && now().mate[square] != -1) {
                ends++;
            }
        }
        return ends / 2;
    }

    int longestBond(boolean white) {
        int longest = 0;
        for (int square = 0; square < 64; square++) {
            if (own(now().board[square], white) && now().mate[square] != -1) {
                longest = Math.max(longest, knightDistance(square, now().mate[square]));
            }
        }
        return longest;
    }

    int knightDistance(int from, int to) {
        onBoard(from);
        onBoard(to);
        int[] far = new int[64];
        Arrays.fill(far, -1);
        far[from] = 0;
        ArrayDeque<Integer> open = new ArrayDeque<>(List.of(from));
        while (far[to] == -1) {
            int square = open.remove();
            for (int[] leap : LEAPS) {
                int next = stepped(square, leap);
                if (next != -1 && far[next] == -1) {
                    far[next] = far[square] + 1;
                    open.add(next);
                }
            }
        }
        return far[to];
    }

    private static int stepped(int square, int[] step) {
        int file = square % 8 + step[0];
        int rank = square / 8 + step[1];
        return file < 0 || file > 7 || rank < 0 || rank > 7 ? -1 : file + 8 * rank;
    }

    // Attacks

    private static boolean attacks(State state, int from, int to) {
        char piece = state.board[from];
        switch (Character.toUpperCase(piece)) {
            case 'K':
                return from != to && Math.abs(from % 8 - to % 8) <= 1 && Math.abs(from / 8 - to / 8) <= 1;
            case 'N':
                return Math.abs(from % 8 - to % 8) * Math.abs(from / 8 - to / 8) == 2;
            case 'P':
                return to / 8 - from / 8 == (piece == 'P' ? 1 : -1) && Math.abs(from % 8 - to % 8) == 1;
            case 'R':
                return sees(state, from, to, ALONG);
            case 'B':
                return sees(state, from, to, ACROSS);
            case 'Q':
                return sees(state, from, to, ALONG) || sees(state, from, to, ACROSS);
            default:
                return false;
        }
    }

    private static boolean sees(State state, int from, int to, int[][] ways) {
        for (int[] way : ways) {
            int square = stepped(from, way);
            while (square != -1 && square != to && state.board[square] == ' ') {
                square = stepped(square, way);
            }
            if (square == to) {
                return true;
            }
        }
        return false;
    }

    private static long attackersIn(State state, int square, boolean white) {
        long set = 0;
        for (int from = 0; from < 64; from++) {
            if (own(state.board[from], white) && attacks(state, from, square)) {
                set += 1L << from;
            }
        }
        return set;
    }

    private static boolean checkedIn(State state, boolean white) {
        int king = new String(state.board).indexOf(white ? 'K' : 'k');
        return king != -1 && attackersIn(state, king, !white) != 0;
    }

    long attackers(int square, boolean white) {
        onBoard(square);
        return attackersIn(now(), square, white);
    }

    long attackedSquares(boolean white) {
        long set = 0;
        for (int square = 0; square < 64; square++) {
            if (attackers(square, white) != 0) {
                set += 1L << square;
            }
        }
        return set;
    }

    boolean isInCheck(boolean white) {
        return checkedIn(now(), white);
    }

    // Legal actions

    private static boolean canMove(State state, int from, int to) {
        char piece = state.board[from];
        if (own(state.board[to], state.white)) {
            return false;
        }
        if (Character.toUpperCase(piece) == 'P') {
            boolean empty = state.board[to] == ' ';
            return empty ? to - from == (piece == 'P' ? 8 : -8) : attacks(state, from, to);
        }
        return attacks(state, from, to);
    }

    private static State after(State state, int from, int to) {
        State next = state.copied();
        next.taken = next.board[to];
        char piece = next.board[from];
        next.loud = next.taken != ' ' || piece == 'P' || piece == 'p';
        if (next.mate[to] != -1) {
            next.mate[next.mate[to]] = -1;
            next.mate[to] = -1;
        }
        if (next.mate[from] != -1) {
            next.mate[to] = next.mate[from];
            next.mate[next.mate[to]] = to;
            next.mate[from] = -1;
        }
        if (piece == 'P' && to >= 56) {
            piece = 'Q';
        }
        if (piece == 'p' && to < 8) {
            piece = 'q';
        }
        next.board[to] = piece;
        next.board[from] = ' ';
        next.white = !state.white;
        return next;
    }

    private int refusal(State state, int from, int to) {
        if (!own(state.board[from], state.white)) {
            return 2;
        }
        if (!canMove(state, from, to)) {
            return 3;
        }
        State next = after(state, from, to);
        if (checkedIn(next, state.white)) {
            return 4;
        }
        for (int square = 0; square < 64; square++) {
            if (own(next.board[square], state.white) && next.mate[square] != -1
                    && knightDistance(square, next.mate[square]) > 3) {
                return 5;
            }
        }
        return 0;
    }

    private List<int[]> legal(State state) {
        List<int[]> moves = new ArrayList<>();
        for (int from = 0; from < 64; from++) {
            for (int to = 0; to < 64; to++) {
                if (refusal(state, from, to) == 0) {
                    moves.add(new int[] {from, to});
                }
            }
        }
        return moves;
    }

    private boolean played() {
        return !setup && outcome() == 0;
    }

    long legalMoves(int square) {
        onBoard(square);
        long set = 0;
        if (played()) {
            for (int to = 0; to < 64; to++) {
                if (refusal(now(), square, to) == 0) {
                    set += 1L << to;
                }
            }
        }
        return set;
    }

    int legalMoveCount() {
        return played() ? legal(now()).size() : 0;
    }

    int moveRefusal(int from, int to) {
        onBoard(from);
        onBoard(to);
        return played() ? refusal(now(), from, to) : 1;
    }

    private boolean ownKnight(int square) {
        return now().board[square] == (now().white ? 'N' : 'n');
    }

    private int bondingRefusal(int one, int other) {
        if (one == other || !ownKnight(one) || !ownKnight(other)) {
            return 2;
        }
        if (now().mate[one] != -1 || now().mate[other] != -1) {
            return 6;
        }
        if (knightDistance(one, other) > 3) {
            return 5;
        }
        return isInCheck(now().white) ? 4 : 0;
    }

    private int dissolvingRefusal(int square) {
        if (!ownKnight(square)) {
            return 2;
        }
        if (now().mate[square] == -1) {
            return 7;
        }
        return isInCheck(now().white) ? 4 : 0;
    }

    int bondRefusal(int one, int other) {
        onBoard(one);
        onBoard(other);
        return played() ? bondingRefusal(one, other) : 1;
    }

    int dissolveRefusal(int square) {
        onBoard(square);
        return played() ? dissolvingRefusal(square) : 1;
    }

    int matingMove() {
        if (!played()) {
            return -1;
        }
        for (int[] move : legal(now())) {
            State next = after(now(), move[0], move[1]);
            if (checkedIn(next, next.white) && legal(next).isEmpty()) {
                return 64 * move[0] + move[1];
            }
        }
        return -1;
    }

    int countSequences(int moves) {
        if (moves < 1 || moves > 2) {
            throw new IllegalArgumentException();
        }
        if (setup) {
            return 0;
        }
        int count = 0;
        for (int[] move : legal(now())) {
            count += moves == 1 ? 1 : legal(after(now(), move[0], move[1])).size();
        }
        return count;
    }

    // Acting

    int move(int from, int to) {
        must(moveRefusal(from, to) == 0);
        State next = after(now(), from, to);
        game.add(next);
        return kindOf(next.taken);
    }

    int bond(int one, int other) {
        must(bondRefusal(one, other) == 0);
        State next = now().copied();
        next.mate[one] = other;
        next.mate[other] = one;
        next.white = !next.white;
        game.add(next);
        return knightDistance(one, other);
    }

    int dissolve(int square) {
        must(dissolveRefusal(square) == 0);
        State next = now().copied();
        int other = next.mate[square];
        next.mate[square] = -1;
        next.mate[other] = -1;
        next.white = !next.white;
        game.add(next);
        return other;
    }

    int takeBack() {
        must(!setup && game.size() > 1);
        game.remove(game.size() - 1);
        return game.size() - 1;
    }

    int actionCount() {
        return game.size() - 1;
    }

    private boolean canBondOrDissolve() {
        for (int one = 0; one < 64; one++) {
            if (dissolvingRefusal(one) == 0) {
                return true;
            }
            for (int other = 0; other < 64; other++) {
                if (bondingRefusal(one, other) == 0) {
                    return true;
                }
            }
        }
        return false;
    }

    int outcome() {
        if (setup) {
            return 0;
        }
        if (now().found == -1) {
            now().found = outcomeNow();
        }
        return now().found;
    }

    private int outcomeNow() {
        boolean stuck = legal(now()).isEmpty();
        if (stuck && isInCheck(now().white)) {
            return 1;
        }
        if (stuck && !canBondOrDissolve()) {
            return 2;
        }
        if (new String(now().board).replace(" ", "").length() == 2) {
            return 3;
        }
        if (occurrences() >= 3) {
            return 4;
        }
        return quietActions() >= 40 ? 5 : 0;
    }

    int occurrences() {
        return setup ? 0 : (int) game.stream().filter(state -> state.key().equals(now().key())).count();
    }

    int quietActions() {
        int quiet = 0;
        while (quiet < game.size() - 1 && !game.get(game.size() - 1 - quiet).loud) {
            quiet++;
        }
        return quiet;
    }

    int capturedCount(int kind, boolean white) {
        aKind(kind);
        return (int) game.stream().filter(state -> state.taken == letter(kind, white)).count();
    }

    // Strengths

    float strengthOf(boolean white) {
        float sum = 0.0f;
        for (int square = 0; square < 64; square++) {
            char piece = now().board[square];
            if (own(piece, white)) {
                float[] weights = {0.0f, 9.5f, 5.0f, 3.3f, now().mate[square] == -1 ? 3.2f : 3.7f, 1.0f};
                sum = sum + weights[kindOf(piece) - 1];
            }
        }
        return sum + 0.1f * (float) Long.bitCount(attackedSquares(white));
    }

    int strengthBits(boolean white) {
        return Float.floatToIntBits(strengthOf(white));
    }

    double balance() {
        return (double) strengthOf(true) - (double) strengthOf(false);
    }
}
