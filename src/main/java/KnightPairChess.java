import java.util.Arrays;
import java.util.NoSuchElementException;

/**
 * A game of chess in which the knights of a side can be bonded in pairs and must then stay near
 * each other. Squares are numbered file + 8 * rank; sets of squares are long numbers.
 */
public final class KnightPairChess {
    public static final int NONE = -1;
    public static final int EMPTY = 0;
    public static final int KING = 1;
    public static final int QUEEN = 2;
    public static final int ROOK = 3;
    public static final int BISHOP = 4;
    public static final int KNIGHT = 5;
    public static final int PAWN = 6;
    public static final int ONGOING = 0;
    public static final int CHECKMATE = 1;
    public static final int STALEMATE = 2;
    public static final int BARE_KINGS = 3;
    public static final int REPETITION = 4;
    public static final int QUIET = 5;
    public static final int NOT_PLAYED = 1;
    public static final int NO_OWN_PIECE = 2;
    public static final int CANNOT_MOVE = 3;
    public static final int CHECK = 4;
    public static final int TOO_FAR = 5;
    public static final int HAS_BOND = 6;
    public static final int HAS_NO_BOND = 7;

    private static final int SQUARES = 64;
    private static final int KINDS = 7;
    private static final int LONGEST_WAY = 6;
    private static final int BOND_REACH = 3;
    private static final int OCCURRENCES_TO_END = 3;
    private static final int QUIET_TO_END = 40;
    /** An object is used for 512 calls, so no game that counts has more actions. */
    private static final int MOST_ACTIONS = 512;
    private static final int[] FIRST_RANK = {ROOK, KNIGHT, BISHOP, QUEEN, KING, BISHOP, KNIGHT, ROOK};

    private final Page first;
    private final Position trial;
    private Page present;
    private boolean settingUp;

    public KnightPairChess() {
        first = new Page(null);
        trial = new Position();
        present = first;
        Position start = first.position;
        for (int file = 0; file < FIRST_RANK.length; file++) {
            start.put(file, FIRST_RANK[file], true);
            start.put(8 + file, PAWN, true);
            start.put(48 + file, PAWN, false);
            start.put(56 + file, FIRST_RANK[file], false);
        }
        start.join(1, 6);
        start.join(57, 62);
    }

    // ---- Set-up

    public void beginSetup() {
        settingUp = true;
        present = first;
        first.verdict = ONGOING;
        first.position.empty();
    }

    public int place(int square, int kind, boolean white)
            throws IndexOutOfBoundsException, IllegalArgumentException, IllegalStateException {
        requireSquare(square);
        requireKind(kind);
        Position board = present.position;
        if (!settingUp || !board.hasRoomFor(square, kind, white)) {
            throw new IllegalStateException("the piece cannot be placed there");
        }
        board.put(square, kind, white);
        return Long.bitCount(board.occupied());
    }

    public int remove(int square) throws IndexOutOfBoundsException, IllegalStateException {
        requireSquare(square);
        Position board = present.position;
        int kind = board.kindOn(square);
        if (!settingUp || kind == EMPTY) {
            throw new IllegalStateException("there is nothing to remove");
        }
        board.lift(square);
        return kind;
    }

    public int endSetup(boolean white) throws IllegalStateException {
        Position board = present.position;
        if (!settingUp || !board.canBegin(white)) {
            throw new IllegalStateException("the game cannot begin so");
        }
        settingUp = false;
        board.whiteActs = white;
        present.verdict = verdictNow();
        return present.verdict;
    }

    public boolean isSetup() {
        return settingUp;
    }

    // ---- Position

    public boolean whiteToAct() {
        return present.position.whiteActs;
    }

    public int pieceAt(int square) throws IndexOutOfBoundsException {
        requireSquare(square);
        return present.position.kindOn(square);
    }

    public boolean isWhite(int square) throws IndexOutOfBoundsException, NoSuchElementException {
        requireSquare(square);
        Position board = present.position;
        if (!has(board.occupied(), square)) {
            throw new NoSuchElementException("the square is empty");
        }
        return has(board.side(true), square);
    }

    public long piecesOf(boolean white) {
        return present.position.side(white);
    }

    public int kingSquare(boolean white) {
        return lowestOf(present.position.piecesOfKind(KING, white));
    }

    public int bondOf(int square) throws IndexOutOfBoundsException {
        requireSquare(square);
        return present.position.partnerOf(square);
    }

    public int bondCount(boolean white) {
        return Long.bitCount(present.position.bondedKnights(white)) / 2;
    }

    public int longestBond(boolean white) {
        Position board = present.position;
        long bonded = board.bondedKnights(white);
        int longest = 0;
        for (int square = 0; square < SQUARES; square++) {
            if (has(bonded, square)) {
                longest = Math.max(longest, Reach.hops(square, board.partnerOf(square)));
            }
        }
        return longest;
    }

    public int knightDistance(int from, int to) throws IndexOutOfBoundsException {
        requireSquare(from);
        requireSquare(to);
        return Reach.hops(from, to);
    }

    // ---- Attacks

    public long attackers(int square, boolean white) throws IndexOutOfBoundsException {
        requireSquare(square);
        Position board = present.position;
        return board.attackersOn(bit(square), white, board.occupied());
    }

    public long attackedSquares(boolean white) {
        return present.position.attackedBy(white);
    }

    public boolean isInCheck(boolean white) {
        return present.position.isChecked(white);
    }

    // ---- Legal actions

    public long legalMoves(int square) throws IndexOutOfBoundsException {
        requireSquare(square);
        Position board = present.position;
        if (!isPlayed() || !has(board.acting(), square)) {
            return 0L;
        }
        return board.lawfulTargets(square, board.delicateSquares());
    }

    public int legalMoveCount() {
        return isPlayed() ? present.position.lawfulMoveCount() : 0;
    }

    public int moveRefusal(int from, int to) throws IndexOutOfBoundsException {
        requireSquare(from);
        requireSquare(to);
        Position board = present.position;
        if (!isPlayed()) {
            return NOT_PLAYED;
        }
        if (!has(board.acting(), from)) {
            return NO_OWN_PIECE;
        }
        if (!has(board.targetsFrom(from), to)) {
            return CANNOT_MOVE;
        }
        if (!board.keepsKingSafe(from, to)) {
            return CHECK;
        }
        return has(board.bondRange(from), to) ? 0 : TOO_FAR;
    }

    public int bondRefusal(int one, int other) throws IndexOutOfBoundsException {
        requireSquare(one);
        requireSquare(other);
        Position board = present.position;
        if (!isPlayed()) {
            return NOT_PLAYED;
        }
        long knights = board.piecesOfKind(KNIGHT, board.whiteActs);
        if (one == other || !has(knights, one) || !has(knights, other)) {
            return NO_OWN_PIECE;
        }
        if (board.partnerOf(one) != NONE || board.partnerOf(other) != NONE) {
            return HAS_BOND;
        }
        if (Reach.hops(one, other) > BOND_REACH) {
            return TOO_FAR;
        }
        return board.isChecked(board.whiteActs) ? CHECK : 0;
    }

    public int dissolveRefusal(int square) throws IndexOutOfBoundsException {
        requireSquare(square);
        Position board = present.position;
        if (!isPlayed()) {
            return NOT_PLAYED;
        }
        if (!has(board.piecesOfKind(KNIGHT, board.whiteActs), square)) {
            return NO_OWN_PIECE;
        }
        if (board.partnerOf(square) == NONE) {
            return HAS_NO_BOND;
        }
        return board.isChecked(board.whiteActs) ? CHECK : 0;
    }

    public int matingMove() {
        if (!isPlayed()) {
            return NONE;
        }
        Position board = present.position;
        long delicate = board.delicateSquares();
        for (int from = 0; from < SQUARES; from++) {
            long targets = has(board.acting(), from) ? board.lawfulTargets(from, delicate) : 0L;
            for (int to = 0; to < SQUARES && targets != 0; to++) {
                if (has(targets, to)) {
                    tryMove(from, to);
                    if (trial.isMated()) {
                        return 64 * from + to;
                    }
                }
            }
        }
        return NONE;
    }

    public int countSequences(int moves) throws IllegalArgumentException {
        if (moves != 1 && moves != 2) {
            throw new IllegalArgumentException("sequences of 1 or 2 moves are counted");
        }
        if (settingUp) {
            return 0;
        }
        return moves == 1 ? present.position.lawfulMoveCount() : countPairsOfMoves();
    }

    // ---- Acting

    public int move(int from, int to) throws IndexOutOfBoundsException, IllegalStateException {
        if (moveRefusal(from, to) != 0 || isFull()) {
            throw new IllegalStateException("the move is not legal");
        }
        boolean byPawn = present.position.kindOn(from) == PAWN;
        turnPage();
        int captured = present.position.shift(from, to);
        present.captured = captured;
        if (captured != EMPTY || byPawn) {
            present.quiet = 0;
        }
        present.position.passTurn();
        present.verdict = verdictNow();
        return captured;
    }

    public int bond(int one, int other) throws IndexOutOfBoundsException, IllegalStateException {
        if (bondRefusal(one, other) != 0 || isFull()) {
            throw new IllegalStateException("the bonding is not legal");
        }
        turnPage();
        present.position.join(one, other);
        present.position.passTurn();
        present.verdict = verdictNow();
        return Reach.hops(one, other);
    }

    public int dissolve(int square) throws IndexOutOfBoundsException, IllegalStateException {
        if (dissolveRefusal(square) != 0 || isFull()) {
            throw new IllegalStateException("the dissolving is not legal");
        }
        turnPage();
        int other = present.position.part(square);
        present.position.passTurn();
        present.verdict = verdictNow();
        return other;
    }

    public int takeBack() throws IllegalStateException {
        Page before = present.before;
        if (settingUp || before == null) {
            throw new IllegalStateException("there is no action to take back");
        }
        present = before;
        return present.number;
    }

    public int actionCount() {
        return present.number;
    }

    public int outcome() {
        return present.verdict;
    }

    public int occurrences() {
        return settingUp ? 0 : timesOccurred();
    }

    public int quietActions() {
        return present.quiet;
    }

    public int capturedCount(int kind, boolean white) throws IllegalArgumentException {
        requireKind(kind);
        int count = 0;
        for (Page page = present; page != null; page = page.before) {
            // The side to act after a capture is the side that lost the piece.
            if (page.captured == kind && page.position.whiteActs == white) {
                count++;
            }
        }
        return count;
    }

    // ---- Strengths

    public float strengthOf(boolean white) {
        Position board = present.position;
        long own = board.side(white);
        float sum = 0.0f;
        for (int square = 0; square < SQUARES; square++) {
            if (has(own, square)) {
                sum += weightOf(board.kindOn(square), board.partnerOf(square) != NONE);
            }
        }
        return sum + 0.1f * (float) Long.bitCount(board.attackedBy(white));
    }

    public int strengthBits(boolean white) {
        return bitsOf(strengthOf(white));
    }

    public double balance() {
        return (double) strengthOf(true) - (double) strengthOf(false);
    }

    // ---- The course of the game

    private boolean isPlayed() {
        return !settingUp && present.verdict == ONGOING;
    }

    private boolean isFull() {
        return present.number >= MOST_ACTIONS;
    }

    /** Opens the page of a new action with the position that stood before it. */
    private void turnPage() {
        Page before = present;
        Page next = before.after;
        if (next == null) {
            next = new Page(before);
            before.after = next;
        }
        next.position.copyFrom(before.position);
        next.quiet = before.quiet + 1;
        next.captured = EMPTY;
        present = next;
    }

    private int verdictNow() {
        Position board = present.position;
        boolean checked = board.isChecked(board.whiteActs);
        if (!board.hasLawfulMove()) {
            if (checked) {
                return CHECKMATE;
            }
            if (!board.hasBondAction()) {
                return STALEMATE;
            }
        }
        if (board.occupied() == board.kings()) {
            return BARE_KINGS;
        }
        if (timesOccurred() >= OCCURRENCES_TO_END) {
            return REPETITION;
        }
        return present.quiet >= QUIET_TO_END ? QUIET : ONGOING;
    }

    private int timesOccurred() {
        int count = 0;
        for (Page page = present; page != null; page = page.before) {
            if (page.position.matches(present.position)) {
                count++;
            }
        }
        return count;
    }

    // ---- Looking ahead

    private void tryMove(int from, int to) {
        trial.copyFrom(present.position);
        trial.shift(from, to);
        trial.passTurn();
    }

    private int countPairsOfMoves() {
        Position board = present.position;
        long delicate = board.delicateSquares();
        int count = 0;
        for (int from = 0; from < SQUARES; from++) {
            long targets = has(board.acting(), from) ? board.lawfulTargets(from, delicate) : 0L;
            for (int to = 0; to < SQUARES && targets != 0; to++) {
                if (has(targets, to)) {
                    tryMove(from, to);
                    count += trial.lawfulMoveCount();
                }
            }
        }
        return count;
    }

    // ---- Parameters, weights and sets

    private static void requireSquare(int square) throws IndexOutOfBoundsException {
        if (square < 0 || square >= SQUARES) {
            throw new IndexOutOfBoundsException("a square is a number from 0 to 63");
        }
    }

    private static void requireKind(int kind) throws IllegalArgumentException {
        if (kind < KING || kind > PAWN) {
            throw new IllegalArgumentException("a kind is a number from KING to PAWN");
        }
    }

    private static float weightOf(int kind, boolean bonded) {
        switch (kind) {
            case QUEEN:
                return 9.5f;
            case ROOK:
                return 5.0f;
            case BISHOP:
                return 3.3f;
            case KNIGHT:
                return bonded ? 3.7f : 3.2f;
            case PAWN:
                return 1.0f;
            default:
                return 0.0f;
        }
    }

    /** The bits of a float that is not negative; Float itself is outside the library that is allowed. */
    private static int bitsOf(float value) {
        if (!(value > 0.0f)) {
            return 0;
        }
        int exponent = 127;
        float scaled = value;
        for (; scaled >= 2.0f && exponent < 254; exponent++) {
            scaled = scaled / 2.0f;
        }
        for (; scaled < 1.0f && exponent > 1; exponent--) {
            scaled = scaled * 2.0f;
        }
        return (exponent << 23) + (int) ((scaled - 1.0f) * 8388608.0f);
    }

    private static long bit(int square) {
        return 1L << square;
    }

    private static boolean has(long set, int square) {
        return (set >>> square & 1L) != 0;
    }

    private static int lowestOf(long set) {
        return set == 0 ? NONE : Long.bitCount((set & -set) - 1);
    }

    /** What the game keeps of one action: the position after it, and how it came about. */
    private static final class Page {
        final Position position;
        final Page before;
        final int number;
        /** The page of the next action, kept to be written again after a takeBack. */
        Page after;
        int captured;
        int quiet;
        int verdict;

        Page(Page before) {
            this.before = before;
            number = before == null ? 0 : before.number + 1;
            position = new Position();
        }
    }

    /** The pieces on the board, their bonds, and the side to act. */
    private static final class Position {
        private final long[] ofKind;
        private final int[] partner;
        private long ofWhite;
        private long ofBlack;
        boolean whiteActs;

        Position() {
            ofKind = new long[KINDS];
            partner = new int[SQUARES];
            Arrays.fill(partner, NONE);
            whiteActs = true;
        }

        void empty() {
            Arrays.fill(ofKind, 0L);
            Arrays.fill(partner, NONE);
            ofWhite = 0L;
            ofBlack = 0L;
            whiteActs = true;
        }

        void copyFrom(Position other) {
            System.arraycopy(other.ofKind, 0, ofKind, 0, KINDS);
            System.arraycopy(other.partner, 0, partner, 0, SQUARES);
            ofWhite = other.ofWhite;
            ofBlack = other.ofBlack;
            whiteActs = other.whiteActs;
        }

        boolean matches(Position other) {
            if (ofWhite != other.ofWhite || ofBlack != other.ofBlack || whiteActs != other.whiteActs) {
                return false;
            }
            for (int kind = KING; kind < KINDS; kind++) {
                if (ofKind[kind] != other.ofKind[kind]) {
                    return false;
                }
            }
            for (int square = 0; square < SQUARES; square++) {
                if (partner[square] != other.partner[square]) {
                    return false;
                }
            }
            return true;
        }

        // Pieces and bonds

        long occupied() {
            return ofWhite | ofBlack;
        }

        long side(boolean white) {
            return white ? ofWhite : ofBlack;
        }

        long acting() {
            return side(whiteActs);
        }

        long kings() {
            return ofKind[KING];
        }

        long piecesOfKind(int kind, boolean white) {
            return kind >= KING && kind < KINDS ? ofKind[kind] & side(white) : 0L;
        }

        int kindOn(int square) {
            for (int kind = KING; kind < KINDS; kind++) {
                if (has(ofKind[kind], square)) {
                    return kind;
                }
            }
            return EMPTY;
        }

        int partnerOf(int square) {
            return square >= 0 && square < SQUARES ? partner[square] : NONE;
        }

        long bondedKnights(boolean white) {
            long bonded = 0L;
            for (int square = 0; square < SQUARES; square++) {
                if (partner[square] != NONE) {
                    bonded |= bit(square);
                }
            }
            return bonded & side(white);
        }

        boolean hasRoomFor(int square, int kind, boolean white) {
            if (has(occupied(), square)) {
                return false;
            }
            if (kind == KING) {
                return piecesOfKind(KING, white) == 0;
            }
            int rank = square / 8;
            return kind != PAWN || rank != 0 && rank != 7;
        }

        boolean canBegin(boolean white) {
            return piecesOfKind(KING, true) != 0 && piecesOfKind(KING, false) != 0 && !isChecked(!white);
        }

        void put(int square, int kind, boolean white) {
            if (kind < KING || kind >= KINDS) {
                return;
            }
            ofKind[kind] |= bit(square);
            if (white) {
                ofWhite |= bit(square);
            } else {
                ofBlack |= bit(square);
            }
        }

        void lift(int square) {
            long others = ~bit(square);
            for (int kind = KING; kind < KINDS; kind++) {
                ofKind[kind] &= others;
            }
            ofWhite &= others;
            ofBlack &= others;
        }

        void join(int one, int other) {
            if (one >= 0 && one < SQUARES && other >= 0 && other < SQUARES) {
                partner[one] = other;
                partner[other] = one;
            }
        }

        /** Ends the bond of the knight on a square, and tells where the other knight stands. */
        int part(int square) {
            int other = partnerOf(square);
            if (other >= 0 && other < SQUARES && square >= 0 && square < SQUARES) {
                partner[square] = NONE;
                partner[other] = NONE;
            }
            return other;
        }

        /** Moves a piece with all that follows from it, and tells the kind of the captured piece. */
        int shift(int from, int to) {
            int kind = kindOn(from);
            int captured = kindOn(to);
            boolean white = has(ofWhite, from);
            part(to);
            int other = part(from);
            lift(to);
            lift(from);
            int rank = to / 8;
            boolean promoted = kind == PAWN && (rank == 0 || rank == 7);
            put(to, promoted ? QUEEN : kind, white);
            if (other != NONE) {
                join(to, other);
            }
            return captured;
        }

        void passTurn() {
            whiteActs = !whiteActs;
        }

        // Attacks

        long attackersOn(long target, boolean white, long taken) {
            long straight = ofKind[QUEEN] | ofKind[ROOK];
            long diagonal = ofKind[QUEEN] | ofKind[BISHOP];
            // All but pawns attack to and fro alike; a pawn attacks back like one of the other side.
            long all = Reach.ofKing(target) & ofKind[KING]
                    | Reach.ofKnight(target) & ofKind[KNIGHT]
                    | Reach.ofPawn(target, !white) & ofKind[PAWN]
                    | Reach.ofRook(target, taken) & straight
                    | Reach.ofBishop(target, taken) & diagonal;
            return all & side(white);
        }

        long attackedBy(boolean white) {
            long attacked = 0L;
            for (int kind = KING; kind < KINDS; kind++) {
                attacked |= Reach.of(kind, white, ofKind[kind] & side(white), occupied());
            }
            return attacked;
        }

        boolean isChecked(boolean white) {
            return attackersOn(piecesOfKind(KING, white), !white, occupied()) != 0;
        }

        // Moves of the side to act

        /** The squares to which the piece can move, legally or not. */
        long targetsFrom(int from) {
            int kind = kindOn(from);
            long reached = Reach.of(kind, whiteActs, bit(from), occupied());
            if (kind != PAWN) {
                return reached & ~acting();
            }
            long ahead = whiteActs ? bit(from) << 8 : bit(from) >>> 8;
            return reached & side(!whiteActs) | ahead & ~occupied();
        }

        /** The squares on which the piece is near enough to the other knight of its bond, if it has one. */
        long bondRange(int from) {
            int other = partnerOf(from);
            return other == NONE ? -1L : Reach.withinHops(bit(other), BOND_REACH);
        }

        boolean keepsKingSafe(int from, int to) {
            long king = piecesOfKind(KING, whiteActs);
            if (has(king, from)) {
                king = bit(to);
            }
            long taken = occupied() & ~bit(from) | bit(to);
            return (attackersOn(king, !whiteActs, taken) & ~bit(to)) == 0;
        }

        /** The own squares from which a move may leave the king attacked; one from any other cannot. */
        long delicateSquares() {
            long king = piecesOfKind(KING, whiteActs);
            if (isChecked(whiteActs)) {
                return acting();
            }
            long seen = Reach.ofRook(king, occupied()) | Reach.ofBishop(king, occupied());
            return (king | seen) & acting();
        }

        /** The targets of the legal moves of an own piece, given the delicate squares. */
        long lawfulTargets(int from, long delicate) {
            long targets = targetsFrom(from) & bondRange(from);
            if (!has(delicate, from)) {
                return targets;
            }
            long lawful = 0L;
            for (int to = 0; to < SQUARES; to++) {
                if (has(targets, to) && keepsKingSafe(from, to)) {
                    lawful |= bit(to);
                }
            }
            return lawful;
        }

        int lawfulMoveCount() {
            long delicate = delicateSquares();
            int count = 0;
            for (int from = 0; from < SQUARES; from++) {
                if (has(acting(), from)) {
                    count += Long.bitCount(lawfulTargets(from, delicate));
                }
            }
            return count;
        }

        boolean hasLawfulMove() {
            long delicate = delicateSquares();
            for (int from = 0; from < SQUARES; from++) {
                if (has(acting(), from) && lawfulTargets(from, delicate) != 0) {
                    return true;
                }
            }
            return false;
        }

        /** Tells whether a side that is not in check could bond two knights or dissolve a bond. */
        boolean hasBondAction() {
            if (bondedKnights(whiteActs) != 0) {
                return true;
            }
            long knights = piecesOfKind(KNIGHT, whiteActs);
            for (int square = 0; square < SQUARES; square++) {
                long others = knights & ~bit(square);
                if (has(knights, square) && (Reach.withinHops(bit(square), BOND_REACH) & others) != 0) {
                    return true;
                }
            }
            return false;
        }

        boolean isMated() {
            return isChecked(whiteActs) && !hasLawfulMove();
        }
    }

    /** The squares that pieces on a set of squares attack; no more than shifts of the set. */
    private static final class Reach {
        private static final long NOT_FIRST_FILE = 0xFEFEFEFEFEFEFEFEL;
        private static final long NOT_LAST_FILE = 0x7F7F7F7F7F7F7F7FL;
        private static final long NOT_FIRST_TWO = 0xFCFCFCFCFCFCFCFCL;
        private static final long NOT_LAST_TWO = 0x3F3F3F3F3F3F3F3FL;

        private Reach() {
        }

        static long of(int kind, boolean white, long from, long occupied) {
            switch (kind) {
                case KING:
                    return ofKing(from);
                case QUEEN:
                    return ofRook(from, occupied) | ofBishop(from, occupied);
                case ROOK:
                    return ofRook(from, occupied);
                case BISHOP:
                    return ofBishop(from, occupied);
                case KNIGHT:
                    return ofKnight(from);
                case PAWN:
                    return ofPawn(from, white);
                default:
                    return 0L;
            }
        }

        static long ofKing(long from) {
            long beside = (from & NOT_FIRST_FILE) >>> 1 | (from & NOT_LAST_FILE) << 1;
            long row = from | beside;
            return beside | row << 8 | row >>> 8;
        }

        static long ofKnight(long from) {
            long near = (from & NOT_FIRST_FILE) >>> 1 | (from & NOT_LAST_FILE) << 1;
            long far = (from & NOT_FIRST_TWO) >>> 2 | (from & NOT_LAST_TWO) << 2;
            return near << 16 | near >>> 16 | far << 8 | far >>> 8;
        }

        static long ofPawn(long from, boolean white) {
            long ahead = white ? from << 8 : from >>> 8;
            return (ahead & NOT_FIRST_FILE) >>> 1 | (ahead & NOT_LAST_FILE) << 1;
        }

        static long ofRook(long from, long occupied) {
            long free = ~occupied;
            long up = from;
            long down = from;
            long left = from;
            long right = from;
            long reached = 0L;
            for (int step = 1; step < 8 && (up | down | left | right) != 0; step++) {
                up = up << 8;
                down = down >>> 8;
                left = (left & NOT_FIRST_FILE) >>> 1;
                right = (right & NOT_LAST_FILE) << 1;
                reached |= up | down | left | right;
                up &= free;
                down &= free;
                left &= free;
                right &= free;
            }
            return reached;
        }

        static long ofBishop(long from, long occupied) {
            long free = ~occupied;
            long upLeft = from;
            long upRight = from;
            long downLeft = from;
            long downRight = from;
            long reached = 0L;
            for (int step = 1; step < 8 && (upLeft | upRight | downLeft | downRight) != 0; step++) {
                upLeft = (upLeft & NOT_FIRST_FILE) << 7;
                upRight = (upRight & NOT_LAST_FILE) << 9;
                downLeft = (downLeft & NOT_FIRST_FILE) >>> 9;
                downRight = (downRight & NOT_LAST_FILE) >>> 7;
                reached |= upLeft | upRight | downLeft | downRight;
                upLeft &= free;
                upRight &= free;
                downLeft &= free;
                downRight &= free;
            }
            return reached;
        }

        /** The squares that a knight comes to with so many moves at most on an empty board. */
        static long withinHops(long from, int hops) {
            long reached = from;
            for (int hop = 0; hop < hops; hop++) {
                reached |= ofKnight(reached);
            }
            return reached;
        }

        static int hops(int from, int to) {
            long reached = bit(from);
            int hops = 0;
            for (; hops < LONGEST_WAY && !has(reached, to); hops++) {
                reached |= ofKnight(reached);
            }
            return hops;
        }
    }
}
