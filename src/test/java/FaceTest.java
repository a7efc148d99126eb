import java.lang.reflect.Constructor;
import java.lang.reflect.Field;
import java.lang.reflect.Method;
import java.lang.reflect.Modifier;
import java.util.TreeSet;

/** The public face: just the members that the document shows, with their exceptions, and the constants. */
final class FaceTest {
    private static final String METHODS = """
            void beginSetup()
            int place(int,int,boolean) throws IndexOutOfBoundsException,IllegalArgumentException,IllegalStateException
            int remove(int) throws IndexOutOfBoundsException,IllegalStateException
            int endSetup(boolean) throws IllegalStateException
            boolean isSetup()
            boolean whiteToAct()
            int pieceAt(int) throws IndexOutOfBoundsException
            boolean isWhite(int) throws IndexOutOfBoundsException,NoSuchElementException
            long piecesOf(boolean)
            int kingSquare(boolean)
            int bondOf(int) throws IndexOutOfBoundsException
            int bondCount(boolean)
            int longestBond(boolean)
            int knightDistance(int,int) throws IndexOutOfBoundsException
            long attackers(int,boolean) throws IndexOutOfBoundsException
            long attackedSquares(boolean)
            boolean isInCheck(boolean)
            long legalMoves(int) throws IndexOutOfBoundsException
            int legalMoveCount()
            int moveRefusal(int,int) throws IndexOutOfBoundsException
            int bondRefusal(int,int) throws IndexOutOfBoundsException
            int dissolveRefusal(int) throws IndexOutOfBoundsException
            int matingMove()
            int countSequences(int) throws IllegalArgumentException
            int move(int,int) throws IndexOutOfBoundsException,IllegalStateException
            int bond(int,int) throws IndexOutOfBoundsException,IllegalStateException
            int dissolve(int) throws IndexOutOfBoundsException,IllegalStateException
            int takeBack() throws IllegalStateException
            int actionCount()
            int outcome()
            int occurrences()
            int quietActions()
            int capturedCount(int,boolean) throws IllegalArgumentException
            float strengthOf(boolean)
            int strengthBits(boolean)
            double balance()
            """;
    private static final String CONSTANTS = """
            NONE=-1
            EMPTY=0
            KING=1
            QUEEN=2
            ROOK=3
            BISHOP=4
            KNIGHT=5
            PAWN=6
            ONGOING=0
            CHECKMATE=1
            STALEMATE=2
            BARE_KINGS=3
            REPETITION=4
            QUIET=5
            NOT_PLAYED=1
            NO_OWN_PIECE=2
            CANNOT_MOVE=3
            CHECK=4
            TOO_FAR=5
            HAS_BOND=6
            HAS_NO_BOND=7
            """;

    public static void main(String[] args) throws IllegalAccessException {
        Class<?> face = KnightPairChess.class;
        Check.is("modifiers of the class", Modifier.PUBLIC | Modifier.FINAL, face.getModifiers());
        Check.same("methods", lines(METHODS), methods(face));
        Check.same("constants", lines(CONSTANTS), constants(face));
        Constructor<?>[] constructors = face.getDeclaredConstructors();
        Check.is("constructors", 1, constructors.length);
        Check.same("constructor", "public KnightPairChess()", constructors[0].toString());
        Check.finish();
    }

    private static TreeSet<String> lines(String text) {
        return new TreeSet<>(text.lines().toList());
    }

    private static TreeSet<String> methods(Class<?> face) {
        TreeSet<String> found = new TreeSet<>();
        TreeSet<String> hidden = new TreeSet<>();
        TreeSet<String> names = new TreeSet<>();
        for (Method method : face.getDeclaredMethods()) {
            if (Modifier.isPrivate(method.getModifiers())) {
                hidden.add(method.getName());
                continue;
            }
            names.add(method.getName());
            Check.is("modifiers of " + method, Modifier.PUBLIC, method.getModifiers());
            found.add(told(method));
        }
        hidden.retainAll(names);
        Check.same("private methods with the name of a public one", new TreeSet<String>(), hidden);
        return found;
    }

    private static String told(Method method) {
        StringBuilder text = new StringBuilder();
        text.append(method.getReturnType().getSimpleName()).append(' ').append(method.getName()).append('(');
        text.append(names(method.getParameterTypes())).append(')');
        if (method.getExceptionTypes().length > 0) {
            text.append(" throws ").append(names(method.getExceptionTypes()));
        }
        return text.toString();
    }

    private static String names(Class<?>[] types) {
        StringBuilder text = new StringBuilder();
        for (Class<?> type : types) {
            text.append(text.length() == 0 ? "" : ",").append(type.getSimpleName());
        }
        return text.toString();
    }

    private static TreeSet<String> constants(Class<?> face) throws IllegalAccessException {
        TreeSet<String> found = new TreeSet<>();
        for (Field field : face.getDeclaredFields()) {
            if (!Modifier.isPrivate(field.getModifiers())) {
                Check.is("modifiers of " + field, Modifier.PUBLIC | Modifier.STATIC | Modifier.FINAL,
                        field.getModifiers());
                Check.same("type of " + field, int.class, field.getType());
                found.add(field.getName() + "=" + field.get(null));
            }
        }
        return found;
    }
}
