import java.util.Map;

/**
 * "Takes back the latest action that has not been taken back; the game can have ended by it." The only action, the
 * action that ended the game, and what there is to take back at all.
 */
final class TakeBackTest {
    public static void main(String[] args) {
        nothingToTakeBack();
        onlyAction();
        endingActions();
        endedWithoutAnAction();
        eachKindOfAction();
        otherWays();
        manyTimes();
        notBeyondTheSetup();
        Check.finish();
    }

    private static void refused(String what, KnightPairChess game) {
        String before = Check.picture(game);
        Check.badState("29: " + what, game::takeBack);
        Check.same("29: nothing was changed, " + what, before, Check.picture(game));
    }

    /** "if there is none, or during a set-up" */
    private static void nothingToTakeBack() {
        refused("a new game", new KnightPairChess());
        refused("an empty set-up", Games.empty());
        refused("a full set-up", Games.full());
        refused("a game that was set up", Check.begun("Ka1 kh8 Nc3", true));
        KnightPairChess game = Games.played();
        game.beginSetup();
        refused("a set-up after a game with actions", game);
    }

    private static void onlyAction() {
        KnightPairChess game = new KnightPairChess();
        String before = Check.picture(game);
        game.move(8, 16);
        Check.is("29: the only action", 0, game.takeBack());
        Check.same("29: as it was", before, Check.picture(game));
        refused("no more", game);
        game.dissolve(1);
        Check.is("29: the only action, a dissolving", 0, game.takeBack());
        Check.same("29: as it was", before, Check.picture(game));
        refused("no more", game);
        KnightPairChess bond = Check.begun("Ka1 kh8 Nc3 Ne3", true);
        String then = Check.picture(bond);
        bond.bond(Check.at("c3"), Check.at("e3"));
        Check.is("29: the only action, a bonding", 0, bond.takeBack());
        Check.same("29: as it was", then, Check.picture(bond));
        refused("no more", bond);
    }

    /** The action that ended the game, for each outcome, is taken back and done again. */
    private static void endingActions() {
        String[] last = {"", "g5f7", "b5b6", "a1b2", "g8h8", "h7h8"};
        for (Map.Entry<Integer, KnightPairChess> end : Games.ended().entrySet()) {
            KnightPairChess game = end.getValue();
            int outcome = end.getKey();
            String ended = Check.picture(game);
            int actions = game.actionCount();
            Check.is("29: outcome " + outcome, actions - 1, game.takeBack());
            Check.is("31: the game goes on", KnightPairChess.ONGOING, game.outcome());
            Check.is("30: one less", actions - 1, game.actionCount());
            Check.yes("20: it can be played", game.legalMoveCount() > 0);
            Check.moved(game, last[outcome]);
            Check.same("31: ended again, outcome " + outcome, ended, Check.picture(game));
            for (int left = actions - 1; left >= 0; left--) {
                Check.is("29: left", left, game.takeBack());
                Check.is("31: goes on", KnightPairChess.ONGOING, game.outcome());
            }
            refused("all is taken back", game);
        }
    }

    /** A set-up that has ended with an outcome is no action. */
    private static void endedWithoutAnAction() {
        refused("bare kings from the beginning", Check.begun("Ka1 kh8", true));
        refused("checkmate from the beginning", Check.begun("kh8 Kh6 Ra8", false));
        refused("stalemate from the beginning", Check.begun("ka8 Qb6 Kh1", false));
    }

    private static void eachKindOfAction() {
        taken("Ka1 kh8 Rb2", "b2b5", "a move");
        taken("Ka1 kh8 Rb2 nb5", "b2b5", "a capture of a knight");
        taken("Ka1 kg6 Rb2 qb5", "b2b5", "a capture of a queen");
        taken("Ka1 kh8 Pb2", "b2b3", "a move of a pawn");
        taken("Ka1 kh8 Pb2 pc3", "b2c3", "a capture by a pawn");
        taken("Ka1 kh6 Pb7", "b7b8", "a pawn that becomes a queen");
        taken("Ka1 kh6 Pb7 na8", "b7a8", "a pawn that captures and becomes a queen");
        taken("Ka1 kh6 Pb7 Pg2 rc8", "b7c8", "a pawn that captures and becomes a queen");
        KnightPairChess bonds = Check.begun("Kb1 Nc3 Ne3 kh8 bf6 pa7", true);
        bonds.bond(Check.at("c3"), Check.at("e3"));
        String before = Check.picture(bonds);
        Check.moved(bonds, "f6c3");
        Check.is("13: the bond is gone", 0, bonds.bondCount(true));
        Check.is("34: a knight", 1, bonds.capturedCount(KnightPairChess.KNIGHT, true));
        Check.is("29: a capture of a bonded knight", 1, bonds.takeBack());
        Check.same("29: the bond is back", before, Check.picture(bonds));
        Check.is("12: the bond is back", Check.at("e3"), bonds.bondOf(Check.at("c3")));
        Check.moved(bonds, "a7a6");
        String bonded = Check.picture(bonds);
        Check.moved(bonds, "c3d5");
        Check.is("12: the bond has gone with it", Check.at("e3"), bonds.bondOf(Check.at("d5")));
        bonds.takeBack();
        Check.same("29: a move of a bonded knight", bonded, Check.picture(bonds));
        bonds.dissolve(Check.at("e3"));
        bonds.takeBack();
        Check.same("29: a dissolving", bonded, Check.picture(bonds));
    }

    private static void taken(String pieces, String move, String what) {
        KnightPairChess game = Check.begun(pieces, true);
        String before = Check.picture(game);
        Check.moved(game, move);
        Check.no("29: something has changed by " + what, before.equals(Check.picture(game)));
        Check.is("29: " + what, 0, game.takeBack());
        Check.same("29: " + what, before, Check.picture(game));
    }

    /** After some actions were taken back others are done, and these are the latest ones then. */
    private static void otherWays() {
        KnightPairChess game = new KnightPairChess();
        Check.moved(game, "e2e3 e7e6 d1h5 b8c6 h5f7");
        Check.is("34: a pawn", 1, game.capturedCount(KnightPairChess.PAWN, false));
        game.takeBack();
        game.takeBack();
        game.takeBack();
        Check.is("34: none", 0, game.capturedCount(KnightPairChess.PAWN, false));
        Check.moved(game, "b1c3 a7a6");
        game.dissolve(Check.at("g1"));
        String before = Check.picture(game);
        KnightPairChess straight = Check.moved(new KnightPairChess(), "e2e3 e7e6 b1c3 a7a6");
        straight.dissolve(Check.at("g1"));
        Check.same("29: as without the actions taken back", Check.picture(straight), before);
        for (int left = 4; left >= 0; left--) {
            Check.is("29: left", left, straight.takeBack());
            Check.is("29: left", left, game.takeBack());
            Check.same("29: the same way back", Check.picture(straight), Check.picture(game));
        }
        refused("all is taken back", game);
    }

    private static void manyTimes() {
        KnightPairChess game = new KnightPairChess();
        String first = Check.picture(game);
        for (int time = 1; time <= 10; time++) {
            Check.moved(game, "b1c3");
            Check.is("30: one action", 1, game.actionCount());
            Check.is("32: once", 1, game.occurrences());
            Check.is("29: none left", 0, game.takeBack());
            Check.same("29: as in the beginning", first, Check.picture(game));
        }
    }

    /** Actions count from the end of the set-up on, and so does what can be taken back. */
    private static void notBeyondTheSetup() {
        KnightPairChess game = Games.played();
        game.beginSetup();
        game.place(0, KnightPairChess.KING, true);
        game.place(63, KnightPairChess.KING, false);
        game.place(10, KnightPairChess.ROOK, true);
        game.endSetup(true);
        String before = Check.picture(game);
        Check.moved(game, "a1b1 h8g8");
        Check.is("29: one left", 1, game.takeBack());
        Check.is("29: none left", 0, game.takeBack());
        Check.same("29: the position that was set up", before, Check.picture(game));
        refused("the set-up itself", game);
    }
}
