import java.util.LinkedHashMap;
import java.util.Map;

/** Games that stand in each state that the document tells of, made anew at each call. */
final class Games {
    private Games() {
    }

    /** A board that is being set up and holds nothing. */
    static KnightPairChess empty() {
        KnightPairChess game = new KnightPairChess();
        game.beginSetup();
        return game;
    }

    /** A board that is being set up and holds a knight on every square. */
    static KnightPairChess full() {
        KnightPairChess game = empty();
        for (int square = 0; square < 64; square++) {
            game.place(square, KnightPairChess.KNIGHT, square < 32);
        }
        return game;
    }

    /** Black has knights that could be bonded if it were not in check. */
    static KnightPairChess checkmate() {
        return Check.moved(Check.begun("Ka1 Ng5 kh8 rg8 pg7 ph7 pf7 na8 nb6", true), "g5f7");
    }

    static KnightPairChess stalemate() {
        return Check.moved(Check.begun("ka8 Qc4 Kh1 pc5", true), "c4c5 a8b7 c5b5 b7a8 b5b6");
    }

    static KnightPairChess bareKings() {
        return Check.moved(Check.begun("Ka1 qc2 kh8", false), "c2b2 a1b2");
    }

    /** White, who is to act, could mate by the rook, but the position has occurred for the third time. */
    static KnightPairChess repetition() {
        String round = "a1b1 h8g8 b1a1 g8h8 ";
        return Check.moved(Check.begun("kh8 Kh6 Ra1 Nc3 Ne3", true), round + round.trim());
    }

    /** White, who is to act, could mate by a rook, but there were 40 quiet actions. */
    static KnightPairChess quiet() {
        KnightPairChess game = Check.begun("Ka1 Rb2 Rg1 kh8 Na7 Nb8", true);
        Check.tour(game, Check.TOUR + " e4 e3 f3", "h8h7");
        return Check.moved(game, "f3e3 h7h8");
    }

    /** A game that goes on, with bonds, captures and Black to act. */
    static KnightPairChess played() {
        KnightPairChess game = new KnightPairChess();
        Check.moved(game, "b1c3 d7d6 c3e4 c8g4 e2e3 g4d1");
        game.dissolve(Check.at("e4"));
        Check.moved(game, "b8c6");
        game.bond(Check.at("e4"), Check.at("g1"));
        return game;
    }

    /** A game in each way in which it is not being set up and goes on no more, by its outcome. */
    static Map<Integer, KnightPairChess> ended() {
        Map<Integer, KnightPairChess> games = new LinkedHashMap<>();
        games.put(KnightPairChess.CHECKMATE, checkmate());
        games.put(KnightPairChess.STALEMATE, stalemate());
        games.put(KnightPairChess.BARE_KINGS, bareKings());
        games.put(KnightPairChess.REPETITION, repetition());
        games.put(KnightPairChess.QUIET, quiet());
        for (Map.Entry<Integer, KnightPairChess> game : games.entrySet()) {
            Check.is("31: a game that has ended", game.getKey(), game.getValue().outcome());
        }
        return games;
    }

    /** A game in every state, by the state's name. */
    static Map<String, KnightPairChess> all() {
        Map<String, KnightPairChess> games = new LinkedHashMap<>();
        games.put("new", new KnightPairChess());
        games.put("played", played());
        games.put("in check", Check.begun("Ka1 kh8 ra8 Nc3 Ne3", true));
        games.put("empty set-up", empty());
        games.put("full set-up", full());
        games.put("set-up", Check.placed("Ka1 ke8 Nc3 Nd5 nf6 Qb2 pa7"));
        for (Map.Entry<Integer, KnightPairChess> game : ended().entrySet()) {
            games.put("ended with " + game.getKey(), game.getValue());
        }
        return games;
    }
}
