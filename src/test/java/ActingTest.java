/** Promises 26 to 34: acting, taking back, and the course and the end of the game. */
final class ActingTest {
    public static void main(String[] args) {
        move();
        moveOfPawns();
        moveRefused();
        bond();
        dissolve();
        bondsInTheCorners();
        endedByBonds();
        takeBack();
        takeBackOfEverything();
        actionCount();
        outcome();
        stalemateAndBonds();
        occurrences();
        occurrencesAndBonds();
        quietActions();
        endedByQuiet();
        whatComesBeforeQuiet();
        capturedCount();
        Check.finish();
    }

    private static int act(KnightPairChess game, String move) {
        return game.move(Check.at(move.substring(0, 2)), Check.at(move.substring(2, 4)));
    }

    private static void move() {
        KnightPairChess game = Check.begun("Ka1 Rh1 kg8 qh3 rb7 nc7 bd7 pe7", true);
        Check.is("26: a queen is captured", KnightPairChess.QUEEN, act(game, "h1h3"));
        Check.is("26: nothing is captured", KnightPairChess.EMPTY, act(game, "g8f8"));
        Check.is("26: the piece is there", KnightPairChess.ROOK, game.pieceAt(Check.at("h3")));
        Check.yes("26: and white", game.isWhite(Check.at("h3")));
        Check.is("26: and no more where it was", KnightPairChess.EMPTY, game.pieceAt(Check.at("h1")));
        Check.yes("26: White is to act", game.whiteToAct());
        act(game, "h3h7");
        act(game, "f8g8");
        Check.is("26: a pawn is captured", KnightPairChess.PAWN, act(game, "h7e7"));
        act(game, "g8f8");
        Check.is("26: a bishop is captured", KnightPairChess.BISHOP, act(game, "e7d7"));
        act(game, "f8g8");
        Check.is("26: a knight is captured", KnightPairChess.KNIGHT, act(game, "d7c7"));
        Check.is("26: a rook is captured", KnightPairChess.ROOK, act(game, "b7c7"));
        KnightPairChess knights = new KnightPairChess();
        act(knights, "b1c3");
        Check.is("26: the bond goes with the knight", 18, knights.bondOf(6));
        Check.is("26: its distance is new", 2, knights.longestBond(true));
    }

    private static void moveOfPawns() {
        KnightPairChess game = Check.begun("Ka1 Pc7 rb8 ka6 ph2 Ng1", true);
        Check.is("26: a rook is captured on the last rank", KnightPairChess.ROOK, act(game, "c7b8"));
        Check.is("26: the pawn is a queen", KnightPairChess.QUEEN, game.pieceAt(Check.at("b8")));
        Check.yes("26: a white one", game.isWhite(Check.at("b8")));
        Check.is("26: Black's captures, too", KnightPairChess.KNIGHT, act(game, "h2g1"));
        Check.is("26: and is a queen", KnightPairChess.QUEEN, game.pieceAt(Check.at("g1")));
        Check.no("26: a black one", game.isWhite(Check.at("g1")));
        Check.yes("26: that gives check", game.isInCheck(true));
        game.takeBack();
        Check.is("29: a pawn again", KnightPairChess.PAWN, game.pieceAt(Check.at("h2")));
        game.takeBack();
        Check.is("29: a pawn again", KnightPairChess.PAWN, game.pieceAt(Check.at("c7")));
        Check.is("29: and the rook is back", KnightPairChess.ROOK, game.pieceAt(Check.at("b8")));
        Check.is("26: ahead", KnightPairChess.EMPTY, act(game, "c7c8"));
        Check.is("26: a queen again", KnightPairChess.QUEEN, game.pieceAt(Check.at("c8")));
        KnightPairChess six = Check.begun("Ka1 Pc5 kh8 pf4", true);
        act(six, "c5c6");
        act(six, "f4f3");
        Check.is("26: not yet on the last rank", KnightPairChess.PAWN, six.pieceAt(Check.at("c6")));
        act(six, "c6c7");
        act(six, "f3f2");
        Check.is("26: not yet on the last rank", KnightPairChess.PAWN, six.pieceAt(Check.at("c7")));
        Check.is("26: not yet on the last rank", KnightPairChess.PAWN, six.pieceAt(Check.at("f2")));
        KnightPairChess rook = Check.begun("Ka1 Rc7 kh6", true);
        act(rook, "c7c8");
        Check.is("26: only pawns become queens", KnightPairChess.ROOK, rook.pieceAt(Check.at("c8")));
    }

    private static void moveRefused() {
        KnightPairChess game = new KnightPairChess();
        String before = Check.picture(game);
        Check.outside("26: from -1", () -> game.move(-1, 0));
        Check.outside("26: from 64", () -> game.move(64, 0));
        Check.outside("26: to -1", () -> game.move(8, -1));
        Check.outside("26: to 64, before the state", () -> game.move(30, 64));
        Check.badState("26: no piece", () -> game.move(30, 31));
        Check.badState("26: the other side's", () -> game.move(48, 40));
        Check.badState("26: not so", () -> game.move(8, 24));
        Check.badState("26: too far", () -> game.move(1, 16));
        Check.same("26: nothing was changed", before, Check.picture(game));
        KnightPairChess pinned = Check.begun("Ka1 Na2 ra8 kh8", true);
        Check.badState("26: in check then", () -> act(pinned, "a2b4"));
        KnightPairChess setup = Check.placed("Ka1 kh8 Qb2");
        Check.badState("26: during a set-up", () -> act(setup, "b2b3"));
        Check.outside("26: 64 during a set-up", () -> setup.move(0, 64));
        KnightPairChess ended = Check.begun("Ka1 kh8", true);
        Check.badState("26: ended", () -> act(ended, "a1a2"));
        Check.is("26: nothing was changed in the ended game", 0, ended.actionCount());
    }

    private static void bond() {
        KnightPairChess game = Check.begun("Kh1 kh8 Na1 Nb1 Nc2 Ne3 na8", true);
        Check.is("27: distance 3", 3, game.bond(0, 1));
        Check.is("27: the one", 1, game.bondOf(0));
        Check.is("27: the other", 0, game.bondOf(1));
        Check.no("27: Black is to act", game.whiteToAct());
        Check.is("27: an action", 1, game.actionCount());
        Check.is("27: a quiet one", 1, game.quietActions());
        game.takeBack();
        Check.is("27: taken back", KnightPairChess.NONE, game.bondOf(0));
        Check.is("27: distance 1", 1, game.bond(Check.at("c2"), Check.at("a1")));
        act(game, "h8h7");
        String before = Check.picture(game);
        Check.badState("27: has a bond", () -> game.bond(0, 1));
        Check.badState("27: the same square", () -> game.bond(1, 1));
        Check.badState("27: no knight", () -> game.bond(1, 7));
        Check.badState("27: of both sides", () -> game.bond(1, 56));
        Check.outside("27: -1", () -> game.bond(-1, 1));
        Check.outside("27: 64", () -> game.bond(1, 64));
        Check.outside("27: 64", () -> game.bond(64, 64));
        Check.same("27: nothing was changed", before, Check.picture(game));
        Check.is("27: three moves", game.knightDistance(1, 20), game.bond(1, 20));
        KnightPairChess setup = Check.placed("Kh1 kh8 Na1 Nb1");
        Check.badState("27: during a set-up", () -> setup.bond(0, 1));
        Check.outside("27: 64 during a set-up", () -> setup.bond(0, 64));
        KnightPairChess far = Check.begun("Kh1 kh8 Na1 Nb2", true);
        Check.badState("27: too far", () -> far.bond(0, 9));
    }

    private static void dissolve() {
        KnightPairChess game = new KnightPairChess();
        Check.is("28: the other knight", 1, game.dissolve(6));
        Check.is("28: the bond is gone", KnightPairChess.NONE, game.bondOf(1));
        Check.is("28: at both ends", KnightPairChess.NONE, game.bondOf(6));
        Check.no("28: Black is to act", game.whiteToAct());
        Check.is("28: a quiet action", 1, game.quietActions());
        String before = Check.picture(game);
        Check.badState("28: the other side's", () -> game.dissolve(1));
        Check.badState("28: no knight", () -> game.dissolve(60));
        Check.badState("28: nothing", () -> game.dissolve(30));
        Check.outside("28: -1", () -> game.dissolve(-1));
        Check.outside("28: 64", () -> game.dissolve(64));
        Check.same("28: nothing was changed", before, Check.picture(game));
        Check.is("28: Black's", 62, game.dissolve(57));
        Check.badState("28: no bond", () -> game.dissolve(1));
        game.takeBack();
        game.takeBack();
        Check.is("28: taken back", 6, game.bondOf(1));
        Check.is("28: the other end", 6, game.dissolve(1));
        game.beginSetup();
        Check.badState("28: during a set-up", () -> game.dissolve(1));
    }

    private static void bondsInTheCorners() {
        for (String ends : new String[] {"a1b3", "b3a1", "h8g6", "g6h8"}) {
            String one = ends.substring(0, 2);
            String other = ends.substring(2, 4);
            KnightPairChess game = Check.begun("Ke1 kd8 N" + one + " N" + other + " pa7", true);
            game.bond(Check.at(one), Check.at(other));
            act(game, "a7a6");
            Check.is("28: the other knight", Check.at(other), game.dissolve(Check.at(one)));
            Check.is("28: no bond", KnightPairChess.NONE, game.bondOf(Check.at(one)));
            Check.is("28: no bond", KnightPairChess.NONE, game.bondOf(Check.at(other)));
            Check.is("13: none left", 0, game.bondCount(true));
            Check.is("29: left", 2, game.takeBack());
            Check.is("29: the bond is back", Check.at(one), game.bondOf(Check.at(other)));
        }
        KnightPairChess walk = Check.begun("Ke1 ke8 Na1 Nd4 bh8 pa7", true);
        walk.bond(Check.at("a1"), Check.at("d4"));
        Check.moved(walk, "a7a6 a1b3 a6a5 b3a1");
        Check.is("26: from the corner and back", Check.at("d4"), walk.bondOf(0));
        Check.is("26: nothing is left behind", KnightPairChess.NONE, walk.bondOf(Check.at("b3")));
        Check.moved(walk, "a5a4 d4b3 h8a1");
        Check.is("26: the bond ends with the capture in the corner", KnightPairChess.NONE, walk.bondOf(Check.at("b3")));
        Check.is("26: the bishop has none", KnightPairChess.NONE, walk.bondOf(0));
        act(walk, "b3a1");
        Check.is("26: nor the knight that comes back", KnightPairChess.NONE, walk.bondOf(0));
    }

    private static void takeBack() {
        KnightPairChess game = new KnightPairChess();
        Check.badState("29: none", game::takeBack);
        String[] pictures = new String[6];
        pictures[0] = Check.picture(game);
        act(game, "b1c3");
        pictures[1] = Check.picture(game);
        game.dissolve(62);
        pictures[2] = Check.picture(game);
        game.dissolve(18);
        pictures[3] = Check.picture(game);
        act(game, "b8a6");
        pictures[4] = Check.picture(game);
        game.bond(18, 6);
        pictures[5] = Check.picture(game);
        for (int left = 4; left >= 0; left--) {
            Check.is("29: left", left, game.takeBack());
            Check.same("29: as it was", pictures[left], Check.picture(game));
        }
        Check.badState("29: no more", game::takeBack);
        Check.same("29: nothing was changed", pictures[0], Check.picture(game));
        act(game, "g1f3");
        Check.is("29: another way", 1, game.actionCount());
        Check.is("29: another way", Check.at("f3"), game.bondOf(1));
    }

    private static void takeBackOfEverything() {
        KnightPairChess game = Check.begun("kh8 Kh6 Ra1", true);
        act(game, "a1a8");
        Check.is("29: checkmate", KnightPairChess.CHECKMATE, game.outcome());
        Check.is("29: the end is taken back", 0, game.takeBack());
        Check.is("29: the game goes on", KnightPairChess.ONGOING, game.outcome());
        act(game, "a1b1");
        Check.is("29: another move", KnightPairChess.ONGOING, game.outcome());
        Check.is("29: left", 0, game.takeBack());
        Check.badState("29: the set-up cannot be taken back", game::takeBack);
        act(game, "a1a2");
        game.beginSetup();
        Check.badState("29: during a set-up", game::takeBack);
        KnightPairChess bare = Check.begun("Ka1 qb2 kh8", true);
        act(bare, "a1b2");
        Check.is("31: bare kings", KnightPairChess.BARE_KINGS, bare.outcome());
        Check.is("34: the queen", 1, bare.capturedCount(KnightPairChess.QUEEN, false));
        bare.takeBack();
        Check.is("29: the queen is back", KnightPairChess.QUEEN, bare.pieceAt(Check.at("b2")));
        Check.no("29: as a black one", bare.isWhite(Check.at("b2")));
        Check.is("29: the king is back", 0, bare.kingSquare(true));
        Check.is("34: no queen", 0, bare.capturedCount(KnightPairChess.QUEEN, false));
    }

    private static void actionCount() {
        KnightPairChess game = new KnightPairChess();
        Check.is("30: none", 0, game.actionCount());
        act(game, "a2a3");
        game.dissolve(57);
        Check.is("30: two", 2, game.actionCount());
        Check.badState("30: a refused one", () -> game.move(0, 0));
        Check.is("30: does not count", 2, game.actionCount());
        game.dissolve(1);
        act(game, "b8a6");
        game.bond(1, 6);
        Check.is("30: five", 5, game.actionCount());
        game.takeBack();
        Check.is("30: four", 4, game.actionCount());
        game.beginSetup();
        Check.is("30: during a set-up", 0, game.actionCount());
        game.place(0, 1, true);
        game.place(63, 1, false);
        game.place(9, 3, true);
        game.endSetup(false);
        Check.is("30: counted from its end on", 0, game.actionCount());
        game.move(63, 62);
        Check.is("30: one", 1, game.actionCount());
    }

    private static void outcome() {
        Check.is("31: new", KnightPairChess.ONGOING, new KnightPairChess().outcome());
        KnightPairChess mate = Check.begun("kh8 Kh6 Ra1", true);
        act(mate, "a1a8");
        Check.is("31: checkmate", KnightPairChess.CHECKMATE, mate.outcome());
        KnightPairChess stale = Check.begun("ka8 Qb5 Kh1", true);
        act(stale, "b5b6");
        Check.is("31: stalemate", KnightPairChess.STALEMATE, stale.outcome());
        Check.is("31: a pawn is enough", KnightPairChess.ONGOING, Check.begun("Ka1 kh8 Pa2", true).outcome());
        Check.is("31: a knight is enough", KnightPairChess.ONGOING, Check.begun("Ka1 kh8 na2", true).outcome());
        KnightPairChess bare = Check.begun("Ka1 kh8", false);
        Check.is("31: bare kings", KnightPairChess.BARE_KINGS, bare.outcome());
        bare.beginSetup();
        Check.is("31: during a set-up", KnightPairChess.ONGOING, bare.outcome());
        bare.place(0, 1, true);
        Check.is("31: during a set-up", KnightPairChess.ONGOING, bare.outcome());
    }

    /** A side that cannot move is not stalemated as long as it can bond knights or dissolve a bond. */
    private static void stalemateAndBonds() {
        KnightPairChess one = Check.begun("Ka1 Na3 ra8 qb3 kh8", true);
        Check.is("31: one pinned knight", KnightPairChess.STALEMATE, one.outcome());
        KnightPairChess far = Check.begun("Ka1 Na3 Ng1 ra8 rh1 qb3 kh8", true);
        Check.is("31: two of them, at distance 4", KnightPairChess.STALEMATE, far.outcome());
        KnightPairChess near = Check.begun("Ka1 Na3 Nf1 ra8 rh1 qb3 kh8 ph7", true);
        Check.is("31: two of them, at distance 3", KnightPairChess.ONGOING, near.outcome());
        Check.is("20: no legal move", 0, near.legalMoveCount());
        Check.is("25: no legal move", 0, near.countSequences(1));
        Check.is("22: but a bonding", 0, near.bondRefusal(Check.at("a3"), Check.at("f1")));
        near.bond(Check.at("a3"), Check.at("f1"));
        act(near, "h7h6");
        Check.is("31: with a bond", KnightPairChess.ONGOING, near.outcome());
        Check.is("20: no legal move", 0, near.legalMoveCount());
        near.dissolve(Check.at("a3"));
        act(near, "h6h5");
        Check.is("31: without it", KnightPairChess.ONGOING, near.outcome());
        KnightPairChess others = Check.begun("Ka1 Na3 ra8 qb3 kh8 nh6 ng6", true);
        Check.is("31: Black's knights do not help White", KnightPairChess.STALEMATE, others.outcome());
    }

    /** Bondings and dissolvings end the game like moves. */
    private static void endedByBonds() {
        KnightPairChess stale = Check.begun("ka8 Qb6 Kh1 Nc1 Ne1", true);
        stale.bond(Check.at("c1"), Check.at("e1"));
        Check.is("31: stalemate after a bonding", KnightPairChess.STALEMATE, stale.outcome());
        KnightPairChess dissolved = Check.begun("ka8 Qb6 Kh3 Nc1 Ne1 ph5", true);
        dissolved.bond(Check.at("c1"), Check.at("e1"));
        act(dissolved, "h5h4");
        Check.is("31: goes on", KnightPairChess.ONGOING, dissolved.outcome());
        dissolved.dissolve(Check.at("e1"));
        Check.is("31: stalemate after a dissolving", KnightPairChess.STALEMATE, dissolved.outcome());
        repeatedByBonds();
    }

    private static void repeatedByBonds() {
        KnightPairChess game = Check.begun("Ka1 kh8 Nc3 Nd5 nf6 ng4", true);
        for (int round = 0; round < 2; round++) {
            Check.is("31: goes on", KnightPairChess.ONGOING, game.outcome());
            game.bond(Check.at("c3"), Check.at("d5"));
            game.bond(Check.at("f6"), Check.at("g4"));
            game.dissolve(Check.at("d5"));
            game.dissolve(Check.at("f6"));
        }
        Check.is("31: repetition by a dissolving", KnightPairChess.REPETITION, game.outcome());
        game.takeBack();
        Check.moved(game, "h8h7");
        Check.is("31: goes on", KnightPairChess.ONGOING, game.outcome());
        KnightPairChess other = Check.begun("Ka1 kh8 Nc3 Nd5 nf6 ng4", true);
        other.bond(Check.at("c3"), Check.at("d5"));
        Check.moved(other, "h8g8 a1a2 g8h8 a2a1 h8g8");
        other.dissolve(Check.at("c3"));
        act(other, "g8h8");
        Check.is("31: goes on", KnightPairChess.ONGOING, other.outcome());
        other.bond(Check.at("d5"), Check.at("c3"));
        Check.is("32: three times", 3, other.occurrences());
        Check.is("31: repetition by a bonding", KnightPairChess.REPETITION, other.outcome());
        quietByBonds();
    }

    private static void quietByBonds() {
        KnightPairChess game = Check.begun("Ka1 Rb2 kh8 nh5 nh6 Nh2 Nh1", true);
        Check.tour(game, Check.TOUR + " e4 e3 e2", "h8g8");
        act(game, "e2f2");
        game.bond(Check.at("h5"), Check.at("h6"));
        Check.is("31: 40 with a bonding", KnightPairChess.QUIET, game.outcome());
        KnightPairChess ended = Check.begun("Ka1 Rb2 kh8 nh5 nh6", true);
        act(ended, "b2c2");
        ended.bond(Check.at("h5"), Check.at("h6"));
        act(ended, "c2b2");
        act(ended, "h8h7");
        Check.tour(ended, Check.TOUR + " e4", "h7g8");
        act(ended, "e4e3");
        Check.is("33: 39", 39, ended.quietActions());
        ended.dissolve(Check.at("h6"));
        Check.is("31: 40 with a dissolving", KnightPairChess.QUIET, ended.outcome());
    }

    private static void occurrences() {
        KnightPairChess game = new KnightPairChess();
        Check.is("32: new", 1, game.occurrences());
        Check.moved(game, "b1c3 b8c6 c3b1 c6b8");
        Check.is("32: twice", 2, game.occurrences());
        Check.is("31: goes on", KnightPairChess.ONGOING, game.outcome());
        Check.moved(game, "g1f3 b8c6 f3g1");
        Check.is("32: with Black to act", 2, game.occurrences());
        act(game, "c6b8");
        Check.is("32: three times", 3, game.occurrences());
        Check.is("31: repetition", KnightPairChess.REPETITION, game.outcome());
        game.takeBack();
        Check.is("32: taken back", 2, game.occurrences());
        Check.is("31: goes on again", KnightPairChess.ONGOING, game.outcome());
        act(game, "c6b8");
        Check.is("32: three times again", 3, game.occurrences());
        game.beginSetup();
        Check.is("32: during a set-up", 0, game.occurrences());
        KnightPairChess turn = Check.begun("Ka1 Rh1 kd8", true);
        Check.moved(turn, "a1b1 d8e8 b1b2 e8d8 b2a1");
        Check.is("32: the same pieces, but the other side to act", 1, turn.occurrences());
        KnightPairChess kinds = Check.begun("Ka1 Rb3 Rc4 kd8", true);
        Check.moved(kinds, "b3b4 d8e8 c4c3 e8d8 b4b3 d8e8 c3c4 e8d8");
        Check.is("32: the same pieces", 2, kinds.occurrences());
        KnightPairChess swapped = Check.begun("Ka1 Rb3 Rb4 kd8", true);
        Check.moved(swapped, "b3c3 d8e8 b4b3 e8d8 c3c4 d8e8 c4b4 e8d8");
        Check.is("32: two rooks have changed places", 2, swapped.occurrences());
        KnightPairChess other = Check.begun("Ka1 Qb3 Rb4 kh7", true);
        Check.moved(other, "b3c3 h7h6 b4b3 h6h7 c3c4 h7h6 c4b4 h6h7");
        Check.is("32: a queen and a rook have changed places", 1, other.occurrences());
    }

    private static void occurrencesAndBonds() {
        KnightPairChess game = new KnightPairChess();
        game.dissolve(1);
        Check.moved(game, "b8c6 b1c3 c6b8 c3b1");
        Check.is("32: Black is to act without White's bond", 2, game.occurrences());
        act(game, "b8c6");
        game.bond(1, 6);
        act(game, "c6b8");
        Check.is("32: as in the beginning", 2, game.occurrences());
        KnightPairChess pairs = Check.begun("Ka1 Nc3 Nd5 Ne3 Nf5 kh8", true);
        pairs.bond(Check.at("c3"), Check.at("d5"));
        act(pairs, "h8h7");
        pairs.bond(Check.at("e3"), Check.at("f5"));
        act(pairs, "h7h8");
        Check.is("32: two pairs", 1, pairs.occurrences());
        pairs.dissolve(Check.at("c3"));
        act(pairs, "h8h7");
        pairs.dissolve(Check.at("e3"));
        act(pairs, "h7h8");
        Check.is("32: no pairs, as in the beginning", 2, pairs.occurrences());
        pairs.bond(Check.at("c3"), Check.at("f5"));
        act(pairs, "h8h7");
        pairs.bond(Check.at("e3"), Check.at("d5"));
        act(pairs, "h7h8");
        Check.is("32: the same knights in other pairs", 1, pairs.occurrences());
    }

    private static void quietActions() {
        KnightPairChess game = new KnightPairChess();
        Check.is("33: none", 0, game.quietActions());
        act(game, "b1c3");
        game.dissolve(57);
        Check.is("33: a move and a dissolving", 2, game.quietActions());
        act(game, "e2e3");
        Check.is("33: a move of a pawn", 0, game.quietActions());
        act(game, "b8c6");
        act(game, "c3d5");
        act(game, "c6d4");
        Check.is("33: three moves", 3, game.quietActions());
        act(game, "e3d4");
        Check.is("33: a capture by a pawn", 0, game.quietActions());
        act(game, "a8b8");
        act(game, "d1g4");
        act(game, "b8a8");
        act(game, "g4d7");
        Check.is("33: a capture by a queen", 0, game.quietActions());
        game.takeBack();
        Check.is("33: taken back", 3, game.quietActions());
        Check.moved(game, "g4g5");
        Check.is("33: another move", 4, game.quietActions());
        for (int action = 0; action < 4; action++) {
            game.takeBack();
        }
        Check.is("33: the capture by the pawn again", 0, game.quietActions());
        game.takeBack();
        Check.is("33: before it", 3, game.quietActions());
        game.beginSetup();
        Check.is("33: during a set-up", 0, game.quietActions());
        KnightPairChess last = Check.begun("Ka1 kh6 Pc7", true);
        act(last, "a1a2");
        act(last, "h6h7");
        act(last, "c7c8");
        Check.is("33: a pawn that becomes a queen", 0, last.quietActions());
        act(last, "h7h6");
        Check.is("33: from then on", 1, last.quietActions());
    }

    private static void endedByQuiet() {
        KnightPairChess game = Check.begun("Ka1 Rb2 kh8 Ph2", true);
        Check.tour(game, Check.TOUR + " e4 e3 e2", "h8g8");
        act(game, "e2f2");
        Check.is("33: 39", 39, game.quietActions());
        Check.is("31: 39 are not enough", KnightPairChess.ONGOING, game.outcome());
        act(game, "g8h8");
        Check.is("33: 40", 40, game.quietActions());
        Check.is("31: 40 are enough", KnightPairChess.QUIET, game.outcome());
        Check.is("21: the game is not played", KnightPairChess.NOT_PLAYED, game.moveRefusal(0, 1));
        Check.yes("25: but moves are counted", game.countSequences(1) > 0);
        game.takeBack();
        Check.is("31: taken back", KnightPairChess.ONGOING, game.outcome());
        Check.is("33: taken back", 39, game.quietActions());
        game.takeBack();
        act(game, "h2h3");
        act(game, "g8h8");
        Check.is("31: a move of a pawn", KnightPairChess.ONGOING, game.outcome());
        Check.is("33: and one quiet action", 1, game.quietActions());
    }

    private static void whatComesBeforeQuiet() {
        KnightPairChess again = Check.begun("Ka1 Rb2 kh8 Ph2", true);
        Check.tour(again, Check.TOUR, "h8g8");
        Check.moved(again, "e5e4 h8h7 e4e5 h7h8 e5e4 h8h7 e4e5");
        Check.is("31: 39", KnightPairChess.ONGOING, again.outcome());
        act(again, "h7h8");
        Check.is("33: 40", 40, again.quietActions());
        Check.is("31: repetition comes first", KnightPairChess.REPETITION, again.outcome());
        KnightPairChess mate = Check.begun("Ka1 Rb2 Rg1 kh8", false);
        act(mate, "h8h7");
        Check.tour(mate, Check.TOUR + " e4 e3 e2", "h7h8");
        Check.is("33: 39", 39, mate.quietActions());
        act(mate, "e2h2");
        Check.is("33: 40", 40, mate.quietActions());
        Check.is("31: checkmate comes first", KnightPairChess.CHECKMATE, mate.outcome());
        String round = "f1 e2 d1 b3 a2 c4 b5 a6 b7 g2 ";
        KnightPairChess stale = Check.begun("Kf7 Bf1 kh8", false);
        act(stale, "h8h7");
        Check.tour(stale, round + round.trim(), "h7h8");
        Check.is("33: 39", 39, stale.quietActions());
        Check.is("31: 39", KnightPairChess.ONGOING, stale.outcome());
        act(stale, "g2e4");
        Check.is("33: 40", 40, stale.quietActions());
        Check.is("31: stalemate comes first", KnightPairChess.STALEMATE, stale.outcome());
        KnightPairChess bonds = Check.begun("Ka1 Nc3 Nd5 kh8 rh2", true);
        act(bonds, "c3e4");
        act(bonds, "h2h3");
        bonds.bond(Check.at("e4"), Check.at("d5"));
        Check.is("33: a bonding is quiet", 3, bonds.quietActions());
    }

    private static void capturedCount() {
        KnightPairChess game = Check.begun("Ka1 Pc7 rb8 kb6 Rh8 nh2 Nh4 bh7 ph6", true);
        for (int kind = 1; kind <= 6; kind++) {
            Check.is("34: none", 0, game.capturedCount(kind, true) + game.capturedCount(kind, false));
        }
        Check.badArgument("34: 0", () -> game.capturedCount(0, true));
        Check.badArgument("34: 7", () -> game.capturedCount(7, false));
        Check.badArgument("34: -1", () -> game.capturedCount(-1, false));
        act(game, "c7b8");
        Check.is("34: a rook", 1, game.capturedCount(KnightPairChess.ROOK, false));
        Check.is("34: not White's", 0, game.capturedCount(KnightPairChess.ROOK, true));
        Check.yes("34: Black is in check", game.isInCheck(false));
        act(game, "b6c6");
        act(game, "b8h2");
        Check.is("34: a knight", 1, game.capturedCount(KnightPairChess.KNIGHT, false));
        act(game, "c6d5");
        act(game, "h8h7");
        Check.is("34: a bishop", 1, game.capturedCount(KnightPairChess.BISHOP, false));
        act(game, "h6h5");
        act(game, "h7h5");
        Check.is("34: a pawn", 1, game.capturedCount(KnightPairChess.PAWN, false));
        Check.is("34: still one knight", 1, game.capturedCount(KnightPairChess.KNIGHT, false));
        game.takeBack();
        Check.is("34: taken back", 0, game.capturedCount(KnightPairChess.PAWN, false));
        act(game, "h7g7");
        game.takeBack();
        act(game, "h7h5");
        game.takeBack();
        Check.is("34: taken back again", 0, game.capturedCount(KnightPairChess.PAWN, false));
        Check.is("34: the others are not", 1, game.capturedCount(KnightPairChess.BISHOP, false));
        Check.is("34: no king", 0, game.capturedCount(KnightPairChess.KING, false));
        game.beginSetup();
        Check.is("34: during a set-up", 0, game.capturedCount(KnightPairChess.ROOK, false));
        Check.badArgument("34: 7 during a set-up", () -> game.capturedCount(7, true));
        queenThatWasAPawn();
        KnightPairChess knights = Check.begun("Ka1 Nb3 Nc5 kh8 pd7", true);
        act(knights, "c5d7");
        Check.is("34: a pawn", 1, knights.capturedCount(KnightPairChess.PAWN, false));
        knights.takeBack();
        knights.bond(Check.at("b3"), Check.at("c5"));
        Check.is("34: a bonding captures nothing", 0, knights.capturedCount(KnightPairChess.PAWN, false));
    }

    private static void queenThatWasAPawn() {
        KnightPairChess game = Check.begun("Ka1 Pc7 kg7 rh8 Pd7 re8", true);
        act(game, "c7c8");
        act(game, "e8c8");
        Check.is("34: it is a queen", 1, game.capturedCount(KnightPairChess.QUEEN, true));
        Check.is("34: it is no pawn", 0, game.capturedCount(KnightPairChess.PAWN, true));
        act(game, "d7c8");
        act(game, "h8c8");
        Check.is("34: another one", 2, game.capturedCount(KnightPairChess.QUEEN, true));
        Check.is("34: and a rook", 1, game.capturedCount(KnightPairChess.ROOK, false));
        Check.is("34: none of Black's queens", 0, game.capturedCount(KnightPairChess.QUEEN, false));
    }
}
