/** Promises 26, 27, 29 and 31 to 33: sounds, marks, totals, and what would be. */
public final class HeardTest {
    public static void main(String[] args) {
        soundOfAPlace();
        soundOfSeveral();
        soundOfLaterPlaces();
        placeRefusals();
        meanAndRhythm();
        tone();
        arrangementMark();
        arrangementMarkHeld();
        markRefusals();
        many();
        manyRefusals();
        wouldTotal();
        wouldTotalAsDaysDo();
        bestOrder();
        bestOrderAsTriedByHand();
        bestOrderOfFew();
        bestTeach();
        bestTeachOfSeveral();
        bestTeachAsTriedByHand();
        bestTeachRefusals();
        Check.finish();
    }

    /** A bass pan with all but note 4 in tune, and player 0 on it, of speed 9 and a reach of 8. */
    private static Panyard bass() {
        Panyard x = new Panyard();
        x.pan(3);
        x.player(3, 9, 8);
        x.give(0, 0);
        Check.offs("bass", x, 0, -6, -1, 4, 9, 14, -12, -7, -2);
        Check.due("grade of the bass", x.ofPan(0, 3), 7);
        return x;
    }

    private static void soundOfAPlace() {
        Panyard x = bass();
        x.phrase(3, 1, 24);
        x.put(0);
        Check.due("knows nothing", x.ofPlace(0, 1), 0);
        x.teach(0, 0, 5);
        Check.due("45 and 1 of 2 notes", x.ofPlace(0, 1), 22);
        x.change(0, 1, 56);
        x.teach(0, 0, 3);
        Check.due("49", x.memory(0, 0), 49);
        Check.due("49 and 2 of 3 notes", x.ofPlace(0, 1), 32);
        x.change(0, 1, 16);
        Check.due("no note in tune", x.ofPlace(0, 1), 0);
        x.change(0, 1, 8);
        Check.due("12 and 1 of 1", x.ofPlace(0, 1), 12);
        x.absent(0, true);
        Check.due("none sounds", x.ofPlace(0, 1), 0);
        Check.due("its phrase", x.ofPlace(0, 0), 0);
    }

    private static void soundOfSeveral() {
        Panyard x = bass();
        x.phrase(3, 1, 24);
        x.phrase(2, 1, 24);
        x.put(0);
        x.player(3, 6, 8);
        x.player(3, 9, 8);
        x.player(2, 9, 8);
        x.pan(2);
        x.give(3, 1);
        x.give(1, 0);
        x.teach(0, 0, 5);
        x.teach(1, 0, 11);
        x.teach(2, 0, 11);
        x.teach(3, 1, 11);
        Check.due("the mean of 22 and 33", x.ofPlace(0, 1), 27);
        x.pan(3);
        x.give(2, 2);
        // 20 + 9 = 29 behind 14: -1 4 9 14 ...: note 3 is out of tune there, too.
        Check.offs("pan 2", x, 2, 8, 13, -13, -8, -3, 2, 7, 12);
        Check.due("the mean of 22, 33 and 99", x.ofPlace(0, 1), 51);
        x.absent(0, true);
        Check.due("the mean of 33 and 99", x.ofPlace(0, 1), 66);
        x.give(1, -1);
        Check.due("99", x.ofPlace(0, 1), 99);
    }

    private static void soundOfLaterPlaces() {
        Panyard x = bass();
        x.phrase(3, 7, 1);
        x.teach(0, 0, 9);
        Check.due("81 / 7", x.memory(0, 0), 11);
        int[] want = {11, 10, 8, 6, 4, 3, 1, 0, 0, 0};
        for (int place = 0; place < 10; place++) {
            x.put(0);
        }
        for (int place = 0; place < 10; place++) {
            Check.due("sound of place " + place, x.ofPlace(place, 1), want[place]);
        }
        Check.due("mean, 43 / 10", x.mark(0), 4);
        Check.due("least", x.mark(3), 0);
        x.cut(9);
        x.cut(8);
        x.cut(7);
        Check.due("least of 7", x.mark(3), 1);
        Check.due("mean, 43 / 7", x.mark(0), 6);
    }

    private static void placeRefusals() {
        Panyard x = new Panyard();
        Check.refused("no place", x, Check.INDEX, () -> x.ofPlace(0, 0));
        x.phrase(0, 1, 1);
        x.put(0);
        Check.refused("place 1", x, Check.INDEX, () -> x.ofPlace(1, 2));
        Check.refused("place -1", x, Check.INDEX, () -> x.ofPlace(-1, 0));
        Check.refused("what 2", x, Check.ARGUMENT, () -> x.ofPlace(0, 2));
        Check.refused("what -1", x, Check.ARGUMENT, () -> x.ofPlace(0, -1));
    }

    private static void meanAndRhythm() {
        Panyard x = bass();
        x.phrase(3, 1, 1);
        x.phrase(3, 1, 8);
        x.phrase(2, 1, 8);
        x.teach(0, 0, 10);
        x.teach(0, 1, 5);
        Check.due("no places: mean", x.mark(0), 0);
        Check.due("no places: least", x.mark(3), 0);
        x.put(0);
        Check.due("one place: mean", x.mark(0), 90);
        Check.due("one place: least", x.mark(3), 90);
        x.put(1);
        Check.due("90 and 45: mean", x.mark(0), 67);
        Check.due("90 and 45: least", x.mark(3), 45);
        x.put(2);
        Check.due("a section without a player: mean", x.mark(0), 45);
        Check.due("a section without a player: least", x.mark(3), 0);
    }

    private static void tone() {
        Panyard x = bass();
        Check.due("12 * 7", x.mark(1), 84);
        x.pan(0);
        Check.due("a pan of nobody does not count", x.mark(1), 84);
        x.player(0, 1, 1);
        Check.due("nor a player without one", x.mark(1), 84);
        x.give(1, 1);
        // 7 * 1 + 5 * note: -8 -3 2 7 12 -14 -9 -4; in tune to 6.
        Check.due("grade 3", x.ofPan(1, 3), 3);
        Check.due("12 * 10 / 2", x.mark(1), 60);
        x.player(0, 1, 1);
        x.give(2, 1);
        Check.due("12 * 13 / 3: each player counts", x.mark(1), 52);
        x.absent(0, true);
        Check.due("12 * 6 / 2", x.mark(1), 36);
        x.absent(0, false);
        x.absent(1, true);
        x.blow(1, 3, -1);
        Check.due("12 * 11 / 2", x.mark(1), 66);
        x.player(0, 1, 1);
        x.give(3, 1);
        Check.due("12 * 15 / 3", x.mark(1), 60);
        for (int i = 0; i < 15; i++) {
            x.blow(0, 0, i % 2 == 0 ? 20 : -20);
        }
        Check.due("a cracked one does not count", x.mark(1), 48);
        x.give(2, -1);
        x.give(3, -1);
        Check.due("none sounds", x.mark(1), 0);
    }

    private static void arrangementMark() {
        Panyard x = new Panyard();
        x.phrase(0, 4, 1);
        x.phrase(1, 5, 1);
        x.phrase(2, 9, 1);
        Check.due("none", x.mark(2), 0);
        x.put(0);
        Check.due("12", x.mark(2), 12);
        x.put(1);
        Check.due("12 and 15", x.mark(2), 27);
        x.put(0);
        Check.due("once", x.mark(2), 27);
        x.put(0);
        Check.due("8 less", x.mark(2), 19);
        x.put(0);
        Check.due("16 less", x.mark(2), 11);
        x.put(1);
        x.put(1);
        Check.due("24 less", x.mark(2), 3);
        x.change(1, 6, 1);
        Check.due("as hard as it is now", x.mark(2), 6);
        x.put(1);
        Check.due("0 at least", x.mark(2), 0);
        x.cut(1);
        Check.due("cut together: 40 less", x.mark(2), 0);
    }

    private static void arrangementMarkHeld() {
        Panyard x = new Panyard();
        int[] hards = {9, 9, 9, 6, 1, 9};
        int[] want = {27, 54, 81, 99, 100, 100};
        for (int i = 0; i < hards.length; i++) {
            x.phrase(0, hards[i], 1);
            x.put(i);
            Check.due("100 at most " + i, x.mark(2), want[i]);
        }
        // 129 without repeats: held behind taking off.
        x.put(5);
        x.put(5);
        x.put(5);
        Check.due("129 less 24", x.mark(2), 100);
        x.put(5);
        Check.due("129 less 32", x.mark(2), 97);
    }

    private static void markRefusals() {
        Panyard x = bass();
        Check.refused("mark 4", x, Check.INDEX, () -> x.mark(4));
        Check.refused("mark -1", x, Check.INDEX, () -> x.mark(-1));
    }

    private static void many() {
        Panyard x = bass();
        x.pan(1);
        x.phrase(3, 1, 1);
        x.phrase(3, 2, 1);
        x.phrase(3, 3, 1);
        x.player(3, 1, 1);
        x.player(3, 1, 1);
        x.give(2, 0);
        x.put(0);
        x.put(1);
        x.put(0);
        x.put(2);
        x.rival(400);
        x.rival(10);
        x.lean(1, 9);
        x.lean(2, 4);
        x.blow(1, 0, 1);
        x.pass(2, 0, 0);
        x.play();
        x.rehearse(25);
        // The tone is 84, and three phrases are 18; nobody knows anything.
        int[] want = {2, 2, 3, 4, 3, 2, 2, 170, 1, 0, 102, 106, 25, 1};
        for (int what = 0; what <= 13; what++) {
            Check.due("many " + what, x.many(what), want[what]);
        }
        x.tuner(0, 20);
        Check.due("a tuner's blow counts", x.many(13), 2);
        x.teach(0, 0, 10);
        int sum = x.mark(0) + x.mark(1) + x.mark(2) + x.mark(3);
        Check.due("the total is the sum of marks", x.many(10), sum);
        Check.due("the mark 0 is heard there", x.mark(0) > 0, true);
    }

    private static void manyRefusals() {
        Panyard x = bass();
        Check.refused("many -1", x, Check.ARGUMENT, () -> x.many(-1));
        Check.refused("many 14", x, Check.ARGUMENT, () -> x.many(14));
    }

    private static void wouldTotal() {
        Panyard x = bass();
        x.phrase(3, 5, 1);
        x.put(0);
        x.teach(0, 0, 50);
        // 90 twice, the tone 84, and 15; a day takes 3 of the memory.
        Check.due("now", x.wouldTotal(0), 279);
        Check.due("as it is", x.many(10), 279);
        Check.due("the first day spares", x.wouldTotal(1), 279);
        Check.due("the second does not", x.wouldTotal(2), 273);
        long before = x.digest();
        Check.due("behind 31 days", x.wouldTotal(31), 99);
        Check.due("0 at least", x.wouldTotal(60), 99);
        Check.due("behind 30 days", x.wouldTotal(30), 105);
        Check.due("nothing is changed", x.digest(), before);
        x.pass(1, 0, 0);
        Check.due("not spared any more", x.wouldTotal(1), 273);
        x.rehearse(10);
        Check.due("rehearsed: spared again", x.wouldTotal(1), x.many(10));
        Check.refused("-1 days", x, Check.ARGUMENT, () -> x.wouldTotal(-1));
        Check.refused("61 days", x, Check.ARGUMENT, () -> x.wouldTotal(61));
    }

    private static void wouldTotalAsDaysDo() {
        for (int days = 1; days <= 30; days++) {
            Panyard x = songs();
            int would = x.wouldTotal(days);
            x.cover(true);
            x.pass(days, 0, 0);
            Check.due("wouldTotal of " + days, x.many(10), would);
        }
    }

    /** Five phrases of two sections in five places, known by three players, one of them absent. */
    private static Panyard songs() {
        Panyard x = new Panyard();
        x.pan(3);
        x.pan(1);
        int[] sections = {3, 3, 1, 3, 1};
        for (int p = 0; p < 5; p++) {
            x.phrase(sections[p], 9 - 2 * p, 37 * p + 5);
        }
        x.player(3, 9, 2);
        x.player(1, 7, 8);
        x.player(3, 4, 8);
        x.give(0, 0);
        x.give(1, 1);
        x.give(2, 0);
        x.tuner(0, 30);
        x.tuner(1, 60);
        x.teach(0, 0, 40);
        x.teach(2, 1, 30);
        x.teach(1, 2, 60);
        x.pass(1, 0, 0);
        x.teach(0, 3, 20);
        x.teach(0, 1, 30);
        x.teach(1, 4, 20);
        x.absent(2, true);
        return x;
    }

    private static Panyard songsInOrder(int... order) {
        Panyard x = songs();
        for (int phrase : order) {
            x.put(phrase);
        }
        return x;
    }

    private static void bestOrder() {
        Panyard x = bass();
        Check.due("no place: the tone is left", x.bestOrder(), 84);
        x.phrase(3, 4, 1);
        x.phrase(3, 8, 1);
        x.put(0);
        Check.due("one place", x.bestOrder(), x.many(10));
        x.put(0);
        x.put(1);
        x.put(1);
        // Nothing is known, so only the repeats count: 36 without any.
        Check.due("two repeats now", x.many(10), 84 + 20);
        long before = x.digest();
        Check.due("none in the best order", x.bestOrder(), 84 + 36);
        Check.due("nothing is changed", x.digest(), before);
        Check.due("the order stays", x.ofPlace(1, 0), 0);
        x.put(0);
        Check.due("five places", x.bestOrder(), 84 + 36);
        x.put(0);
        Check.refused("six places", x, Check.STATE, () -> x.bestOrder());
    }

    private static void bestOrderAsTriedByHand() {
        int[][] arrangements = {{0, 1, 2, 3, 4}, {0, 0, 1, 1, 2}, {3, 3, 3, 1, 0}, {4, 2, 4, 2, 4}, {1, 1, 1, 1, 1}};
        for (int[] places : arrangements) {
            int best = 0;
            for (int code = 0; code < 3125; code++) {
                int[] picks = {code % 5, code / 5 % 5, code / 25 % 5, code / 125 % 5, code / 625};
                if (allDiffer(picks)) {
                    Panyard y = songsInOrder(places[picks[0]], places[picks[1]], places[picks[2]],
                            places[picks[3]], places[picks[4]]);
                    best = Math.max(best, y.many(10));
                }
            }
            Panyard x = songsInOrder(places);
            Check.due("bestOrder of " + java.util.Arrays.toString(places), x.bestOrder(), best);
        }
    }

    private static boolean allDiffer(int[] picks) {
        int seen = 0;
        for (int pick : picks) {
            seen |= 1 << pick;
        }
        return seen == 31;
    }

    private static void bestOrderOfFew() {
        for (int a = 0; a < 5; a++) {
            for (int b = 0; b < 5; b++) {
                int best = Math.max(songsInOrder(a, b).many(10), songsInOrder(b, a).many(10));
                Check.due("bestOrder of " + a + " and " + b, songsInOrder(a, b).bestOrder(), best);
            }
        }
    }

    private static void bestTeach() {
        Panyard x = bass();
        Check.due("no phrase", x.bestTeach(0, 60), -1);
        x.phrase(2, 1, 1);
        Check.due("none of that section", x.bestTeach(0, 60), -1);
        x.phrase(3, 9, 1);
        Check.due("the only one, though it has no place", x.bestTeach(0, 1), 1);
        x.phrase(3, 9, 1);
        x.put(2);
        Check.due("the one that has a place", x.bestTeach(0, 60), 2);
        Check.due("too short to gain: the smallest", x.bestTeach(0, 1), 2);
        x.phrase(3, 1, 1);
        x.put(3);
        x.teach(0, 2, 30);
        long before = x.digest();
        Check.due("the least sound counts", x.bestTeach(0, 30), 3);
        Check.due("nothing is changed", x.digest(), before);
        x.absent(0, true);
        Check.due("absent: no total differs", x.bestTeach(0, 30), 1);
        x.absent(0, false);
        x.give(0, -1);
        Check.due("without a pan: no total differs", x.bestTeach(0, 30), 1);
        x.give(0, 0);
        x.teach(0, 2, 60);
        Check.refused("no minutes left", x, Check.STATE, () -> x.teach(0, 3, 1));
        Check.due("also without minutes left", x.bestTeach(0, 60), 3);
    }

    private static void bestTeachOfSeveral() {
        Panyard x = bass();
        x.phrase(3, 2, 1);
        x.phrase(3, 2, 2);
        x.put(1);
        x.put(0);
        x.teach(0, 0, 1);
        // A place further is 2 / 4 less, that is nothing: both gain the mean alone.
        x.teach(0, 1, 1);
        Check.due("of several the smallest", x.bestTeach(0, 2), 0);
        x.teach(0, 0, 2);
        Check.due("the other for the rhythm", x.bestTeach(0, 2), 1);
        x.teach(0, 1, 60);
        Check.due("the one that is not full", x.bestTeach(0, 60), 0);
        x.teach(0, 0, 20);
        Check.due("both near 100", x.bestTeach(0, 60), 0);
        bestTeachKnowsTheLimit();
    }

    private static void bestTeachKnowsTheLimit() {
        Panyard y = new Panyard();
        y.pan(3);
        y.player(3, 9, 1);
        y.give(0, 0);
        y.phrase(3, 1, 3);
        y.phrase(3, 2, 1);
        y.put(0);
        y.put(1);
        y.teach(0, 1, 20);
        y.teach(0, 0, 8);
        Check.due("70 of more notes than reach", y.memory(0, 0), 70);
        Check.due("held to 70, so the other", y.bestTeach(0, 60), 1);
    }

    private static void bestTeachAsTriedByHand() {
        int[][] arrangements = {{0, 1, 2, 3, 4}, {3, 0, 1}, {2, 4, 4, 2}, {1, 1, 3, 3, 0, 0, 2, 2, 4, 4}, {}};
        for (int[] places : arrangements) {
            for (int player = 0; player < 3; player++) {
                for (int minutes = 1; minutes <= 60; minutes += 7) {
                    int best = -1;
                    int bestTotal = -1;
                    for (int phrase = 0; phrase < 5; phrase++) {
                        Panyard y = songsInOrder(places);
                        y.pass(1, 0, 0);
                        if (y.ofPhrase(phrase, 0) != y.ofPlayer(player, 0)) {
                            continue;
                        }
                        if (y.ofPlayer(player, 4) == 0) {
                            y.teach(player, phrase, minutes);
                        }
                        if (y.many(10) > bestTotal) {
                            best = phrase;
                            bestTotal = y.many(10);
                        }
                    }
                    Panyard x = songsInOrder(places);
                    x.pass(1, 0, 0);
                    Check.due("bestTeach " + player + ", " + minutes, x.bestTeach(player, minutes), best);
                }
            }
        }
    }

    private static void bestTeachRefusals() {
        Panyard x = new Panyard();
        Check.refused("no player", x, Check.INDEX, () -> x.bestTeach(0, 0));
        x.player(0, 1, 1);
        Check.refused("player 1", x, Check.INDEX, () -> x.bestTeach(1, 1));
        Check.refused("player -1", x, Check.INDEX, () -> x.bestTeach(-1, 1));
        Check.refused("0 minutes", x, Check.ARGUMENT, () -> x.bestTeach(0, 0));
        Check.refused("61 minutes", x, Check.ARGUMENT, () -> x.bestTeach(0, 61));
    }
}
