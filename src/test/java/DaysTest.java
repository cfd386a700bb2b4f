/** Promises 16 to 20 and 28: days, sponsors, rivals, judges and the three rounds. */
public final class DaysTest {
    public static void main(String[] args) {
        passForgets();
        passSpares();
        passSparesByPlayer();
        passRain();
        passSun();
        passRefusals();
        sponsor();
        rival();
        lean();
        score();
        rank();
        money();
        goesOnInRoundNought();
        goesOnInRoundOne();
        onceADay();
        playNeedsABand();
        playRefusedWhenOver();
        ofRound();
        Check.finish();
    }

    private static void passForgets() {
        for (int hard = 1; hard <= 9; hard++) {
            Panyard x = new Panyard();
            x.phrase(0, hard, 1);
            x.player(0, 9, 1);
            x.teach(0, 0, hard * 5);
            x.teach(0, 0, hard);
            Check.due("54 of hard " + hard, x.memory(0, 0), 54);
            Check.due("day 1", x.pass(1, 0, 0), 1);
            Check.due("spared on the first day", x.memory(0, 0), 54);
            Check.due("day 3", x.pass(2, 0, 0), 3);
            Check.due("two days forgotten, hard " + hard, x.memory(0, 0), 54 - 2 * (hard / 2 + 1));
            x.absent(0, true);
            x.pass(30, 0, 0);
            x.pass(30, 0, 0);
            Check.due("0 at least", x.memory(0, 0), 0);
            Check.due("day 63", x.many(0), 63);
        }
    }

    private static void passSpares() {
        Panyard x = new Panyard();
        x.pan(0);
        x.phrase(0, 2, 1);
        x.player(0, 9, 1);
        x.give(0, 0);
        x.teach(0, 0, 30);
        x.pass(1, 0, 0);
        x.teach(0, 0, 1);
        x.pass(1, 0, 0);
        Check.due("a full one is spared, too", x.memory(0, 0), 100);
        x.put(0);
        x.rehearse(10);
        x.pass(1, 0, 0);
        Check.due("a full one that was rehearsed", x.memory(0, 0), 100);
        x.teach(0, 0, 1);
        x.change(0, 4, 1);
        x.pass(1, 0, 0);
        Check.due("one that was changed behind that", x.memory(0, 0), 50);
        x.pass(1, 0, 0);
        Check.due("but not the next day", x.memory(0, 0), 47);
        x.rehearse(10);
        x.pass(2, 0, 0);
        Check.due("rehearsed: the first day is spared", x.memory(0, 0), 45);
        x.change(0, 4, 1);
        x.pass(1, 0, 0);
        Check.due("to change is no practice", x.memory(0, 0), 19);
        x.rehearse(10);
        x.pass(1, 0, 0);
        Check.due("too little to rehearse is not spared", x.memory(0, 0), 16);
    }

    private static void passSparesByPlayer() {
        Panyard x = new Panyard();
        x.phrase(0, 1, 1);
        x.phrase(0, 1, 1);
        x.player(0, 9, 1);
        x.player(0, 9, 1);
        x.teach(0, 0, 6);
        x.teach(0, 1, 6);
        x.teach(1, 0, 6);
        x.pass(1, 0, 0);
        x.teach(0, 0, 1);
        x.pass(1, 0, 0);
        Check.due("taught", x.memory(0, 0), 63);
        Check.due("another phrase", x.memory(0, 1), 53);
        Check.due("another player", x.memory(1, 0), 53);
    }

    private static void passRain() {
        Panyard x = new Panyard();
        x.pan(0);
        x.pass(3, 0, 4);
        Check.due("rain of 4", x.ofPan(0, 1), 0);
        x.pass(3, 0, 5);
        Check.due("rain of 5", x.ofPan(0, 1), 30);
        Check.offs("rain and off", x, 0, -15, -10, -5, 0, 5, 10, 15, -11);
        x.pass(26, 0, 9);
        Check.due("290 is whole", x.ofPan(0, 2), 0);
        x.pass(1, 0, 9);
        Check.due("300 by rain is cracked", x.ofPan(0, 2), 1);
        x.pass(2, 0, 9);
        Check.due("rain on a cracked one", x.ofPan(0, 1), 320);
        Check.due("rain is no blow", x.many(13), 0);
        Check.due("days cost nothing", x.many(7), 160);
    }

    private static void passSun() {
        Panyard x = new Panyard();
        x.pan(0);
        x.pass(3, 6, 0);
        Check.offs("sun of 6", x, 0, -15, -10, -5, 0, 5, 10, 15, -11);
        x.cover(true);
        x.pass(3, 7, 9);
        Check.offs("sun of 7, covered", x, 0, -12, -7, -2, 3, 8, 13, 18, -8);
        Check.due("covered: no fatigue", x.ofPan(0, 1), 0);
        x.cover(false);
        x.pass(30, 8, 0);
        x.pass(30, 9, 5);
        Check.due("cracked", x.ofPan(0, 2), 1);
        Check.due("sun on a cracked one", x.off(0, 0), 48);
        x.pass(30, 9, 0);
        Check.offs("held to 99", x, 0, 78, 83, 88, 93, 98, 99, 99, 82);
    }

    private static void passRefusals() {
        Panyard x = new Panyard();
        x.pan(0);
        Check.refused("0 days", x, Check.ARGUMENT, () -> x.pass(0, 0, 0));
        Check.refused("31 days", x, Check.ARGUMENT, () -> x.pass(31, 0, 0));
        Check.refused("-1 days", x, Check.ARGUMENT, () -> x.pass(-1, 0, 0));
        Check.refused("sun of -1", x, Check.ARGUMENT, () -> x.pass(1, -1, 0));
        Check.refused("sun of 10", x, Check.ARGUMENT, () -> x.pass(1, 10, 0));
        Check.refused("rain of -1", x, Check.ARGUMENT, () -> x.pass(1, 0, -1));
        Check.refused("rain of 10", x, Check.ARGUMENT, () -> x.pass(1, 0, 10));
        Check.due("30 days", x.pass(30, 0, 0), 30);
    }

    private static void sponsor() {
        Panyard x = new Panyard();
        Check.refused("0", x, Check.ARGUMENT, () -> x.sponsor(0));
        Check.refused("501", x, Check.ARGUMENT, () -> x.sponsor(501));
        Check.refused("-1", x, Check.ARGUMENT, () -> x.sponsor(-1));
        Check.due("1", x.sponsor(1), 201);
        Check.due("500", x.sponsor(500), 701);
        Check.due("money", x.many(7), 701);
    }

    private static void rival() {
        Panyard x = new Panyard();
        Check.refused("-1", x, Check.ARGUMENT, () -> x.rival(-1));
        Check.refused("401", x, Check.ARGUMENT, () -> x.rival(401));
        Check.due("first", x.rival(0), 0);
        Check.due("second", x.rival(400), 1);
        for (int i = 2; i < 6; i++) {
            Check.due("rival " + i, x.rival(1), i);
        }
        Check.due("six", x.many(6), 6);
        Check.refused("a seventh", x, Check.STATE, () -> x.rival(1));
        Check.refused("a seventh of 401", x, Check.ARGUMENT, () -> x.rival(401));
    }

    private static void lean() {
        Panyard x = new Panyard();
        Check.refused("judge 3", x, Check.INDEX, () -> x.lean(3, 0));
        Check.refused("judge -1", x, Check.INDEX, () -> x.lean(-1, 10));
        Check.refused("lean 10", x, Check.ARGUMENT, () -> x.lean(0, 10));
        Check.refused("lean -10", x, Check.ARGUMENT, () -> x.lean(0, -10));
        for (int judge = 0; judge < 3; judge++) {
            Check.due("0 at first", x.lean(judge, 9), 0);
            Check.due("9 before", x.lean(judge, -9), 9);
            Check.due("-9 before", x.lean(judge, 4), -9);
        }
    }

    private static void score() {
        Panyard x = new Panyard();
        int[][] leans = {{1, 2, 3}, {1, 3, 2}, {2, 1, 3}, {2, 3, 1}, {3, 1, 2}, {3, 2, 1},
            {5, 5, -9}, {-9, 5, 5}, {5, -9, 5}, {-7, 2, -7}, {-4, -4, -4}, {9, 0, -9}};
        int[] third = {2, 2, 2, 2, 2, 2, 5, 5, 5, -7, -4, 0};
        for (int i = 0; i < third.length; i++) {
            for (int judge = 0; judge < 3; judge++) {
                x.lean(judge, leans[i][judge]);
            }
            Check.due("score " + i, x.many(11), third[i]);
            Check.due("total " + i, x.many(10), 0);
        }
    }

    /** A band of a total of 123: mark 0 and 3 are 0, as it knows nothing; 96 of tone, 27 of 9 hard. */
    private static Panyard band() {
        Panyard x = new Panyard();
        x.pan(3);
        x.tuner(0, 120);
        x.phrase(3, 9, 255);
        x.player(3, 1, 8);
        x.give(0, 0);
        x.put(0);
        Check.due("the band's total", x.many(10), 123);
        return x;
    }

    private static void rank() {
        Panyard x = band();
        x.rival(123);
        x.rival(124);
        x.rival(400);
        Check.due("as much is not more", x.play(), 3);
        x.pass(1, 0, 0);
        Panyard y = band();
        y.rival(108);
        y.rival(93);
        Check.due("round 0", y.play(), 1);
        y.pass(1, 0, 0);
        y.rival(109);
        Check.due("round 1: 15 more", y.play(), 2);
        y.pass(1, 0, 0);
        Check.due("round 2: 30 more", y.play(), 3);
        Panyard six = band();
        rivals(six, 6);
        Check.due("rank 7", six.play(), 7);
        Panyard z = band();
        z.rival(130);
        z.lean(0, 7);
        z.lean(1, 9);
        Check.due("the score counts, not the total", z.play(), 1);
        Check.due("score of round 0", z.ofRound(0, 0), 130);
    }

    private static void money() {
        int[] prize = {300, 200, 100, 0};
        for (int ahead = 0; ahead <= 3; ahead++) {
            Panyard x = band();
            int before = x.many(7);
            x.play();
            Check.due("50 in round 0", x.many(7), before + 50);
            x.pass(1, 0, 0);
            x.play();
            Check.due("50 in round 1", x.many(7), before + 100);
            x.pass(1, 0, 0);
            for (int i = 0; i < ahead; i++) {
                x.rival(400);
            }
            Check.due("rank in round 2", x.play(), ahead + 1);
            Check.due("prize of rank " + (ahead + 1), x.many(7), before + 150 + prize[ahead]);
            Check.due("over behind round 2", x.many(9), 1);
            Check.due("three rounds", x.many(8), 3);
        }
    }

    private static void goesOnInRoundNought() {
        Panyard x = band();
        rivals(x, 3);
        Check.due("rank 4", x.play(), 4);
        Check.due("rank 4 goes on", x.many(9), 0);
        Panyard y = band();
        rivals(y, 4);
        int before = y.many(7);
        Check.due("rank 5", y.play(), 5);
        Check.due("rank 5 is over", y.many(9), 1);
        Check.due("paid all the same", y.many(7), before + 50);
        Check.due("one round", y.many(8), 1);
        Check.due("not played", y.ofRound(1, 1), -1);
    }

    private static void goesOnInRoundOne() {
        for (int ahead = 1; ahead <= 2; ahead++) {
            Panyard x = band();
            x.play();
            x.pass(1, 0, 0);
            rivals(x, ahead);
            int before = x.many(7);
            Check.due("rank", x.play(), ahead + 1);
            Check.due("rank 2 goes on, 3 does not", x.many(9), ahead - 1);
            Check.due("no prize in round 1", x.many(7), before + 50);
            x.pass(1, 0, 0);
            if (ahead == 2) {
                Check.refused("over behind round 1", x, Check.STATE, () -> x.play());
            } else {
                Check.due("round 2 with rank 2", x.play(), 2);
            }
        }
    }

    private static void rivals(Panyard x, int count) {
        for (int i = 0; i < count; i++) {
            x.rival(400);
        }
    }

    private static void onceADay() {
        Panyard x = band();
        x.play();
        Check.refused("twice in a day", x, Check.STATE, () -> x.play());
        x.pass(1, 0, 0);
        Check.due("the next day", x.play(), 1);
        Check.refused("twice in that day", x, Check.STATE, () -> x.play());
        Check.due("two rounds", x.many(8), 2);
    }

    private static void playNeedsABand() {
        Panyard x = band();
        x.absent(0, true);
        Check.refused("none sounds", x, Check.STATE, () -> x.play());
        x.absent(0, false);
        x.cut(0);
        Check.refused("no places", x, Check.STATE, () -> x.play());
        x.put(0);
        Check.due("round 0 is still the next", x.play(), 1);
        Check.due("round 0", x.ofRound(0, 1), 1);
        Panyard y = new Panyard();
        Check.refused("nothing at all", y, Check.STATE, () -> y.play());
    }

    private static void playRefusedWhenOver() {
        Panyard x = band();
        for (int round = 0; round < 3; round++) {
            x.play();
            x.pass(1, 0, 0);
        }
        Check.refused("over", x, Check.STATE, () -> x.play());
        Check.due("still three", x.many(8), 3);
    }

    private static void ofRound() {
        Panyard x = band();
        x.rival(124);
        x.play();
        x.lean(0, 9);
        x.lean(1, 5);
        x.pass(1, 0, 0);
        Check.due("the score at that time", x.ofRound(0, 0), 123);
        Check.due("the rank at that time", x.ofRound(0, 1), 2);
        Check.due("not played: score", x.ofRound(1, 0), -1);
        Check.due("not played: rank", x.ofRound(1, 1), -1);
        x.play();
        Check.due("the score of round 1", x.ofRound(1, 0), 128);
        Check.due("the rank of round 1", x.ofRound(1, 1), 2);
        Check.refused("round 3", x, Check.INDEX, () -> x.ofRound(3, 2));
        Check.refused("round -1", x, Check.INDEX, () -> x.ofRound(-1, 0));
        Check.refused("what 2", x, Check.ARGUMENT, () -> x.ofRound(0, 2));
        Check.refused("what -1", x, Check.ARGUMENT, () -> x.ofRound(2, -1));
    }
}
