/** Promises 1 to 6, 21, 22 and 34: a new object, the pans, the hammer, the fire and the tuner. */
public final class PansTest {
    public static void main(String[] args) {
        newObject();
        pan();
        panRefusals();
        blow();
        blowHeld();
        blowCracks();
        blowRefusals();
        burn();
        burnHeld();
        burnRefusals();
        tuner();
        tunerStops();
        tunerCracks();
        tunerRefusals();
        cover();
        ofPan();
        inTuneByFamily();
        off();
        blowsFor();
        Check.finish();
    }

    private static void newObject() {
        Panyard x = new Panyard();
        for (int what = 0; what <= 13; what++) {
            Check.due("new: many " + what, x.many(what), what == 7 ? 200 : 0);
        }
        for (int mark = 0; mark <= 3; mark++) {
            Check.due("new: mark " + mark, x.mark(mark), 0);
        }
        for (int round = 0; round <= 2; round++) {
            Check.due("new: score of round " + round, x.ofRound(round, 0), -1);
            Check.due("new: rank of round " + round, x.ofRound(round, 1), -1);
        }
        Check.dueExactly("new: meanMemory", x.meanMemory(), 0.0);
        Check.due("new: wouldTotal", x.wouldTotal(5), 0);
        Check.due("new: bestOrder", x.bestOrder(), 0);
        Check.due("new: covered", x.cover(false), false);
        Check.refused("new: no pan", x, Check.INDEX, () -> x.off(0, 0));
        Check.refused("new: no phrase", x, Check.INDEX, () -> x.ofPhrase(0, 0));
        Check.refused("new: no player", x, Check.INDEX, () -> x.ofPlayer(0, 0));
        Check.refused("new: no place", x, Check.INDEX, () -> x.ofPlace(0, 0));
        Panyard other = new Panyard();
        other.pan(1);
        Check.due("new: another object is another yard", x.many(1), 0);
    }

    private static void pan() {
        Panyard x = new Panyard();
        Check.due("first pan", x.pan(0), 0);
        Check.offs("pan 0 of family 0", x, 0, -15, -10, -5, 0, 5, 10, 15, -11);
        Check.due("one pan", x.many(1), 1);
        Check.due("price of one", x.many(7), 160);
        Check.due("second pan", x.pan(2), 1);
        Check.offs("pan 1 of family 2", x, 1, -2, 3, 8, 13, -13, -8, -3, 2);
        Check.due("pan 2", x.pan(0), 2);
        Check.due("pan 3", x.pan(1), 3);
        Check.due("pan 4", x.pan(0), 4);
        Check.due("pan 5", x.pan(3), 5);
        Check.offs("pan 5 of family 3", x, 5, -2, 3, 8, 13, -13, -8, -3, 2);
        Check.offs("pan 3 of family 1", x, 3, 9, 14, -12, -7, -2, 3, 8, 13);
        Check.due("six pans", x.many(1), 6);
        Check.due("money can be below 0", x.many(7), -40);
        Check.due("no fatigue at first", x.ofPan(5, 1), 0);
    }

    private static void panRefusals() {
        Panyard x = new Panyard();
        Check.refused("pan -1", x, Check.INDEX, () -> x.pan(-1));
        Check.refused("pan 4", x, Check.INDEX, () -> x.pan(4));
        Check.refused("pan least", x, Check.INDEX, () -> x.pan(Integer.MIN_VALUE));
        for (int i = 0; i < 6; i++) {
            x.pan(3);
        }
        Check.refused("a seventh pan", x, Check.STATE, () -> x.pan(0));
        Check.refused("a seventh pan of no family", x, Check.INDEX, () -> x.pan(4));
    }

    private static void blow() {
        Panyard x = new Panyard();
        x.pan(0);
        Check.due("blow of 8", x.blow(0, 0, 8), -7);
        Check.offs("blow of 8 on 0", x, 0, -7, -12, -5, 0, 5, 10, 15, -13);
        Check.due("blow of -7", x.blow(0, 7, -7), -20);
        Check.offs("a fourth towards 0", x, 0, -6, -12, -5, 0, 5, 10, 16, -20);
        Check.due("blow of 3", x.blow(0, 3, 3), 3);
        Check.due("blow of -3", x.blow(0, 4, -3), 2);
        Check.offs("a fourth of 3 is nothing", x, 0, -6, -12, -5, 3, 2, 10, 16, -20);
        Check.due("fatigue is the size", x.ofPan(0, 1), 21);
        Check.due("blows", x.ofPan(0, 4), 4);
        Check.due("a blow of the hammer costs nothing", x.many(7), 160);
        x.pan(1);
        x.blow(1, 6, -20);
        Check.due("all blows", x.many(13), 5);
        Check.due("blows of the other", x.ofPan(1, 4), 1);
        Check.offs("the other pan", x, 1, -5, 0, 5, 10, 15, -6, -11 + 5 - 20 + 1 - 1, 4);
    }

    private static void blowHeld() {
        Panyard x = new Panyard();
        x.pan(0);
        for (int i = 0; i < 4; i++) {
            x.blow(0, 3, 20);
        }
        Check.due("80 so far", x.off(0, 3), 80);
        Check.due("held to 99", x.blow(0, 3, 20), 99);
        Check.due("held again", x.blow(0, 3, 1), 99);
        Check.due("down from 99", x.blow(0, 3, -1), 98);
        Panyard y = new Panyard();
        y.pan(0);
        for (int i = 0; i < 4; i++) {
            y.blow(0, 0, -20);
        }
        Check.due("-95 so far", y.off(0, 0), -95);
        Check.due("held to -99", y.blow(0, 0, -20), -99);
        neighboursHeld();
    }

    private static void neighboursHeld() {
        Panyard x = new Panyard();
        x.pan(0);
        for (int i = 0; i < 5; i++) {
            x.blow(0, 2, -20);
        }
        Check.due("the note is held", x.off(0, 2), -99);
        x.blow(0, 1, 20);
        Check.due("a note beside is held below", x.off(0, 2), -99);
        x.blow(0, 3, -16);
        Check.due("a note beside comes up", x.off(0, 2), -95);
        Panyard y = new Panyard();
        y.pan(0);
        for (int i = 0; i < 5; i++) {
            y.blow(0, 6, 20);
        }
        y.blow(0, 7, -20);
        Check.due("a note beside is held above", y.off(0, 6), 99);
    }

    private static void blowCracks() {
        Panyard x = new Panyard();
        x.pan(0);
        for (int i = 0; i < 14; i++) {
            x.blow(0, i % 8, i % 2 == 0 ? 20 : -20);
        }
        x.blow(0, 0, 19);
        Check.due("299 is whole", x.ofPan(0, 2), 0);
        Check.due("fatigue of 299", x.ofPan(0, 1), 299);
        x.blow(0, 0, -1);
        Check.due("300 is cracked", x.ofPan(0, 2), 1);
        Check.due("cracked: grade", x.ofPan(0, 3), 0);
        Check.refused("blow on a cracked one", x, Check.STATE, () -> x.blow(0, 0, 1));
        Check.refused("burning a cracked one", x, Check.STATE, () -> x.burn(0));
        Check.refused("a tuner for a cracked one", x, Check.STATE, () -> x.tuner(0, 10));
        Check.refused("cracked, no such note", x, Check.INDEX, () -> x.blow(0, 8, 1));
        Check.refused("cracked, no such force", x, Check.ARGUMENT, () -> x.blow(0, 0, 0));
        Check.refused("cracked, no such minutes", x, Check.ARGUMENT, () -> x.tuner(0, 9));
        Check.due("cracked: blowsFor", x.blowsFor(0), -1);
    }

    private static void blowRefusals() {
        Panyard x = new Panyard();
        Check.refused("blow without a pan", x, Check.INDEX, () -> x.blow(0, 0, 1));
        x.pan(0);
        Check.refused("blow on pan 1", x, Check.INDEX, () -> x.blow(1, 0, 1));
        Check.refused("blow on pan -1", x, Check.INDEX, () -> x.blow(-1, 0, 1));
        Check.refused("blow on note 8", x, Check.INDEX, () -> x.blow(0, 8, 1));
        Check.refused("blow on note -1", x, Check.INDEX, () -> x.blow(0, -1, 1));
        Check.refused("blow of 0", x, Check.ARGUMENT, () -> x.blow(0, 0, 0));
        Check.refused("blow of 21", x, Check.ARGUMENT, () -> x.blow(0, 0, 21));
        Check.refused("blow of -21", x, Check.ARGUMENT, () -> x.blow(0, 0, -21));
        Check.refused("no pan and no force", x, Check.INDEX, () -> x.blow(1, 0, 0));
        Check.refused("no note and no force", x, Check.INDEX, () -> x.blow(0, 8, 0));
    }

    private static void burn() {
        Panyard x = new Panyard();
        x.pan(0);
        Check.due("burn without fatigue", x.burn(0), 0);
        Check.offs("burnt", x, 0, -12, -13, -2, -3, 8, 7, 18, -14);
        Check.due("price of a fire", x.many(7), 155);
        x.blow(0, 0, 17);
        Check.due("half of 17, rounded down", x.burn(0), 8);
        Check.due("half of 8", x.burn(0), 4);
        Check.due("fatigue then", x.ofPan(0, 1), 4);
        Check.due("price of three fires", x.many(7), 145);
        Check.due("a fire is no blow", x.many(13), 1);
    }

    private static void burnHeld() {
        Panyard x = new Panyard();
        x.pan(0);
        for (int i = 0; i < 5; i++) {
            x.blow(0, 2, 20);
        }
        for (int i = 0; i < 5; i++) {
            x.blow(0, 5, -20);
        }
        Check.due("even at the top", x.off(0, 2), 95);
        x.burn(0);
        x.burn(0);
        Check.due("even is held to 99", x.off(0, 2), 99);
        Check.due("odd goes down", x.off(0, 5), 10 - 100 - 6);
        x.burn(0);
        x.burn(0);
        Check.due("odd is held to -99", x.off(0, 5), -99);
    }

    private static void burnRefusals() {
        Panyard x = new Panyard();
        Check.refused("burning none", x, Check.INDEX, () -> x.burn(0));
        x.pan(0);
        Check.refused("burning pan 1", x, Check.INDEX, () -> x.burn(1));
        Check.refused("burning pan -1", x, Check.INDEX, () -> x.burn(-1));
    }

    private static void tuner() {
        Panyard x = new Panyard();
        x.pan(0);
        Check.due("a tuner for 19 minutes", x.tuner(0, 19), 1);
        Check.offs("of -15 and 15 the first", x, 0, 0, -13, -5, 0, 5, 10, 15, -14);
        Check.due("fatigue of a tuner's blow", x.ofPan(0, 1), 15);
        Check.due("price of a tuner's blow", x.many(7), 156);
        Check.due("a tuner for 20 minutes", x.tuner(0, 20), 2);
        // 15 on note 6 first: 5 is 13, 6 is 0, 7 is -11; then 13 on note 1 or 5: the first.
        Check.offs("two more", x, 0, -3, 0, -8, 0, 5, 13, 0, -11);
        Check.due("three blows", x.many(13), 3);
        Check.due("price of three", x.many(7), 148);
    }

    private static void tunerStops() {
        Panyard x = new Panyard();
        x.pan(2);
        // off: -9 -4 1 6 11 -15 -10 -5; in tune to 10.
        Check.offs("pan 0 of family 2", x, 0, -9, -4, 1, 6, 11, -15, -10, -5);
        // -15 on note 5 first: 4 is 8, 6 is -13; that is the only one left.
        Check.due("a tuner for 120 minutes stops", x.tuner(0, 120), 2);
        Check.offs("two blows were enough", x, 0, -9, -4, 1, 6, 8, -3, 0, -8);
        Check.due("all in tune", x.ofPan(0, 3), 8);
        Check.due("two blows are paid", x.many(7), 152);
        Check.due("a tuner for nothing", x.tuner(0, 120), 0);
        Check.due("no blow, no money", x.many(7), 152);
    }

    private static void tunerCracks() {
        Panyard x = new Panyard();
        x.pan(0);
        for (int i = 0; i < 13; i++) {
            x.blow(0, 0, 20);
        }
        x.blow(0, 0, 19);
        Check.due("279 is whole", x.ofPan(0, 2), 0);
        Check.due("the tuner stops at the crack", x.tuner(0, 120), 2);
        Check.due("fatigue then", x.ofPan(0, 1), 319);
        Check.due("cracked by a tuner", x.ofPan(0, 2), 1);
        Check.due("two blows are paid", x.many(7), 152);
    }

    private static void tunerRefusals() {
        Panyard x = new Panyard();
        Check.refused("a tuner without a pan", x, Check.INDEX, () -> x.tuner(0, 10));
        x.pan(0);
        Check.refused("a tuner for pan 1", x, Check.INDEX, () -> x.tuner(1, 10));
        Check.refused("a tuner for pan -1", x, Check.INDEX, () -> x.tuner(-1, 9));
        Check.refused("a tuner for 9", x, Check.ARGUMENT, () -> x.tuner(0, 9));
        Check.refused("a tuner for 121", x, Check.ARGUMENT, () -> x.tuner(0, 121));
        Check.refused("a tuner for -10", x, Check.ARGUMENT, () -> x.tuner(0, -10));
        Check.due("a tuner for 120", x.tuner(0, 120) > 0, true);
    }

    private static void cover() {
        Panyard x = new Panyard();
        x.pan(0);
        Check.due("not covered at first", x.cover(true), false);
        Check.due("covered then", x.cover(true), true);
        x.pan(1);
        x.pass(1, 0, 9);
        Check.due("covered: no fatigue", x.ofPan(0, 1), 0);
        Check.due("covered: one that came later", x.ofPan(1, 1), 0);
        Check.due("still covered", x.cover(false), true);
        x.pass(1, 0, 9);
        Check.due("uncovered: fatigue", x.ofPan(0, 1), 10);
        Check.due("uncovered: fatigue of the other", x.ofPan(1, 1), 10);
        Check.due("uncovered", x.cover(false), false);
    }

    private static void ofPan() {
        Panyard x = new Panyard();
        x.pan(0);
        x.pan(3);
        Check.due("family 0", x.ofPan(0, 0), 0);
        Check.due("family 3", x.ofPan(1, 0), 3);
        Check.due("grade of family 0", x.ofPan(0, 3), 3);
        // 1 6 11 -15 -10 -5 0 5 with 12 as the limit.
        Check.offs("pan 1 of family 3", x, 1, 1, 6, 11, -15, -10, -5, 0, 5);
        Check.due("grade of family 3", x.ofPan(1, 3), 7);
        Check.refused("ofPan -1", x, Check.ARGUMENT, () -> x.ofPan(0, -1));
        Check.refused("ofPan 5", x, Check.ARGUMENT, () -> x.ofPan(0, 5));
        Check.refused("ofPan of pan 2", x, Check.INDEX, () -> x.ofPan(2, 0));
        Check.refused("ofPan of pan -1", x, Check.INDEX, () -> x.ofPan(-1, 5));
    }

    /** A note at the limit of each family is in tune, one behind it is not. */
    private static void inTuneByFamily() {
        for (int family = 0; family <= 3; family++) {
            int limit = 6 + 2 * family;
            for (int sign = -1; sign <= 1; sign += 2) {
                Panyard x = new Panyard();
                x.pan(family);
                moveTo(x, 2, sign * limit);
                int grade = x.ofPan(0, 3);
                x.blow(0, 2, sign);
                Check.due("grade behind " + sign * limit, x.ofPan(0, 3), grade - 1);
                x.blow(0, 2, -sign);
                Check.due("grade at " + sign * limit, x.ofPan(0, 3), grade);
            }
        }
    }

    private static void moveTo(Panyard x, int note, int target) {
        for (int i = 0; i < 100 && x.off(0, note) != target; i++) {
            x.blow(0, note, x.off(0, note) < target ? 1 : -1);
        }
    }

    private static void off() {
        Panyard x = new Panyard();
        Check.refused("off without a pan", x, Check.INDEX, () -> x.off(0, 0));
        x.pan(0);
        Check.due("off", x.off(0, 7), -11);
        Check.refused("off of note 8", x, Check.INDEX, () -> x.off(0, 8));
        Check.refused("off of note -1", x, Check.INDEX, () -> x.off(0, -1));
        Check.refused("off of pan 1", x, Check.INDEX, () -> x.off(1, 0));
        Check.refused("off of pan -1", x, Check.INDEX, () -> x.off(-1, 0));
    }

    private static void blowsFor() {
        Panyard x = new Panyard();
        Check.refused("blowsFor without a pan", x, Check.INDEX, () -> x.blowsFor(0));
        x.pan(0);
        Check.refused("blowsFor of pan 1", x, Check.INDEX, () -> x.blowsFor(1));
        Check.refused("blowsFor of pan -1", x, Check.INDEX, () -> x.blowsFor(-1));
        long before = x.digest();
        int blows = x.blowsFor(0);
        Check.due("blowsFor changes nothing", x.digest(), before);
        Check.due("the tuner needs as many", x.tuner(0, 120), blows);
        Check.due("all are in tune", x.ofPan(0, 3), 8);
        Check.due("then none is needed", x.blowsFor(0), 0);
        cracksByTheLastBlow();
    }

    /** One blow of 20 is needed, and fatigue by then is 299 or 300. (40 blows would crack any pan first.) */
    private static void cracksByTheLastBlow() {
        Panyard whole = oneBlowFromTune(279);
        Check.due("279: blowsFor", whole.blowsFor(0), 1);
        Check.due("279: so does the tuner", whole.tuner(0, 120), 1);
        Check.due("279: whole", whole.ofPan(0, 2), 0);
        Check.due("279: in tune", whole.ofPan(0, 3), 8);
        Check.due("279: blowsFor then", whole.blowsFor(0), 0);
        Panyard cracking = oneBlowFromTune(280);
        Check.due("280: the last blow cracks it", cracking.blowsFor(0), -1);
        Check.due("280: the tuner's blow", cracking.tuner(0, 120), 1);
        Check.due("280: cracked", cracking.ofPan(0, 2), 1);
    }

    /** A pan of that fatigue on which all but note 0 is in tune, that being 21 off. */
    private static Panyard oneBlowFromTune(int fatigue) {
        Panyard x = new Panyard();
        x.pan(3);
        x.tuner(0, 120);
        moveTo(x, 0, 21);
        for (int i = 0; i < 200 && x.ofPan(0, 1) + 3 <= fatigue; i++) {
            x.blow(0, 4, i % 2 == 0 ? 3 : -3);
        }
        for (int i = 0; i < 2 && x.ofPan(0, 1) < fatigue; i++) {
            x.blow(0, 4, i % 2 == 0 ? 1 : -1);
        }
        Check.due("made ready: fatigue", x.ofPan(0, 1), fatigue);
        Check.due("made ready: off", x.off(0, 0), 21);
        Check.due("made ready: grade", x.ofPan(0, 3), 7);
        return x;
    }
}
