/**
 * The bounds in part 1 of the terms and in promises 1 to 6, 21, 22 and 34. Each test stands for a sentence
 * of the document, told ahead of it; it looks at the bound and one step to each side of it.
 */
public final class PanBoundsTest {
    public static void main(String[] args) {
        newYard();
        familyOfAPan();
        sixPans();
        priceOfAPan();
        offsAtFirst();
        ringOfNotes();
        crackedAt300();
        crackedForGood();
        panOfABlow();
        noteOfABlow();
        forceOfABlow();
        blowOnACrackedOne();
        firstOfSeveralForABlow();
        fourthOfForce();
        offHeldByABlow();
        offHeldBesideABlow();
        fatigueOfABlow();
        panOfAFire();
        fireUnderACrackedOne();
        halfOfFatigue();
        offHeldByAFire();
        priceOfAFire();
        inTune();
        gradeOfACrackedOne();
        panOfATuner();
        minutesOfATuner();
        tunerOfACrackedOne();
        firstOfSeveralForATuner();
        eachWholeTen();
        tunerStopsInTune();
        tunerStopsAtTheLimit();
        tunerStopsAtTheCrack();
        tunerTakesTheGreatest();
        tunerForce();
        priceOfATuner();
        coveredOrNot();
        askedOfAPan();
        askedOff();
        panOfBlowsFor();
        blowsForInTune();
        blowsForCracked();
        blowsForCrackedByThen();
        blowsForMoreThanOneTuner();
        Check.finish();
    }

    /** "Creates a yard without PANS." */
    private static void newYard() {
        Check.due("pans", new Panyard().many(1), 0);
        for (int pan = -1; pan <= 1; pan++) {
            int own = pan;
            Bounds.refused("new: blow on " + pan, Panyard::new, Check.INDEX, x -> x.blow(own, 0, 1));
            Bounds.refused("new: burn of " + pan, Panyard::new, Check.INDEX, x -> x.burn(own));
            Bounds.refused("new: tuner for " + pan, Panyard::new, Check.INDEX, x -> x.tuner(own, 10));
            Bounds.refused("new: ofPan of " + pan, Panyard::new, Check.INDEX, x -> x.ofPan(own, 0));
            Bounds.refused("new: off of " + pan, Panyard::new, Check.INDEX, x -> x.off(own, 0));
            Bounds.refused("new: blowsFor " + pan, Panyard::new, Check.INDEX, x -> x.blowsFor(own));
        }
    }

    /** "Throws IndexOutOfBoundsException if family is not 0 to 3" */
    private static void familyOfAPan() {
        Bounds.range("pan of family", Yards::busy, 0, 3, Check.INDEX, (x, v) -> x.pan(v), v -> 3);
        Bounds.range("first pan of family", Panyard::new, 0, 3, Check.INDEX, (x, v) -> x.pan(v), v -> 0);
    }

    private static Panyard withPans(int count) {
        Panyard x = Yards.busy();
        while (x.many(1) < count) {
            x.pan(3);
        }
        return x;
    }

    /** "PANS: at most 6, numbered from 0"; "Throws IllegalStateException if there are 6" */
    private static void sixPans() {
        Panyard y = new Panyard();
        for (int number = 0; number < 6; number++) {
            Check.due("pan " + number, y.pan(number % 4), number);
            Check.due("how many", y.many(1), number + 1);
        }
        Bounds.taken("with 4 there", () -> withPans(4), 4, x -> x.pan(0));
        Bounds.taken("with 5 there", () -> withPans(5), 5, x -> x.pan(0));
        Bounds.refused("with 6 there", () -> withPans(6), Check.STATE, x -> x.pan(0));
        Bounds.refused("with 6 there, the last family", () -> withPans(6), Check.STATE, x -> x.pan(3));
        Bounds.outside("with 6 there, family", () -> withPans(6), 0, 3, Check.INDEX, (x, v) -> x.pan(v));
    }

    /** "one costs 40 of MONEY (200 at first; it can be below 0)" */
    private static void priceOfAPan() {
        Panyard x = new Panyard();
        Check.due("at first", x.many(7), 200);
        for (int left = 160; left >= -40; left -= 40) {
            x.pan(0);
            Check.due("money then", x.many(7), left);
        }
        for (int money = 39; money <= 41; money++) {
            Panyard y = new Panyard();
            for (int i = 0; i < 5; i++) {
                y.pan(1);
            }
            y.sponsor(money);
            Check.due("a pan for " + money, y.pan(1), 5);
            Check.due("left of " + money, y.many(7), money - 40);
        }
    }

    /** "OFF: at first (7 times the number of the PAN, 5 times ..., and 3 times FAMILY, together) modulo 31, less 15" */
    private static void offsAtFirst() {
        int[][] rows = {{0, 0, 0, -15}, {0, 0, 6, 15}, {3, 0, 2, -15}, {0, 2, 5, -15}, {1, 0, 5, -14},
            {4, 1, 6, 15}, {4, 3, 5, -15}, {4, 0, 7, -14}, {5, 3, 7, 2}};
        for (int[] row : rows) {
            Panyard x = new Panyard();
            for (int pan = 0; pan <= row[0]; pan++) {
                x.pan(row[1]);
            }
            Check.due("pan " + row[0] + " of family " + row[1] + ", note " + row[2], x.off(row[0], row[2]), row[3]);
        }
        for (int family = 0; family <= 3; family++) {
            Panyard x = new Panyard();
            for (int pan = 0; pan < 6; pan++) {
                x.pan(family);
                for (int note = 0; note < 8; note++) {
                    int sum = 7 * pan + 5 * note + 3 * family;
                    int want = sum >= 62 ? sum - 77 : sum >= 31 ? sum - 46 : sum - 15;
                    Check.due("off of sum " + sum, x.off(pan, note), want);
                }
            }
        }
    }

    /** "NOTES 0 to 7 in a ring (7 and 0 lie beside each other)" */
    private static void ringOfNotes() {
        int[][] behind = {{5, -15, -5, 0, 5, 10, 15, -16}, {-20, 10, -10, 0, 5, 10, 15, -11},
            {-15, -10, -5, 0, 5, 5, 35, -16}, {-20, -10, -5, 0, 5, 10, 10, 9}};
        int[] notes = {0, 1, 6, 7};
        for (int i = 0; i < notes.length; i++) {
            Panyard x = Yards.onePan(0);
            x.blow(0, notes[i], 20);
            Check.offs("a blow on note " + notes[i], x, 0, behind[i]);
        }
    }

    /** "with 300 or more it is CRACKED" */
    private static void crackedAt300() {
        for (int fatigue = 299; fatigue <= 301; fatigue++) {
            Panyard hammered = Yards.tired(280);
            hammered.blow(0, 0, 1);
            hammered.blow(0, 0, fatigue - 281);
            Check.due("hammered", hammered.ofPan(0, 1), fatigue);
            Check.due("hammered to " + fatigue, hammered.ofPan(0, 2), fatigue >= 300 ? 1 : 0);
            Panyard wet = Yards.tired(fatigue - 10);
            wet.pass(1, 0, 5);
            Check.due("wet", wet.ofPan(0, 1), fatigue);
            Check.due("wet to " + fatigue, wet.ofPan(0, 2), fatigue >= 300 ? 1 : 0);
        }
    }

    /** "it is CRACKED for good" */
    private static void crackedForGood() {
        Panyard x = Yards.tired(300);
        x.pass(30, 0, 0);
        x.cover(true);
        x.pass(30, 9, 9);
        Check.due("still cracked", x.ofPan(0, 2), 1);
        Check.due("as tired", x.ofPan(0, 1), 300);
        Panyard y = Yards.tired(299);
        y.burn(0);
        Check.due("a fire was in time", y.ofPan(0, 1), 149);
        Check.due("whole", y.ofPan(0, 2), 0);
    }

    /** "Throws IndexOutOfBoundsException if there is no such PAN" (blow) */
    private static void panOfABlow() {
        Bounds.range("blow on pan", Yards::busy, 0, 2, Check.INDEX, (x, v) -> x.blow(v, 0, 1),
                v -> Yards.busy().off(v, 0) + 1);
        Bounds.range("blow on pan", () -> withPans(6), 0, 5, Check.INDEX, (x, v) -> x.blow(v, 0, 1),
                v -> withPans(6).off(v, 0) + 1);
    }

    /** "or note is not 0 to 7" (blow) */
    private static void noteOfABlow() {
        Bounds.range("blow on note", Yards::busy, 0, 7, Check.INDEX, (x, v) -> x.blow(1, v, -1),
                v -> Yards.busy().off(1, v) - 1);
    }

    /** "Throws IllegalArgumentException if force is not -20 to 20, or 0" */
    private static void forceOfABlow() {
        int off = Yards.busy().off(0, 2);
        Bounds.range("blow of", Yards::busy, -20, 20, Check.ARGUMENT, (x, v) -> x.blow(0, 2, v), v -> off + v);
        Bounds.taken("blow of -1", Yards::busy, off - 1, x -> x.blow(0, 2, -1));
        Bounds.refused("blow of 0", Yards::busy, Check.ARGUMENT, x -> x.blow(0, 2, 0));
        Bounds.taken("blow of 1", Yards::busy, off + 1, x -> x.blow(0, 2, 1));
    }

    /** A yard whose pan 0 is tired by that, up to 319. */
    private static Panyard tiredOver(int fatigue) {
        Panyard x = Yards.busyTired(Math.min(fatigue, 299));
        if (fatigue > 299) {
            x.blow(0, 6, fatigue - 299);
        }
        return x;
    }

    /** "A BLOW ... of one that is not CRACKED"; "Throws IllegalStateException if it is CRACKED" (blow) */
    private static void blowOnACrackedOne() {
        Bounds.taken("blow at 299", () -> tiredOver(299), tiredOver(299).off(0, 0) + 20, x -> x.blow(0, 0, 20));
        Bounds.refused("blow at 300", () -> tiredOver(300), Check.STATE, x -> x.blow(0, 0, 20));
        Bounds.refused("blow at 301", () -> tiredOver(301), Check.STATE, x -> x.blow(0, 0, 1));
        Bounds.taken("blow on a whole one", () -> tiredOver(301), tiredOver(301).off(1, 0) + 1, x -> x.blow(1, 0, 1));
    }

    /** "If several exceptions apply, the one that is named first is thrown." (blow) */
    private static void firstOfSeveralForABlow() {
        Bounds.refused("no pan, force 0", Yards::busy, Check.INDEX, x -> x.blow(3, 0, 0));
        Bounds.refused("no pan, force 21", Yards::busy, Check.INDEX, x -> x.blow(-1, 0, 21));
        Bounds.refused("no note, force 0", Yards::busy, Check.INDEX, x -> x.blow(0, 8, 0));
        Bounds.refused("no note, force -21", Yards::busy, Check.INDEX, x -> x.blow(0, -1, -21));
        Bounds.refused("cracked, no note", () -> tiredOver(300), Check.INDEX, x -> x.blow(0, 8, 1));
        Bounds.refused("cracked, force 0", () -> tiredOver(300), Check.ARGUMENT, x -> x.blow(0, 0, 0));
        Bounds.refused("cracked, force 21", () -> tiredOver(300), Check.ARGUMENT, x -> x.blow(0, 7, 21));
        Bounds.refused("cracked, no note, force 0", () -> tiredOver(300), Check.INDEX, x -> x.blow(0, -1, 0));
    }

    /** "each of the two beside it is a fourth of FORCE (towards 0) less" */
    private static void fourthOfForce() {
        int[] fourths = {0, 0, 0, 0, 1, 1, 1, 1, 2, 2, 2, 2, 3, 3, 3, 3, 4, 4, 4, 4, 5};
        for (int size = 1; size <= 20; size++) {
            Panyard up = Yards.onePan(0);
            Check.due("up by " + size, up.blow(0, 3, size), size);
            Check.offs("up by " + size, up, 0, -15, -10, -5 - fourths[size], size, 5 - fourths[size], 10, 15, -11);
            Panyard down = Yards.onePan(0);
            Check.due("down by " + size, down.blow(0, 3, -size), -size);
            Check.offs("down by " + size, down, 0, -15, -10, -5 + fourths[size], -size, 5 + fourths[size], 10, 15, -11);
        }
    }

    /** "all are held to -99 to 99" (the NOTE itself) */
    private static void offHeldByABlow() {
        for (int sign = -1; sign <= 1; sign += 2) {
            for (int size = 8; size <= 11; size++) {
                Panyard x = Yards.onePan(0);
                Yards.move(x, 3, sign * 90);
                int want = sign * Math.min(99, 90 + size);
                Check.due("from 90 by " + size, x.blow(0, 3, sign * size), want);
                Check.due("off then", x.off(0, 3), want);
                Check.due("and one back", x.blow(0, 3, -sign), want - sign);
            }
        }
    }

    /** "all are held to -99 to 99" (those beside it, the ring's end between them) */
    private static void offHeldBesideABlow() {
        for (int sign = -1; sign <= 1; sign += 2) {
            for (int fourth = 3; fourth <= 5; fourth++) {
                Panyard x = Yards.onePan(0);
                Yards.move(x, 0, sign * 95);
                int want = sign * Math.min(99, 95 + fourth);
                x.blow(0, 7, -sign * 4 * fourth);
                Check.due("note 0 from 95 by " + fourth, x.off(0, 0), want);
                x.blow(0, 1, sign * 4);
                Check.due("and one back", x.off(0, 0), want - sign);
            }
        }
    }

    /** "FATIGUE is the size of FORCE more" */
    private static void fatigueOfABlow() {
        int[] forces = {-20, -19, -1, 1, 19, 20};
        for (int force : forces) {
            Panyard x = Yards.tired(7);
            x.blow(0, 0, force);
            Check.due("fatigue of " + force, x.ofPan(0, 1), 7 + Math.abs(force));
        }
        Panyard y = Yards.onePan(0);
        Yards.move(y, 3, 99);
        int before = y.ofPan(0, 1);
        y.blow(0, 3, 20);
        Check.due("all of it, though the note is held", y.ofPan(0, 1), before + 20);
    }

    /** "Throws IndexOutOfBoundsException if there is no such PAN" (burn) */
    private static void panOfAFire() {
        Bounds.range("burn of pan", Yards::busy, 0, 2, Check.INDEX, (x, v) -> x.burn(v),
                v -> Yards.busy().ofPan(v, 1) / 2);
    }

    /** "To BURN one that is not CRACKED"; "Throws IllegalStateException if it is CRACKED" (burn) */
    private static void fireUnderACrackedOne() {
        Bounds.taken("burn at 299", () -> tiredOver(299), 149, x -> x.burn(0));
        Bounds.refused("burn at 300", () -> tiredOver(300), Check.STATE, x -> x.burn(0));
        Bounds.refused("burn at 301", () -> tiredOver(301), Check.STATE, x -> x.burn(0));
        Bounds.refused("cracked, and no such pan", () -> tiredOver(300), Check.INDEX, x -> x.burn(3));
    }

    /** "FATIGUE is a half" (rounded down) */
    private static void halfOfFatigue() {
        int[] fatigues = {0, 1, 2, 3, 4, 298, 299};
        int[] halves = {0, 0, 1, 1, 2, 149, 149};
        for (int i = 0; i < fatigues.length; i++) {
            Panyard x = Yards.tired(fatigues[i]);
            Check.due("half of " + fatigues[i], x.burn(0), halves[i]);
            Check.due("fatigue then", x.ofPan(0, 1), halves[i]);
        }
    }

    /** "OFF of NOTES with even numbers is 3 more, of the others 3 less (with their sign; held likewise)" */
    private static void offHeldByAFire() {
        int[] evens = {95, 96, 97, 98, 99, -99, -2, -3, -4, 0};
        int[] evensThen = {98, 99, 99, 99, 99, -96, 1, 0, -1, 3};
        for (int i = 0; i < evens.length; i++) {
            Panyard even = Yards.onePan(0);
            Yards.move(even, 2, evens[i]);
            even.burn(0);
            Check.due("note 2 of " + evens[i], even.off(0, 2), evensThen[i]);
            Panyard odd = Yards.onePan(0);
            Yards.move(odd, 3, -evens[i]);
            odd.burn(0);
            Check.due("note 3 of " + -evens[i], odd.off(0, 3), -evensThen[i]);
        }
        Panyard all = Yards.onePan(0);
        all.burn(0);
        Check.offs("a fire", all, 0, -12, -13, -2, -3, 8, 7, 18, -14);
    }

    /** "that costs 5" (MONEY "can be below 0") */
    private static void priceOfAFire() {
        for (int money = 4; money <= 6; money++) {
            Panyard x = new Panyard();
            for (int i = 0; i < 5; i++) {
                x.pan(0);
            }
            x.sponsor(money);
            x.burn(4);
            Check.due("left of " + money, x.many(7), money - 5);
        }
    }

    /** "A NOTE is IN TUNE, if the size of OFF is no more than 6 and 2 times FAMILY together." */
    private static void inTune() {
        int[] limits = {6, 8, 10, 12};
        for (int family = 0; family <= 3; family++) {
            for (int note = 0; note < 8; note++) {
                for (int sign = -1; sign <= 1; sign += 2) {
                    Panyard x = Yards.onePan(family);
                    Yards.move(x, note, 0);
                    int grade = x.ofPan(0, 3);
                    for (int size = limits[family] - 1; size <= limits[family] + 1; size++) {
                        Yards.move(x, note, sign * size);
                        int lost = size > limits[family] ? 1 : 0;
                        Check.due("family " + family + ", off " + sign * size, x.ofPan(0, 3), grade - lost);
                    }
                }
            }
        }
    }

    /** "The GRADE of a PAN is how many NOTES are IN TUNE; 0, if it is CRACKED." */
    private static void gradeOfACrackedOne() {
        Panyard x = Yards.tired(298);
        Check.due("grade at 298", x.ofPan(0, 3), 3);
        x.blow(0, 3, 1);
        Check.due("grade at 299", x.ofPan(0, 3), 3);
        x.blow(0, 3, -1);
        Check.due("grade at 300", x.ofPan(0, 3), 0);
        Panyard best = tunedBass();
        Check.due("all in tune", best.ofPan(0, 3), 8);
    }

    /** "Throws IndexOutOfBoundsException if there is no such PAN" (tuner) */
    private static void panOfATuner() {
        Bounds.range("tuner for pan", () -> withPans(6), 0, 5, Check.INDEX, (x, v) -> x.tuner(v, 10),
                v -> withPans(6).ofPan(v, 3) == 8 ? 0 : 1);
    }

    /** "Throws IllegalArgumentException if minutes is not 10 to 120" */
    private static void minutesOfATuner() {
        Bounds.range("tuner for", () -> hotPan(17), 10, 120, Check.ARGUMENT, (x, v) -> x.tuner(0, v), v -> v / 10);
        Bounds.refused("tuner for 0", Yards::busy, Check.ARGUMENT, x -> x.tuner(0, 0));
    }

    /** "Throws IllegalStateException if it is CRACKED" (tuner) */
    private static void tunerOfACrackedOne() {
        Bounds.taken("tuner at 299", () -> Yards.tired(299), 1, x -> x.tuner(0, 10));
        Bounds.refused("tuner at 300", () -> Yards.tired(300), Check.STATE, x -> x.tuner(0, 10));
        Bounds.refused("tuner at 300", () -> tiredOver(300), Check.STATE, x -> x.tuner(0, 120));
        Bounds.refused("tuner at 301", () -> tiredOver(301), Check.STATE, x -> x.tuner(0, 10));
    }

    /** "If several exceptions apply, the one that is named first is thrown." (tuner) */
    private static void firstOfSeveralForATuner() {
        Bounds.refused("no pan, 9 minutes", Yards::busy, Check.INDEX, x -> x.tuner(3, 9));
        Bounds.refused("no pan, 121 minutes", Yards::busy, Check.INDEX, x -> x.tuner(-1, 121));
        Bounds.refused("cracked, 9 minutes", () -> tiredOver(300), Check.ARGUMENT, x -> x.tuner(0, 9));
        Bounds.refused("cracked, 121 minutes", () -> tiredOver(300), Check.ARGUMENT, x -> x.tuner(0, 121));
        Bounds.refused("cracked, and no such pan", () -> tiredOver(300), Check.INDEX, x -> x.tuner(3, 9));
    }

    /** A tenor pan behind hot days: 17 of them, and a tuner needs 14 blows. */
    private static Panyard hotPan(int days) {
        Panyard x = Yards.onePan(0);
        x.pass(days, 7, 0);
        return x;
    }

    /** A bass pan with all notes in tune: its note 4, 14 at first, is moved to 0. */
    private static Panyard tunedBass() {
        Panyard x = Yards.onePan(3);
        Yards.move(x, 4, 0);
        Check.offs("tuned bass", x, 0, -6, -1, 4, 9, 0, -12, -7, -2);
        return x;
    }

    /** "for each whole 10 of them" */
    private static void eachWholeTen() {
        int[] minutes = {10, 11, 19, 20, 21, 29, 30, 109, 110, 111, 119, 120};
        int[] blows = {1, 1, 1, 2, 2, 2, 3, 10, 11, 11, 11, 12};
        for (int i = 0; i < minutes.length; i++) {
            Panyard x = hotPan(17);
            Check.due("blows of " + minutes[i], x.tuner(0, minutes[i]), blows[i]);
            Check.due("all blows", x.ofPan(0, 4), blows[i]);
        }
    }

    /** "as long as there is a NOTE that is not IN TUNE" */
    private static void tunerStopsInTune() {
        int[] minutes = {10, 19, 20, 29, 30, 120};
        int[] blows = {1, 1, 2, 2, 2, 2};
        for (int i = 0; i < minutes.length; i++) {
            // -9 -4 1 6 11 -15 -10 -5: note 5 first, then note 6, which is -13 by then.
            Panyard x = Yards.onePan(2);
            Check.due("blows of " + minutes[i], x.tuner(0, minutes[i]), blows[i]);
            Check.due("grade then", x.ofPan(0, 3), blows[i] == 2 ? 8 : 7);
        }
        Check.due("nothing to do", tunedBass().tuner(0, 10), 0);
        Check.due("nothing to do for long", tunedBass().tuner(0, 120), 0);
    }

    /** "as long as there is a NOTE that is not IN TUNE" (12 is in tune for a bass, 13 is not) */
    private static void tunerStopsAtTheLimit() {
        for (int off = 11; off <= 13; off++) {
            for (int sign = -1; sign <= 1; sign += 2) {
                Panyard x = tunedBass();
                Yards.move(x, 0, sign * off);
                Check.due("blows at " + sign * off, x.tuner(0, 120), off > 12 ? 1 : 0);
                Check.due("off behind " + sign * off, x.off(0, 0), off > 12 ? 0 : sign * off);
            }
        }
    }

    /** "and it is not CRACKED" (the first two blows are of 15 each) */
    private static void tunerStopsAtTheCrack() {
        int[] fatigues = {283, 284, 285, 286};
        int[] blows = {2, 2, 1, 1};
        for (int i = 0; i < fatigues.length; i++) {
            Panyard x = Yards.tired(fatigues[i]);
            Check.due("blows from " + fatigues[i], x.tuner(0, 120), blows[i]);
            Check.due("fatigue from " + fatigues[i], x.ofPan(0, 1), fatigues[i] + 15 * blows[i]);
            Check.due("cracked from " + fatigues[i], x.ofPan(0, 2), 1);
            Check.due("paid all the same", x.many(7), 160 - 4 * blows[i]);
        }
        Panyard y = Yards.tired(284);
        Check.due("one blow to 299", y.tuner(0, 10), 1);
        Check.due("whole at 299", y.ofPan(0, 2), 0);
    }

    /** "that with the greatest size of OFF (of several the smallest number)" */
    private static void tunerTakesTheGreatest() {
        // A row: the offs of the notes 0, 6 and 7 (the others are 10 at most), then the one that is hit.
        int[][] rows = {{-15, 15, -11, 0}, {-15, 14, -11, 0}, {-15, 16, -11, 6}, {-14, 15, -11, 6}, {-16, 15, -11, 0},
            {-14, 15, -15, 6}, {-14, 15, -16, 7}, {-14, 15, -14, 6}, {-15, 11, -15, 0}, {15, 11, -15, 0},
            {-14, 11, 15, 7}, {15, -15, 15, 0}, {14, -15, 15, 6}};
        for (int[] row : rows) {
            Panyard x = Yards.onePan(0);
            Yards.move(x, 0, row[0]);
            Yards.move(x, 6, row[1]);
            Yards.move(x, 7, row[2]);
            x.tuner(0, 10);
            Check.due("hit " + row[3] + " of " + row[0] + " " + row[1] + " " + row[2], x.off(0, row[3]), 0);
        }
    }

    /** "with a FORCE of as much as that lacks to 0, held to -20 to 20" */
    private static void tunerForce() {
        int[] sizes = {19, 20, 21, 22, 40, 99};
        for (int size : sizes) {
            for (int sign = -1; sign <= 1; sign += 2) {
                Panyard x = Yards.onePan(0);
                Yards.move(x, 3, sign * size);
                int before = x.ofPan(0, 1);
                x.tuner(0, 10);
                Check.due("off behind " + sign * size, x.off(0, 3), sign * Math.max(0, size - 20));
                Check.due("fatigue of " + sign * size, x.ofPan(0, 1), before + Math.min(20, size));
            }
        }
    }

    /** "Each of these BLOWS (of a TUNER) costs 4." (a BLOW of the hammer nothing) */
    private static void priceOfATuner() {
        for (int blows = 1; blows <= 12; blows++) {
            Panyard x = hotPan(17);
            x.tuner(0, 10 * blows);
            Check.due("price of " + blows, x.many(7), 160 - 4 * blows);
        }
        for (int money = 3; money <= 5; money++) {
            Panyard x = new Panyard();
            for (int i = 0; i < 5; i++) {
                x.pan(0);
            }
            x.sponsor(money);
            x.tuner(0, 10);
            Check.due("left of " + money, x.many(7), money - 4);
            x.blow(0, 0, 20);
            Check.due("the hammer is free", x.many(7), money - 4);
        }
    }

    /** "cover: Returns whether they were." ("not at first") */
    private static void coveredOrNot() {
        Panyard x = new Panyard();
        Check.due("not at first", x.cover(false), false);
        Check.due("not by uncovering", x.cover(true), false);
        Check.due("covered", x.cover(true), true);
        Check.due("covered twice", x.cover(false), true);
        Check.due("uncovered at once", x.cover(false), false);
    }

    /** "Throws IndexOutOfBoundsException if there is no such PAN", "IllegalArgumentException if what is not 0 to 4" (ofPan) */
    private static void askedOfAPan() {
        int[] want = {1, 280, 0, Yards.busyTired(280).ofPan(0, 3), Yards.busyTired(280).ofPan(0, 4)};
        Bounds.range("ofPan, what", () -> Yards.busyTired(280), 0, 4, Check.ARGUMENT, (x, v) -> x.ofPan(0, v),
                v -> want[v]);
        Bounds.taken("ofPan, what of 2", () -> Yards.busyTired(280), 0, x -> x.ofPan(0, 2));
        int[] families = {1, 2, 1};
        Bounds.range("ofPan, pan", Yards::busy, 0, 2, Check.INDEX, (x, v) -> x.ofPan(v, 0), v -> families[v]);
        Bounds.refused("ofPan: no pan, what 5", Yards::busy, Check.INDEX, x -> x.ofPan(3, 5));
        Bounds.refused("ofPan: no pan, what -1", Yards::busy, Check.INDEX, x -> x.ofPan(-1, -1));
    }

    /** "Throws IndexOutOfBoundsException if there is no such PAN, or note is not 0 to 7" (off) */
    private static void askedOff() {
        int[] want = {-15, -10, -5, 0, 5, 10, 15, -11};
        Bounds.range("off, note", () -> Yards.onePan(0), 0, 7, Check.INDEX, (x, v) -> x.off(0, v), v -> want[v]);
        Bounds.range("off, pan", () -> Yards.onePan(0), 0, 0, Check.INDEX, (x, v) -> x.off(v, 7), v -> -11);
        // 7 times 5, 5 times 7 and 9 are 79, which is 17 behind two rounds of 31.
        Bounds.range("off, pan of six", () -> withPans(6), 0, 5, Check.INDEX, (x, v) -> x.off(v, 7),
                v -> v == 5 ? 2 : withPans(6).off(v, 7));
    }

    /** "Throws IndexOutOfBoundsException if there is no such PAN" (blowsFor) */
    private static void panOfBlowsFor() {
        Bounds.range("blowsFor pan", Yards::busy, 0, 2, Check.INDEX, (x, v) -> x.blowsFor(v),
                v -> Yards.busy().tuner(v, 120));
    }

    /** "how many BLOWS of a TUNER it would take till all its NOTES are IN TUNE" (0, 1, 2) */
    private static void blowsForInTune() {
        Check.due("none", tunedBass().blowsFor(0), 0);
        for (int off = 11; off <= 14; off++) {
            Panyard x = tunedBass();
            Yards.move(x, 0, off);
            Check.due("for " + off, x.blowsFor(0), off > 12 ? 1 : 0);
        }
        Check.due("two", Yards.onePan(2).blowsFor(0), 2);
    }

    /** "NONE, if it is CRACKED" (though all its notes are in tune) */
    private static void blowsForCracked() {
        for (int fatigue = 298; fatigue <= 301; fatigue++) {
            Panyard x = tunedBass();
            Yards.tire(x, 0, 298);
            if (fatigue > 298) {
                x.blow(0, 1, fatigue - 298);
            }
            Check.due("in tune at " + fatigue, x.blowsFor(0), fatigue >= 300 ? -1 : 0);
        }
    }

    /** "or would be by then (by the last one, too)" */
    private static void blowsForCrackedByThen() {
        int[] fatigues = {270, 271, 272, 273, 283, 284, 285, 286, 287};
        // A bass needs a blow of 14; the guitar one of 15, then one of 13.
        int[] bass = {1, 1, 1, 1, 1, 1, 1, -1, -1};
        int[] guitar = {2, 2, -1, -1, -1, -1, -1, -1, -1};
        for (int i = 0; i < fatigues.length; i++) {
            Panyard x = wetPan(3, fatigues[i]);
            Check.due("bass from " + fatigues[i], x.blowsFor(0), bass[i]);
            Check.due("nothing is changed", x.ofPan(0, 1), fatigues[i]);
            Check.due("guitar from " + fatigues[i], wetPan(2, fatigues[i]).blowsFor(0), guitar[i]);
        }
    }

    /** A pan tired by rain, and by blows of 3 or less on note 2, which is in tune before and behind. */
    private static Panyard wetPan(int family, int fatigue) {
        Panyard x = Yards.onePan(family);
        x.pass(fatigue / 10, 0, 5);
        int sign = 1;
        while (x.ofPan(0, 1) < fatigue) {
            x.blow(0, 2, sign * Math.min(3, fatigue - x.ofPan(0, 1)));
            sign = -sign;
        }
        return x;
    }

    /** "how many BLOWS of a TUNER it would take" (more than the 12 of the longest visit; 40 cracks any pan first) */
    private static void blowsForMoreThanOneTuner() {
        int[] days = {15, 16, 17, 21, 22};
        int[] blows = {11, 12, 14, 16, 17};
        for (int i = 0; i < days.length; i++) {
            Panyard x = hotPan(days[i]);
            Check.due("behind hot days, " + days[i], x.blowsFor(0), blows[i]);
            Check.due("a first tuner", x.tuner(0, 120), Math.min(12, blows[i]));
            Check.due("left", x.blowsFor(0), Math.max(0, blows[i] - 12));
            Check.due("a second tuner", x.tuner(0, 120), Math.max(0, blows[i] - 12));
            Check.due("grade then", x.ofPan(0, 3), 8);
        }
        Panyard fire = Yards.onePan(0);
        fire.burn(0);
        fire.pass(17, 7, 0);
        Check.due("13 blows", fire.blowsFor(0), 13);
        Check.due("12 of them", fire.tuner(0, 120), 12);
        Check.due("one is left", fire.blowsFor(0), 1);
    }
}
