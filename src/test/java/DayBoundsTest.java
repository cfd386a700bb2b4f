/**
 * The bounds of days in part 3 of the terms, of rounds in part 4, and of promises 16 to 20 and 28. Each test
 * stands for a sentence of the document, told ahead of it; it looks at the bound and one step to each side
 * of it.
 */
public final class DayBoundsTest {
    public static void main(String[] args) {
        daysToPass();
        sunToPass();
        rainToPass();
        dayAtFirst();
        severalDays();
        forgottenByHard();
        forgottenDownTo0();
        sparedWhenTaught();
        sparedWhenFull();
        sparedWhenChanged();
        sparedWhenRehearsed();
        sparedByThatPlayer();
        hotSun();
        sunHeld();
        sunOnCrackedOnes();
        wetRain();
        rainToTheCrack();
        rainOnCoveredOnes();
        freshMinutes();
        moneyOfASponsor();
        totalOfARival();
        sixRivals();
        judges();
        leans();
        firstOfSeveralToLean();
        playWhenOver();
        playTwiceInADay();
        playWhenNoneSounds();
        playWithoutPlaces();
        rankByScore();
        rankByRound();
        rankOfSixRivals();
        goesOnWithRank4();
        goesOnWithRank2();
        prizes();
        overBehindRound2();
        askedOfARound();
        Check.finish();
    }

    /** "Throws IllegalArgumentException if days is not 1 to 30" */
    private static void daysToPass() {
        Bounds.range("pass of days", Yards::busy, 1, 30, Check.ARGUMENT, (x, v) -> x.pass(v, 0, 0), v -> 2 + v);
        Bounds.refused("days 31, sun 10, rain -1", Yards::busy, Check.ARGUMENT, x -> x.pass(31, 10, -1));
    }

    /** "or sun ... not 0 to 9"; "SUN (0 to 9)" */
    private static void sunToPass() {
        Bounds.range("pass with sun", Yards::busy, 0, 9, Check.ARGUMENT, (x, v) -> x.pass(1, v, 0), v -> 3);
        Bounds.range("pass with sun and rain", Yards::busy, 0, 9, Check.ARGUMENT, (x, v) -> x.pass(30, v, 9), v -> 32);
    }

    /** "or ... rain not 0 to 9"; "RAIN (0 to 9)" */
    private static void rainToPass() {
        Bounds.range("pass with rain", Yards::busy, 0, 9, Check.ARGUMENT, (x, v) -> x.pass(1, 0, v), v -> 3);
        Bounds.range("pass with rain and sun", Yards::busy, 0, 9, Check.ARGUMENT, (x, v) -> x.pass(30, 9, v), v -> 32);
    }

    /** "A DAY (0 at first)"; "DAY is 1 more." */
    private static void dayAtFirst() {
        Panyard x = new Panyard();
        Check.due("at first", x.many(0), 0);
        Check.due("the first one", x.pass(1, 0, 0), 1);
        Check.due("two more", x.pass(2, 9, 9), 3);
        Check.due("30 more", x.pass(30, 0, 0), 33);
        Check.due("asked", x.many(0), 33);
    }

    /** "Lets DAYS go by." ("the SUN of each"): several at once are as many one by one. */
    private static void severalDays() {
        for (int days = 1; days <= 30; days++) {
            Panyard atOnce = Yards.busy();
            atOnce.cover(false);
            atOnce.pass(days, 7, 5);
            Panyard oneByOne = Yards.busy();
            oneByOne.cover(false);
            for (int day = 0; day < days; day++) {
                oneByOne.pass(1, 7, 5);
            }
            Check.due("days " + days, atOnce.digest(), oneByOne.digest());
            Check.due("fatigue of days " + days, atOnce.ofPan(1, 1), 10 * days);
            Check.due("off of days " + days, atOnce.off(1, 0), Yards.busy().off(1, 0) + days);
        }
    }

    /** Player 0 knows phrase 0 (that hard, one note) to that; the day it was last taught in is over. */
    private static Panyard knowing(int hard, int memory) {
        Panyard x = Yards.onePan(3);
        x.phrase(3, hard, 2);
        x.player(3, hard, 1);
        x.give(0, 0);
        x.put(0);
        Yards.know(x, 0, 0, memory);
        x.pass(1, 0, 0);
        Check.due("made ready", x.memory(0, 0), memory);
        return x;
    }

    /** "MEMORY ... is HARD / 2 and 1 less" */
    private static void forgottenByHard() {
        int[] less = {1, 2, 2, 3, 3, 4, 4, 5, 5};
        for (int hard = 1; hard <= 9; hard++) {
            Panyard x = knowing(hard, 100);
            x.pass(1, 0, 0);
            Check.due("one day, hard " + hard, x.memory(0, 0), 100 - less[hard - 1]);
            x.pass(9, 0, 0);
            Check.due("ten days, hard " + hard, x.memory(0, 0), 100 - 10 * less[hard - 1]);
        }
    }

    /** "(0 at least)" */
    private static void forgottenDownTo0() {
        int[] less = {1, 2, 2, 3, 3, 4, 4, 5, 5};
        for (int hard = 1; hard <= 9; hard++) {
            for (int memory = Math.max(1, less[hard - 1] - 1); memory <= less[hard - 1] + 1; memory++) {
                Panyard x = knowing(hard, memory);
                x.pass(1, 0, 0);
                Check.due(memory + " of hard " + hard, x.memory(0, 0), Math.max(0, memory - less[hard - 1]));
                x.pass(1, 0, 0);
                Check.due("0 of hard " + hard, x.memory(0, 0), 0);
                x.pass(30, 0, 0);
                Check.due("still 0 of hard " + hard, x.memory(0, 0), 0);
            }
        }
    }

    /** "that was not TAUGHT ... in this DAY": the first day spares, the next one does not. */
    private static void sparedWhenTaught() {
        for (int days = 1; days <= 3; days++) {
            Panyard x = knowing(4, 50);
            x.teach(0, 0, 1);
            x.pass(days, 0, 0);
            Check.due("taught, days " + days, x.memory(0, 0), 51 - 3 * (days - 1));
        }
        Panyard late = knowing(4, 50);
        late.pass(1, 0, 0);
        late.teach(0, 0, 1);
        late.pass(1, 0, 0);
        Check.due("not on the day ahead", late.memory(0, 0), 48);
        Panyard nothing = new Panyard();
        nothing.phrase(0, 9, 1);
        nothing.player(0, 1, 1);
        nothing.teach(0, 0, 60);
        nothing.pass(1, 0, 0);
        Check.due("8 minutes bring nothing", nothing.teach(0, 0, 8), 6);
        nothing.pass(1, 0, 0);
        Check.due("but spare it", nothing.memory(0, 0), 6);
        nothing.pass(1, 0, 0);
        Check.due("once", nothing.memory(0, 0), 1);
    }

    /** "also one that was full" (100, or 70) */
    private static void sparedWhenFull() {
        for (int memory = 99; memory <= 100; memory++) {
            Panyard x = knowing(4, memory);
            Check.due("full", x.teach(0, 0, 1), 100);
            x.pass(1, 0, 0);
            Check.due("spared at 100", x.memory(0, 0), 100);
            x.pass(1, 0, 0);
            Check.due("not any more", x.memory(0, 0), 97);
            Panyard y = knowing(4, memory);
            y.rehearse(10);
            y.pass(1, 0, 0);
            Check.due("rehearsed at 100", y.memory(0, 0), 100);
            y.pass(1, 0, 0);
            Check.due("not any more", y.memory(0, 0), 97);
        }
        Panyard z = new Panyard();
        z.phrase(0, 4, 3);
        z.player(0, 9, 1);
        z.teach(0, 0, 60);
        z.pass(1, 0, 0);
        Check.due("full at 70", z.teach(0, 0, 1), 70);
        z.pass(1, 0, 0);
        Check.due("spared at 70", z.memory(0, 0), 70);
        z.pass(1, 0, 0);
        Check.due("not any more", z.memory(0, 0), 67);
    }

    /** "or was CHANGED behind that"; to be CHANGED alone spares nothing. */
    private static void sparedWhenChanged() {
        Panyard x = knowing(4, 50);
        x.teach(0, 0, 10);
        x.change(0, 8, 2);
        x.pass(1, 0, 0);
        Check.due("taught, then changed", x.memory(0, 0), 30);
        x.pass(1, 0, 0);
        Check.due("not any more, as hard as it is now", x.memory(0, 0), 25);
        Panyard y = knowing(4, 50);
        y.rehearse(10);
        y.change(0, 2, 2);
        y.pass(1, 0, 0);
        Check.due("rehearsed, then changed", y.memory(0, 0), 25);
        Panyard z = knowing(4, 50);
        z.change(0, 2, 2);
        z.pass(1, 0, 0);
        Check.due("changed alone", z.memory(0, 0), 23);
    }

    /** "or REHEARSED" (from 30 on) */
    private static void sparedWhenRehearsed() {
        int[] then = {26, 31, 32};
        for (int memory = 29; memory <= 31; memory++) {
            Panyard x = knowing(4, memory);
            x.rehearse(10);
            x.pass(1, 0, 0);
            Check.due("rehearsed from " + memory, x.memory(0, 0), then[memory - 29]);
        }
        Panyard cut = knowing(4, 50);
        cut.cut(0);
        cut.rehearse(10);
        cut.pass(1, 0, 0);
        Check.due("without a place", cut.memory(0, 0), 47);
        Panyard absent = knowing(4, 50);
        absent.absent(0, true);
        absent.rehearse(10);
        absent.pass(1, 0, 0);
        Check.due("absent", absent.memory(0, 0), 47);
        Panyard mute = knowing(4, 50);
        mute.give(0, -1);
        mute.rehearse(10);
        mute.pass(1, 0, 0);
        Check.due("without a pan", mute.memory(0, 0), 47);
    }

    /** "(by that PLAYER, in this DAY ...)": all pairs but the one that was taught forget. */
    private static void sparedByThatPlayer() {
        for (int pupil = 0; pupil < 8; pupil += 7) {
            for (int taught = 0; taught < 8; taught += 7) {
                Panyard x = new Panyard();
                for (int i = 0; i < 8; i++) {
                    x.phrase(0, 1, 1);
                    x.player(0, 9, 1);
                }
                for (int player = 0; player < 8; player += 7) {
                    x.teach(player, 0, 3);
                    x.teach(player, 7, 3);
                }
                x.pass(1, 0, 0);
                x.teach(pupil, taught, 1);
                x.pass(1, 0, 0);
                for (int player = 0; player < 8; player += 7) {
                    for (int phrase = 0; phrase < 8; phrase += 7) {
                        int want = player == pupil && phrase == taught ? 36 : 26;
                        Check.due("player " + player + ", phrase " + phrase, x.memory(player, phrase), want);
                    }
                }
            }
        }
    }

    /** "With SUN of 7 or more each OFF of each PAN is 1 more" */
    private static void hotSun() {
        for (int sun = 0; sun <= 9; sun++) {
            Panyard x = Yards.onePan(0);
            x.pan(2);
            x.pass(1, sun, 0);
            int more = sun >= 7 ? 1 : 0;
            int[] first = {-15, -10, -5, 0, 5, 10, 15, -11};
            int[] second = {-2, 3, 8, 13, -13, -8, -3, 2};
            for (int note = 0; note < 8; note++) {
                Check.due("pan 0, sun " + sun, x.off(0, note), first[note] + more);
                Check.due("pan 1, sun " + sun, x.off(1, note), second[note] + more);
            }
            Check.due("no fatigue by sun " + sun, x.ofPan(0, 1), 0);
        }
    }

    /** "(held likewise)" */
    private static void sunHeld() {
        for (int off = 97; off <= 99; off++) {
            Panyard x = Yards.onePan(0);
            Yards.move(x, 3, off);
            Yards.move(x, 0, -off);
            x.pass(1, 7, 0);
            Check.due("from " + off, x.off(0, 3), Math.min(99, off + 1));
            Check.due("from " + -off, x.off(0, 0), -off + 1);
            x.pass(2, 9, 0);
            Check.due("two more from " + off, x.off(0, 3), 99);
            x.blow(0, 3, -1);
            Check.due("one back from 99", x.off(0, 3), 98);
        }
    }

    /** "CRACKED ones, too." (SUN and RAIN) */
    private static void sunOnCrackedOnes() {
        for (int fatigue = 299; fatigue <= 300; fatigue++) {
            Panyard x = Yards.tired(fatigue);
            int before = x.off(0, 0);
            x.pass(1, 7, 0);
            Check.due("sun at " + fatigue, x.off(0, 0), before + 1);
            x.pass(1, 0, 5);
            Check.due("rain at " + fatigue, x.ofPan(0, 1), fatigue + 10);
            x.pass(30, 9, 9);
            Check.due("30 days of both at " + fatigue, x.ofPan(0, 1), fatigue + 310);
            Check.due("off of 30 days", x.off(0, 0), before + 31);
        }
    }

    /** "with RAIN of 5 or more each FATIGUE is 10 more" */
    private static void wetRain() {
        for (int rain = 0; rain <= 9; rain++) {
            Panyard x = Yards.tired(3);
            x.pan(2);
            x.pass(1, 0, rain);
            Check.due("pan 0, rain " + rain, x.ofPan(0, 1), rain >= 5 ? 13 : 3);
            Check.due("pan 1, rain " + rain, x.ofPan(1, 1), rain >= 5 ? 10 : 0);
            Check.due("off, rain " + rain, x.off(1, 0), -2);
            Check.due("no blow, rain " + rain, x.ofPan(1, 4), 0);
        }
    }

    /** "with 300 or more it is CRACKED" (by rain) */
    private static void rainToTheCrack() {
        for (int fatigue = 289; fatigue <= 291; fatigue++) {
            Panyard x = Yards.tired(fatigue);
            x.player(0, 1, 1);
            x.give(0, 0);
            x.pass(1, 0, 4);
            Check.due("dry at " + fatigue, x.ofPan(0, 2), 0);
            x.pass(1, 0, 5);
            Check.due("wet at " + fatigue, x.ofPan(0, 2), fatigue >= 290 ? 1 : 0);
            Check.due("sounds", x.many(5), fatigue >= 290 ? 0 : 1);
        }
    }

    /** "unless the PANS are COVERED (all of them together, also those that come later; not at first; SUN does not mind that)" */
    private static void rainOnCoveredOnes() {
        Panyard x = Yards.onePan(0);
        x.pass(1, 0, 5);
        Check.due("not covered at first", x.ofPan(0, 1), 10);
        x.pan(0);
        x.cover(true);
        x.pan(0);
        x.pass(1, 7, 9);
        Check.due("covered", x.ofPan(0, 1), 10);
        Check.due("covered, the second", x.ofPan(1, 1), 0);
        Check.due("came later", x.ofPan(2, 1), 0);
        Check.due("sun on it", x.off(0, 0), -14);
        Check.due("sun on the second", x.off(1, 0), -7);
        Check.due("sun on the one that came later", x.off(2, 0), 0);
        x.cover(true);
        x.pass(1, 0, 5);
        Check.due("covered twice", x.ofPan(2, 1), 0);
        x.cover(false);
        x.pan(0);
        x.pass(1, 0, 5);
        for (int pan = 0; pan < 4; pan++) {
            Check.due("uncovered pan " + pan, x.ofPan(pan, 1), pan == 0 ? 20 : 10);
        }
    }

    /** "MINUTES are fresh": of lessons and of rehearsals, and one may play again. */
    private static void freshMinutes() {
        Panyard x = knowing(4, 50);
        for (int day = 0; day < 3; day++) {
            Check.due("60", x.teach(0, 0, 60) > 0, true);
            Check.due("and 30", x.teach(0, 0, 30) > 0, true);
            Check.refused("and 1", x, Check.STATE, () -> x.teach(0, 0, 1));
            Check.due("120", x.rehearse(120), 1);
            Check.refused("and 10", x, Check.STATE, () -> x.rehearse(10));
            Check.due("rehearsed in this day", x.many(12), 120);
            Check.due("a round", x.play(), 1);
            Check.refused("and another one", x, Check.STATE, () -> x.play());
            x.pass(1, 0, 0);
            Check.due("rehearsed in the next day", x.many(12), 0);
        }
    }

    /** "Throws IllegalArgumentException if money is not 1 to 500" */
    private static void moneyOfASponsor() {
        int before = Yards.busy().many(7);
        Bounds.range("sponsor of", Yards::busy, 1, 500, Check.ARGUMENT, (x, v) -> x.sponsor(v), v -> before + v);
        Check.due("asked", before, 200 - 3 * 40 - 4 * Yards.busy().ofPan(0, 4) + 50);
        Bounds.range("sponsor of a new yard", Panyard::new, 1, 500, Check.ARGUMENT, (x, v) -> x.sponsor(v), v -> 200 + v);
    }

    /** "Throws IllegalArgumentException if total is not 0 to 400" */
    private static void totalOfARival() {
        Bounds.range("rival of", Yards::busy, 0, 400, Check.ARGUMENT, (x, v) -> x.rival(v), v -> 2);
    }

    private static Panyard withRivals(int count) {
        Panyard x = Yards.busy();
        while (x.many(6) < count) {
            x.rival(100);
        }
        return x;
    }

    /** "RIVALS: at most 6, numbered from 0"; "Throws IllegalStateException if there are 6" */
    private static void sixRivals() {
        Panyard y = new Panyard();
        for (int number = 0; number < 6; number++) {
            Check.due("rival " + number, y.rival(400 - number), number);
            Check.due("how many", y.many(6), number + 1);
        }
        Bounds.taken("with 4 there", () -> withRivals(4), 4, x -> x.rival(0));
        Bounds.taken("with 5 there", () -> withRivals(5), 5, x -> x.rival(400));
        Bounds.refused("with 6 there", () -> withRivals(6), Check.STATE, x -> x.rival(0));
        Bounds.refused("with 6 there, 400", () -> withRivals(6), Check.STATE, x -> x.rival(400));
        Bounds.outside("with 6 there, total", () -> withRivals(6), 0, 400, Check.ARGUMENT, (x, v) -> x.rival(v));
    }

    /** "Throws IndexOutOfBoundsException if judge is not 0 to 2" */
    private static void judges() {
        int[] before = {3, -2, 5};
        Bounds.range("lean of judge", Yards::busy, 0, 2, Check.INDEX, (x, v) -> x.lean(v, 9), v -> before[v]);
        Bounds.range("lean of judge of a new yard", Panyard::new, 0, 2, Check.INDEX, (x, v) -> x.lean(v, -9), v -> 0);
    }

    /** "Throws IllegalArgumentException if lean is not -9 to 9"; "Returns that before." */
    private static void leans() {
        Bounds.range("lean", Yards::busy, -9, 9, Check.ARGUMENT, (x, v) -> x.lean(2, v), v -> 5);
        Bounds.range("lean then", Yards::busy, -9, 9, Check.ARGUMENT, (x, v) -> x.lean(2, v) * 0 + x.lean(2, 0), v -> v);
    }

    /** "If several exceptions apply, the one that is named first is thrown." (lean) */
    private static void firstOfSeveralToLean() {
        Bounds.refused("judge 3, lean 10", Yards::busy, Check.INDEX, x -> x.lean(3, 10));
        Bounds.refused("judge -1, lean -10", Yards::busy, Check.INDEX, x -> x.lean(-1, -10));
    }

    /** A band of a total of 123 (tone 96, arrangement 27, nothing known), behind that many rounds, a day later. */
    private static Panyard band(int rounds) {
        Panyard x = Yards.onePan(3);
        x.tuner(0, 120);
        x.phrase(3, 9, 255);
        x.player(3, 1, 8);
        x.give(0, 0);
        x.put(0);
        Check.due("the band's total", x.many(10), 123);
        for (int round = 0; round < rounds; round++) {
            Check.due("rank on the way", x.play(), 1);
            x.pass(1, 0, 0);
        }
        return x;
    }

    private static Panyard bandWithRivals(int rounds, int rivals) {
        Panyard x = band(rounds);
        for (int i = 0; i < rivals; i++) {
            x.rival(400);
        }
        return x;
    }

    private static Panyard lost(int rounds, int rivals) {
        Panyard x = bandWithRivals(rounds, rivals);
        x.play();
        x.pass(1, 0, 0);
        return x;
    }

    /** "Throws IllegalStateException if it is OVER" */
    private static void playWhenOver() {
        for (int rounds = 0; rounds < 3; rounds++) {
            int before = rounds;
            Bounds.taken("not over behind " + rounds, () -> band(before), 1, x -> x.play());
        }
        Bounds.refused("over behind 3", () -> band(3), Check.STATE, x -> x.play());
        Bounds.refused("lost in round 0", () -> lost(0, 4), Check.STATE, x -> x.play());
        Bounds.refused("lost in round 1", () -> lost(1, 2), Check.STATE, x -> x.play());
        Panyard again = band(3);
        again.pass(30, 0, 0);
        Check.refused("still over", again, Check.STATE, () -> again.play());
    }

    /** "one PLAYED in this DAY"; "One PLAYS once in a DAY at most." */
    private static void playTwiceInADay() {
        Bounds.taken("not played today", Yards::busy, 2, x -> x.play());
        Bounds.refused("played today", Yards::played, Check.STATE, x -> x.play());
        Bounds.taken("the day behind", () -> {
            Panyard x = Yards.played();
            x.pass(1, 0, 0);
            return x;
        }, 2, x -> x.play());
    }

    /** "no PLAYER SOUNDS" */
    private static void playWhenNoneSounds() {
        Bounds.refused("none sounds", () -> sounding(0), Check.STATE, x -> x.play());
        Bounds.taken("one sounds", () -> sounding(1), 1, x -> x.play());
        Bounds.taken("two sound", () -> sounding(2), 1, x -> x.play());
        Bounds.refused("a cracked pan", () -> {
            Panyard x = band(0);
            x.pass(30, 0, 5);
            return x;
        }, Check.STATE, x -> x.play());
    }

    /** A band of three players on one pan, so many of them here. */
    private static Panyard sounding(int count) {
        Panyard x = band(0);
        for (int player = 0; player < 3; player++) {
            if (player > 0) {
                x.player(3, 1, 8);
                x.give(player, 0);
            }
            x.absent(player, player >= count);
        }
        return x;
    }

    /** "or there are no PLACES" */
    private static void playWithoutPlaces() {
        for (int count = 0; count <= 2; count++) {
            int places = count;
            Bounds.Recipe recipe = () -> {
                Panyard x = band(0);
                x.cut(0);
                for (int place = 0; place < places; place++) {
                    x.put(0);
                }
                return x;
            };
            if (count == 0) {
                Bounds.refused("no places", recipe, Check.STATE, x -> x.play());
            } else {
                Bounds.taken("places " + count, recipe, 1, x -> x.play());
            }
        }
        Bounds.refused("nothing at all", Panyard::new, Check.STATE, x -> x.play());
    }

    /** "our RANK is 1 more than how many RIVALS have more than our SCORE" */
    private static void rankByScore() {
        for (int total = 122; total <= 124; total++) {
            Panyard x = band(0);
            x.rival(total);
            Check.due("a rival of " + total, x.play(), total > 123 ? 2 : 1);
            Panyard y = band(0);
            y.lean(0, 9);
            y.lean(2, 5);
            y.rival(total + 5);
            Check.due("a rival of " + (total + 5) + " and a lean of 5", y.play(), total > 123 ? 2 : 1);
        }
    }

    /** "in a ROUND r it is 15 times r more" */
    private static void rankByRound() {
        for (int round = 0; round <= 2; round++) {
            for (int total = 122; total <= 124; total++) {
                Panyard x = band(round);
                x.rival(total - 15 * round);
                Check.due("round " + round + ", then " + total, x.play(), total > 123 ? 2 : 1);
            }
        }
        Panyard last = band(2);
        last.rival(400);
        Check.due("430 in round 2", last.play(), 2);
    }

    /** "RIVALS: at most 6": RANK is 1 to 7. */
    private static void rankOfSixRivals() {
        for (int ahead = 0; ahead <= 6; ahead++) {
            Panyard x = bandWithRivals(0, ahead);
            for (int i = ahead; i < 6; i++) {
                x.rival(0);
            }
            Check.due("rank", x.play(), ahead + 1);
            Check.due("asked", x.ofRound(0, 1), ahead + 1);
        }
    }

    /** "In the ROUNDS 0 and 1 one goes on with a RANK of 4, or 2, at most; otherwise it is OVER" (0) */
    private static void goesOnWithRank4() {
        for (int rank = 3; rank <= 5; rank++) {
            Panyard x = bandWithRivals(0, rank - 1);
            int money = x.many(7);
            Check.due("rank", x.play(), rank);
            Check.due("over with rank " + rank, x.many(9), rank > 4 ? 1 : 0);
            Check.due("rounds played", x.many(8), 1);
            Check.due("50 in round 0", x.many(7), money + 50);
        }
    }

    /** "In the ROUNDS 0 and 1 one goes on with a RANK of 4, or 2, at most; otherwise it is OVER" (1) */
    private static void goesOnWithRank2() {
        for (int rank = 1; rank <= 4; rank++) {
            Panyard x = bandWithRivals(1, rank - 1);
            int money = x.many(7);
            Check.due("rank", x.play(), rank);
            Check.due("over with rank " + rank, x.many(9), rank > 2 ? 1 : 0);
            Check.due("rounds played", x.many(8), 2);
            Check.due("50 in round 1", x.many(7), money + 50);
        }
    }

    /** "MONEY is 50 more in each ROUND, and in the ROUND 2 besides 300, 200, 100 for a RANK of 1, 2, 3." */
    private static void prizes() {
        int[] prizes = {300, 200, 100, 0, 0, 0, 0};
        for (int rank = 1; rank <= 7; rank++) {
            Panyard x = bandWithRivals(2, rank - 1);
            int money = x.many(7);
            Check.due("rank", x.play(), rank);
            Check.due("prize of rank " + rank, x.many(7), money + 50 + prizes[rank - 1]);
        }
    }

    /** "it is OVER behind the ROUND 2, too" (with any RANK) */
    private static void overBehindRound2() {
        for (int rank = 1; rank <= 7; rank++) {
            Panyard x = bandWithRivals(2, rank - 1);
            Check.due("not over ahead of it", x.many(9), 0);
            x.play();
            Check.due("over behind it", x.many(9), 1);
            Check.due("rounds played", x.many(8), 3);
        }
    }

    /** "Throws IndexOutOfBoundsException if round is not 0 to 2", "IllegalArgumentException if what is not 0 or 1" */
    private static void askedOfARound() {
        int score = Yards.busy().ofRound(0, 0);
        Bounds.range("ofRound, round", Yards::busy, 0, 2, Check.INDEX, (x, v) -> x.ofRound(v, 0), v -> v == 0 ? score : -1);
        Bounds.range("ofRound, what", Yards::busy, 0, 1, Check.ARGUMENT, (x, v) -> x.ofRound(1, v), v -> -1);
        Bounds.range("ofRound, what of round 0", Yards::busy, 0, 1, Check.ARGUMENT, (x, v) -> x.ofRound(0, v),
                v -> v == 0 ? score : 2);
        Bounds.refused("ofRound: round 3, what 2", Yards::busy, Check.INDEX, x -> x.ofRound(3, 2));
        Bounds.refused("ofRound: round -1, what -1", Yards::busy, Check.INDEX, x -> x.ofRound(-1, -1));
        for (int rounds = 0; rounds <= 3; rounds++) {
            Panyard x = band(rounds);
            for (int round = 0; round <= 2; round++) {
                Check.due("score of " + round + " behind " + rounds, x.ofRound(round, 0), round < rounds ? 123 : -1);
                Check.due("rank of " + round + " behind " + rounds, x.ofRound(round, 1), round < rounds ? 1 : -1);
            }
        }
    }
}
