import java.math.BigInteger;
import java.util.ArrayList;
import java.util.List;

/**
 * The bounds in part 4 of the terms (sounds, marks, scores), in promises 26, 27, 29, 31 to 33 and 35, and in
 * "What it is". Each test stands for a sentence of the document, told ahead of it; it looks at the bound and
 * one step to each side of it.
 */
public final class HeardBoundsTest {
    public static void main(String[] args) {
        shareOfMemory();
        shareOfEachPlayer();
        meanOfPlayers();
        nobodySounds();
        lessByPlace();
        soundOf0AtLeast();
        meanAndLeastSound();
        noPlaces();
        toneOfNobody();
        toneRoundedDown();
        phrasesOnce();
        repeatedPhrases();
        arrangementHeld();
        scoreOfLeans();
        placeOfASound();
        whatOfAPlace();
        whichMark();
        whatOfMany();
        daysOfWouldTotal();
        wouldTotalSparesToday();
        wouldTotalDownTo0();
        wouldTotalWithoutWeather();
        placesOfBestOrder();
        bestOrderOfFew();
        bestOrderFromAnyOrder();
        playerOfBestTeach();
        minutesOfBestTeach();
        bestTeachOfNone();
        bestTeachOfEqualOnes();
        bestTeachForTheLastPoint();
        bestTeachWithoutMinutes();
        bestTeachOfAMuteOne();
        questionsChangeNothing();
        digestOfANewYard();
        digestOf5And6Places();
        calls512();
        Check.finish();
    }

    /** A bass with all notes in tune but note 4, and as many players on it, of speed 1 and a reach of 8. */
    private static Panyard bass(int players) {
        Panyard x = Yards.onePan(3);
        Check.offs("bass", x, 0, -6, -1, 4, 9, 14, -12, -7, -2);
        for (int player = 0; player < players; player++) {
            x.player(3, 1, 8);
            x.give(player, 0);
        }
        return x;
    }

    /** Phrase 0, 1 hard, of that set, in place 0, and each player knows it to what is told (90 together). */
    private static Panyard knowing(int set, int... memories) {
        Panyard x = bass(memories.length);
        x.phrase(3, 1, set);
        x.put(0);
        for (int player = 0; player < memories.length; player++) {
            if (memories[player] > 0) {
                x.teach(player, 0, memories[player]);
            }
        }
        return x;
    }

    /** "MEMORY times how many NOTES of the PHRASE are IN TUNE on that PAN, divided by how many NOTES it has" */
    private static void shareOfMemory() {
        // The sets: note 4 alone (out of tune), 3 alone, 3 and 4, 3 to 5, and all: 0, 1, 1/2, 2/3 and 7/8 are in tune.
        int[] sets = {16, 8, 24, 56, 255};
        int[] memories = {0, 1, 2, 3, 4, 59, 60};
        int[][] sounds = {{0, 0, 0, 0, 0, 0, 0}, {0, 1, 2, 3, 4, 59, 60}, {0, 0, 1, 1, 2, 29, 30},
            {0, 0, 1, 2, 2, 39, 40}, {0, 0, 1, 2, 3, 51, 52}};
        for (int s = 0; s < sets.length; s++) {
            for (int m = 0; m < memories.length; m++) {
                Panyard x = knowing(sets[s], memories[m]);
                Check.due("set " + sets[s] + " known to " + memories[m], x.ofPlace(0, 1), sounds[s][m]);
            }
        }
        for (int memory = 99; memory <= 100; memory++) {
            Panyard x = bass(1);
            x.phrase(3, 1, 8);
            x.put(0);
            Yards.know(x, 0, 0, memory);
            Check.due("known to " + memory, x.ofPlace(0, 1), memory);
        }
    }

    /** "of each PLAYER ..., divided by how many NOTES it has; the mean of these" (each is rounded down of its own) */
    private static void shareOfEachPlayer() {
        // Two of three notes are in tune: 1 is 0, 2 is 1, 3 is 2, 4 is 2, 5 is 3.
        Check.due("1 and 2", knowing(56, 1, 2).ofPlace(0, 1), 0);
        Check.due("1 and 1 and 1", knowing(56, 1, 1, 1).ofPlace(0, 1), 0);
        Check.due("2 and 2", knowing(56, 2, 2).ofPlace(0, 1), 1);
        Check.due("4 and 5", knowing(56, 4, 5).ofPlace(0, 1), 2);
        Check.due("5 and 5", knowing(56, 5, 5).ofPlace(0, 1), 3);
    }

    /** "the mean of these (rounded down ...)" */
    private static void meanOfPlayers() {
        int[][] memories = {{0, 1}, {1, 0}, {1, 1}, {1, 2}, {2, 2}, {0, 0, 2}, {0, 0, 3}, {3, 0, 1}, {0, 0, 0, 7},
            {0, 8, 0, 0}, {9, 9, 9, 9, 9, 9, 9, 9}, {9, 9, 9, 9, 9, 9, 9, 8}, {1, 1, 1, 1, 1, 1, 1, 2}};
        int[] means = {0, 0, 1, 1, 2, 0, 1, 1, 1, 2, 9, 8, 1};
        for (int i = 0; i < means.length; i++) {
            Check.due("mean " + i, knowing(1, memories[i]).ofPlace(0, 1), means[i]);
        }
    }

    /** "(... 0 without any)" (a SOUND) */
    private static void nobodySounds() {
        for (int here = 0; here <= 2; here++) {
            Panyard x = knowing(1, 40, 20);
            for (int player = here; player < 2; player++) {
                x.absent(player, true);
            }
            int[] want = {0, 40, 30};
            Check.due("so many here: " + here, x.ofPlace(0, 1), want[here]);
        }
        Panyard mute = knowing(1, 40);
        mute.give(0, -1);
        Check.due("without a pan", mute.ofPlace(0, 1), 0);
        for (int fatigue = 298; fatigue <= 300; fatigue++) {
            Panyard x = Yards.onePan(3);
            Yards.tire(x, 0, 298);
            x.phrase(3, 1, 1);
            x.player(3, 1, 8);
            x.give(0, 0);
            x.put(0);
            x.teach(0, 0, 40);
            if (fatigue > 298) {
                x.blow(0, 4, fatigue - 298);
            }
            Check.due("sound at " + fatigue, x.ofPlace(0, 1), fatigue < 300 ? 40 : 0);
        }
        Panyard other = knowing(1, 40);
        other.phrase(2, 1, 1);
        other.put(1);
        Check.due("a section without players", other.ofPlace(1, 1), 0);
    }

    /** "less (the number of the PLACE times HARD, divided by 4)" (rounded down) */
    private static void lessByPlace() {
        int[][] rows = {{0, 9, 0}, {1, 1, 0}, {1, 3, 0}, {1, 4, 1}, {1, 5, 1}, {1, 7, 1}, {1, 8, 2}, {1, 9, 2},
            {3, 1, 0}, {4, 1, 1}, {5, 1, 1}, {7, 1, 1}, {8, 1, 2}, {9, 1, 2}, {9, 2, 4}, {9, 3, 6}, {9, 4, 9},
            {9, 5, 11}, {9, 7, 15}, {9, 8, 18}, {9, 9, 20}, {8, 9, 18}, {3, 9, 6}, {2, 9, 4}};
        for (int[] row : rows) {
            Panyard x = Yards.onePan(3);
            x.phrase(3, row[1], 1);
            x.player(3, row[1], 1);
            x.give(0, 0);
            Yards.know(x, 0, 0, 100);
            for (int place = 0; place <= row[0]; place++) {
                x.put(0);
            }
            Check.due("place " + row[0] + ", hard " + row[1], x.ofPlace(row[0], 1), 100 - row[2]);
        }
    }

    /** "0 at least" (a SOUND) */
    private static void soundOf0AtLeast() {
        for (int memory = 0; memory <= 22; memory++) {
            Panyard x = Yards.onePan(3);
            x.phrase(3, 9, 1);
            x.player(3, 9, 1);
            x.give(0, 0);
            Yards.know(x, 0, 0, memory);
            for (int place = 0; place <= 9; place++) {
                x.put(0);
            }
            Check.due("known to " + memory + ", 20 less", x.ofPlace(9, 1), Math.max(0, memory - 20));
            Check.due("known to " + memory + ", 2 less", x.ofPlace(1, 1), Math.max(0, memory - 2));
            Check.due("the least of them", x.mark(3), Math.max(0, memory - 20));
        }
    }

    /** Each place has a phrase of its own, known to what is told; the number of a place takes nothing off. */
    private static Panyard places(int... memories) {
        Panyard x = bass(1);
        for (int p = 0; p < memories.length; p++) {
            x.phrase(3, 1, 1);
            x.put(p);
            if (memories[p] > 0) {
                x.teach(0, p, memories[p]);
            }
        }
        return x;
    }

    /** "0 the mean SOUND of all PLACES (rounded down ...)"; "3 RHYTHM: the least SOUND of a PLACE" */
    private static void meanAndLeastSound() {
        int[][] memories = {{0}, {1}, {60}, {0, 1}, {1, 0}, {1, 1}, {1, 2}, {2, 0, 0}, {0, 0, 3}, {0, 2, 2}, {5, 6, 7},
            {7, 6, 5}, {6, 5, 7}, {1, 1, 1, 0}, {1, 1, 1, 1}, {1, 1, 1, 2}, {2, 1, 2, 3}};
        int[] means = {0, 1, 60, 0, 0, 1, 1, 0, 1, 1, 6, 6, 6, 0, 1, 1, 2};
        int[] leasts = {0, 1, 60, 0, 0, 1, 1, 0, 0, 0, 5, 5, 5, 0, 1, 1, 1};
        for (int i = 0; i < means.length; i++) {
            Panyard x = places(memories[i]);
            Check.due("mean " + i, x.mark(0), means[i]);
            Check.due("least " + i, x.mark(3), leasts[i]);
        }
        Panyard full = bass(1);
        full.phrase(3, 1, 1);
        Yards.know(full, 0, 0, 100);
        full.put(0);
        Check.due("a mean of 100", full.mark(0), 100);
        Check.due("a least of 100", full.mark(3), 100);
    }

    /** "(... 0 without any)" (the marks 0, 2 and 3) */
    private static void noPlaces() {
        Panyard x = places(50);
        int[] one = {50, 84, 3, 50};
        int[] none = {0, 84, 0, 0};
        for (int mark = 0; mark <= 3; mark++) {
            Check.due("one place: mark " + mark, x.mark(mark), one[mark]);
        }
        x.cut(0);
        for (int mark = 0; mark <= 3; mark++) {
            Check.due("no place: mark " + mark, x.mark(mark), none[mark]);
        }
        Check.due("the total is the tone", x.many(10), 84);
    }

    /** "1 TONE: ... (0 without any)" */
    private static void toneOfNobody() {
        int[] grades = {7, 8};
        for (int grade : grades) {
            Panyard x = bass(2);
            Yards.move(x, 4, grade == 8 ? 12 : 13);
            Check.due("two sound", x.mark(1), 12 * grade);
            x.absent(0, true);
            Check.due("one sounds", x.mark(1), 12 * grade);
            x.absent(1, true);
            Check.due("none sounds", x.mark(1), 0);
        }
        Check.due("no player", Yards.onePan(3).mark(1), 0);
        for (int fatigue = 298; fatigue <= 300; fatigue++) {
            Panyard x = Yards.onePan(3);
            Yards.tire(x, 0, 298);
            x.player(3, 1, 1);
            x.give(0, 0);
            if (fatigue > 298) {
                x.blow(0, 4, fatigue - 298);
            }
            Check.due("tone at " + fatigue, x.mark(1), fatigue < 300 ? 84 : 0);
        }
        Panyard bad = bass(1);
        bad.pass(30, 9, 0);
        for (int note = 0; note < 8; note++) {
            Yards.move(bad, note, 14);
        }
        Check.due("one sounds, no note is in tune", bad.mark(1), 0);
        Check.due("it sounds", bad.many(5), 1);
    }

    /** "12 times the GRADES of the PANS of all PLAYERS that SOUND (each PLAYER counts), divided by how many these are" */
    private static void toneRoundedDown() {
        // Of eight players as many have the pan with a grade of 8, the others the one with 7.
        int[] tones = {84, 85, 87, 88, 90, 91, 93, 94, 96};
        for (int best = 0; best <= 8; best++) {
            Panyard x = bass(8);
            x.pan(3);
            Check.offs("second bass", x, 1, 1, 6, 11, -15, -10, -5, 0, 5);
            x.blow(1, 3, 3);
            Check.due("grade 8", x.ofPan(1, 3), 8);
            for (int player = 0; player < best; player++) {
                x.give(player, 1);
            }
            Check.due("tone with " + best, x.mark(1), tones[best]);
        }
        int[] fewer = {84, 90, 92, 93, 93, 94, 94, 94};
        for (int count = 1; count <= 8; count++) {
            Panyard x = bass(count);
            x.pan(3);
            x.blow(1, 3, 3);
            for (int player = 1; player < count; player++) {
                x.give(player, 1);
            }
            Check.due("one of 7, of all " + count, x.mark(1), fewer[count - 1]);
        }
    }

    private static Panyard arranged(int[] hards, int... order) {
        Panyard x = new Panyard();
        for (int hard : hards) {
            x.phrase(0, hard, 1);
        }
        for (int phrase : order) {
            x.put(phrase);
        }
        return x;
    }

    /** "3 times HARD of each PHRASE that is in it (each PHRASE counts once)" */
    private static void phrasesOnce() {
        int[] hards = {4, 9, 1, 4};
        Check.due("none", arranged(hards).mark(2), 0);
        Check.due("one", arranged(hards, 0).mark(2), 12);
        Check.due("two", arranged(hards, 0, 1).mark(2), 39);
        Check.due("one of them twice", arranged(hards, 0, 1, 0).mark(2), 39);
        Check.due("both twice", arranged(hards, 0, 1, 0, 1).mark(2), 39);
        Check.due("as hard as another one", arranged(hards, 0, 3).mark(2), 24);
        Check.due("the least", arranged(hards, 2).mark(2), 3);
    }

    /** "less 8 for each PLACE whose PHRASE is that of the one ahead" (the first has none ahead, it is no ring) */
    private static void repeatedPhrases() {
        int[] hards = {9, 9, 5};
        Check.due("one place", arranged(hards, 0).mark(2), 27);
        Check.due("twice", arranged(hards, 0, 0).mark(2), 19);
        Check.due("three times", arranged(hards, 0, 0, 0).mark(2), 11);
        Check.due("first and last", arranged(hards, 0, 1, 0).mark(2), 54);
        Check.due("at the front", arranged(hards, 0, 0, 1).mark(2), 46);
        Check.due("at the end", arranged(hards, 1, 0, 0).mark(2), 46);
        Check.due("two pairs", arranged(hards, 0, 0, 1, 1).mark(2), 38);
        Check.due("one in another", arranged(hards, 0, 1, 1, 0).mark(2), 46);
        Check.due("the last two of ten", arranged(hards, 0, 1, 2, 0, 1, 2, 0, 1, 2, 2).mark(2), 61);
        Check.due("with the same words it is another one", arranged(hards, 0, 1, 0, 1).mark(2), 54);
    }

    /** "held to 0 to 100" */
    private static void arrangementHeld() {
        Check.due("-2", arranged(new int[] {2}, 0, 0).mark(2), 0);
        Check.due("-1", arranged(new int[] {5}, 0, 0, 0).mark(2), 0);
        Check.due("0", arranged(new int[] {8}, 0, 0, 0, 0).mark(2), 0);
        Check.due("1", arranged(new int[] {3}, 0, 0).mark(2), 1);
        Check.due("-69", arranged(new int[] {1}, 0, 0, 0, 0, 0, 0, 0, 0, 0, 0).mark(2), 0);
        int[] many = {9, 9, 9, 9, 3, 9, 6, 7};
        Check.due("99", arranged(many, 0, 1, 2, 6).mark(2), 99);
        Check.due("100", arranged(many, 0, 1, 2, 3, 3).mark(2), 100);
        Check.due("101", arranged(many, 0, 1, 2, 3, 4, 4, 4).mark(2), 100);
        Check.due("102", arranged(many, 0, 1, 2, 7).mark(2), 100);
        Check.due("183", arranged(many, 0, 1, 2, 3, 4, 5, 6, 7).mark(2), 100);
        Check.due("183 less 16", arranged(many, 0, 1, 2, 3, 4, 5, 6, 7, 7, 7).mark(2), 100);
    }

    /** "each gives TOTAL and LEAN; the greatest and the least of these do not count: the SCORE is the third one" */
    private static void scoreOfLeans() {
        for (int a = -9; a <= 9; a += 3) {
            for (int b = -9; b <= 9; b += 3) {
                for (int c = -9; c <= 9; c += 3) {
                    int[] sorted = {a, b, c};
                    java.util.Arrays.sort(sorted);
                    Panyard x = new Panyard();
                    x.lean(0, a);
                    x.lean(1, b);
                    x.lean(2, c);
                    Check.due("leans " + a + " " + b + " " + c, x.many(11), sorted[1]);
                    Check.due("total", x.many(10), 0);
                }
            }
        }
        Panyard y = places(50);
        y.lean(0, -9);
        y.lean(1, -9);
        Check.due("total and a lean of -9", y.many(11), y.many(10) - 9);
    }

    private static Panyard withPlaces(int count) {
        Panyard x = Yards.busy();
        while (x.many(3) > count) {
            x.cut(x.many(3) - 1);
        }
        while (x.many(3) < count) {
            x.put(x.many(3) % 4);
        }
        return x;
    }

    /** "Throws IndexOutOfBoundsException if there is no such PLACE" (ofPlace) */
    private static void placeOfASound() {
        int[] phrases = {0, 1, 2, 0};
        Bounds.range("ofPlace of place", Yards::busy, 0, 3, Check.INDEX, (x, v) -> x.ofPlace(v, 0), v -> phrases[v]);
        Bounds.outside("its sound", Yards::busy, 0, 3, Check.INDEX, (x, v) -> x.ofPlace(v, 1));
        Bounds.range("ofPlace of 10", () -> withPlaces(10), 0, 9, Check.INDEX, (x, v) -> x.ofPlace(v, 0),
                v -> v < 4 ? phrases[v] : v % 4);
        Bounds.range("ofPlace of 1", () -> withPlaces(1), 0, 0, Check.INDEX, (x, v) -> x.ofPlace(v, 0), v -> 0);
        Bounds.refused("ofPlace of none", () -> withPlaces(0), Check.INDEX, x -> x.ofPlace(0, 1));
        Bounds.refused("place 4, what 2", Yards::busy, Check.INDEX, x -> x.ofPlace(4, 2));
        Bounds.refused("place -1, what -1", Yards::busy, Check.INDEX, x -> x.ofPlace(-1, -1));
    }

    /** "Throws IllegalArgumentException if what is not 0 or 1" (ofPlace) */
    private static void whatOfAPlace() {
        Bounds.range("ofPlace, what", () -> places(50, 20), 0, 1, Check.ARGUMENT, (x, v) -> x.ofPlace(1, v),
                v -> v == 0 ? 1 : 20);
        Bounds.outside("ofPlace of the busy one, what", Yards::busy, 0, 1, Check.ARGUMENT, (x, v) -> x.ofPlace(3, v));
    }

    /** "Throws IndexOutOfBoundsException if mark is not 0 to 3" */
    private static void whichMark() {
        int[] want = {35, 84, 6, 20};
        Bounds.range("mark", () -> places(50, 20), 0, 3, Check.INDEX, (x, v) -> x.mark(v), v -> want[v]);
        Bounds.taken("mark of 2", () -> places(50, 20), 6, x -> x.mark(2));
        Bounds.outside("mark of a new yard", Panyard::new, 0, 3, Check.INDEX, (x, v) -> x.mark(v));
    }

    /** "Throws IllegalArgumentException if what is not 0 to 13" */
    private static void whatOfMany() {
        int[] want = {2, 3, 4, 4, 3, 3, 2, Yards.busy().many(7), 1, 0, Yards.busy().many(10), Yards.busy().many(10) + 3,
            20, Yards.busy().ofPan(0, 4)};
        for (int what = 0; what <= 13; what++) {
            int own = what;
            Bounds.taken("many of " + what, Yards::busy, want[what], x -> x.many(own));
        }
        Bounds.range("many", Yards::busy, 0, 13, Check.ARGUMENT, (x, v) -> x.many(v), v -> want[v]);
        Bounds.outside("many of a new yard", Panyard::new, 0, 13, Check.ARGUMENT, (x, v) -> x.many(v));
    }

    /** A bass whose total is 90 and two times the memory of its only phrase, of which a day takes 2. */
    private static Panyard fading(int memory, boolean today) {
        Panyard x = Yards.onePan(3);
        x.phrase(3, 2, 1);
        x.player(3, 2, 8);
        x.give(0, 0);
        x.put(0);
        Yards.know(x, 0, 0, memory);
        if (!today) {
            x.pass(1, 0, 0);
        }
        return x;
    }

    /** "Throws IllegalArgumentException if days is not 0 to 60" */
    private static void daysOfWouldTotal() {
        Bounds.range("wouldTotal of days", () -> fading(100, false), 0, 60, Check.ARGUMENT, (x, v) -> x.wouldTotal(v),
                v -> 90 + 2 * Math.max(0, 100 - 2 * v));
        Bounds.range("wouldTotal of the busy one", Yards::busy, 0, 60, Check.ARGUMENT,
                (x, v) -> x.wouldTotal(v) * 0 + v, v -> v);
        Check.due("0 days are now", Yards.busy().wouldTotal(0), Yards.busy().many(10));
    }

    /** "(what was TAUGHT or REHEARSED today is spared by the first one)" */
    private static void wouldTotalSparesToday() {
        int[] spared = {290, 290, 286, 282};
        for (int days = 0; days <= 3; days++) {
            Check.due("taught today, days " + days, fading(100, true).wouldTotal(days), spared[days]);
            Check.due("not today, days " + days, fading(100, false).wouldTotal(days), 290 - 4 * days);
            Panyard x = fading(98, false);
            x.rehearse(20);
            // Note 0 is in tune behind that, as it was.
            Check.due("rehearsed today, days " + days, x.wouldTotal(days), spared[days]);
            Panyard y = fading(100, true);
            int would = y.wouldTotal(days);
            if (days > 0) {
                y.pass(days, 0, 0);
            }
            Check.due("so it is behind days " + days, y.many(10), would);
        }
    }

    /** "MEMORY ... 0 at least" (in wouldTotal, too) */
    private static void wouldTotalDownTo0() {
        int[] totals = {98, 94, 90, 90, 90};
        for (int days = 48; days <= 52; days++) {
            Check.due("100 behind " + days, fading(100, false).wouldTotal(days), totals[days - 48]);
            Check.due("99 behind " + days, fading(99, false).wouldTotal(days), 90 + 2 * Math.max(0, 99 - 2 * days));
        }
    }

    /** "how many DAYS, without SUN, RAIN and all else" */
    private static void wouldTotalWithoutWeather() {
        Panyard x = Yards.onePan(3);
        Yards.tire(x, 0, 298);
        x.player(3, 1, 1);
        x.give(0, 0);
        Check.due("no rain falls", x.wouldTotal(60), 84);
        x.pass(1, 9, 5);
        Check.due("but it may", x.wouldTotal(60), 0);
        Panyard y = bass(1);
        y.pass(30, 0, 0);
        Yards.move(y, 4, 12);
        Check.due("no sun shines", y.wouldTotal(60), 96);
        y.pass(1, 9, 0);
        Check.due("but it may", y.wouldTotal(60), 84);
    }

    /** "Throws IllegalStateException if it has more than 5" */
    private static void placesOfBestOrder() {
        for (int count = 0; count <= 5; count++) {
            int places = count;
            Bounds.taken("bestOrder of " + count, () -> withPlaces(places), bestByHand(withPlaces(places)),
                    x -> x.bestOrder());
        }
        for (int count = 6; count <= 10; count++) {
            int places = count;
            Bounds.refused("bestOrder of " + count, () -> withPlaces(places), Check.STATE, x -> x.bestOrder());
        }
    }

    /** The greatest total of all orders, each of them put together on a yard of its own. */
    private static int bestByHand(Panyard x) {
        List<Integer> phrases = new ArrayList<>();
        for (int place = 0; place < x.many(3); place++) {
            phrases.add(x.ofPlace(place, 0));
        }
        return bestBehind(new ArrayList<>(), phrases);
    }

    private static int bestBehind(List<Integer> done, List<Integer> left) {
        if (left.isEmpty()) {
            Panyard x = withPlaces(0);
            for (int phrase : done) {
                x.put(phrase);
            }
            return x.many(10);
        }
        int best = -1;
        for (int i = 0; i < left.size(); i++) {
            List<Integer> more = new ArrayList<>(done);
            List<Integer> fewer = new ArrayList<>(left);
            more.add(fewer.remove(i));
            best = Math.max(best, bestBehind(more, fewer));
        }
        return best;
    }

    /** "the greatest TOTAL that the ARRANGEMENT could have in any order of its PLACES" (of 0, 1 and 2) */
    private static void bestOrderOfFew() {
        Check.due("nothing at all", new Panyard().bestOrder(), 0);
        Check.due("no place", places().bestOrder(), 84);
        Check.due("one place", places(50).bestOrder(), 50 + 84 + 3 + 50);
        Panyard x = bass(1);
        x.phrase(3, 1, 1);
        x.phrase(3, 8, 1);
        x.teach(0, 0, 9);
        x.teach(0, 1, 60);
        // 9 and 7; behind another one 9 and 5: the hard one should be ahead.
        x.put(0);
        x.put(1);
        Check.due("as it is", x.many(10), 7 + 84 + 27 + 5);
        Check.due("the other way", x.bestOrder(), 8 + 84 + 27 + 7);
    }

    /** "in any order of its PLACES": one order alone is the best, so each way from another one to it is needed. */
    private static void bestOrderFromAnyOrder() {
        for (int code = 0; code < 3125; code++) {
            int[] order = {code % 5, code / 5 % 5, code / 25 % 5, code / 125 % 5, code / 625};
            if (java.util.Arrays.stream(order).distinct().count() == 5) {
                Panyard x = fiveKnown();
                for (int phrase : order) {
                    x.put(phrase);
                }
                Check.due("bestOrder from code " + code, x.bestOrder(), 84 + 100 + 63 / 5 + 8);
            }
        }
        Panyard best = fiveKnown();
        int[] order = {0, 4, 3, 1, 2};
        int[] sounds = {9, 9, 8, 8, 29};
        for (int place = 0; place < 5; place++) {
            best.put(order[place]);
        }
        for (int place = 0; place < 5; place++) {
            Check.due("sound of place " + place, best.ofPlace(place, 1), sounds[place]);
        }
        Check.due("the best order", best.many(10), 204);
    }

    /** A bass whose player knows five phrases to 9, 14, 33, 12 and 10. */
    private static Panyard fiveKnown() {
        int[] hards = {9, 9, 4, 9, 7};
        int[] minutes = {9, 14, 15, 12, 8};
        Panyard x = Yards.onePan(3);
        x.player(3, 9, 1);
        x.give(0, 0);
        for (int p = 0; p < 5; p++) {
            x.phrase(3, hards[p], 1);
            x.teach(0, p, minutes[p]);
        }
        return x;
    }

    /** "Throws IndexOutOfBoundsException if there is no such PLAYER" (bestTeach) */
    private static void playerOfBestTeach() {
        Bounds.outside("bestTeach of player", Yards::busy, 0, 2, Check.INDEX, (x, v) -> x.bestTeach(v, 20));
        Bounds.taken("bestTeach of player 1", Yards::busy, 1, x -> x.bestTeach(1, 20));
        Bounds.taken("bestTeach of player 2", Yards::busy, 0, x -> x.bestTeach(2, 1));
        Bounds.refused("bestTeach of none", Panyard::new, Check.INDEX, x -> x.bestTeach(0, 1));
        Bounds.refused("no player, 0 minutes", Yards::busy, Check.INDEX, x -> x.bestTeach(3, 0));
        Bounds.refused("no player, 61 minutes", Yards::busy, Check.INDEX, x -> x.bestTeach(-1, 61));
    }

    /** "Throws IllegalArgumentException if minutes is not 1 to 60" (bestTeach) */
    private static void minutesOfBestTeach() {
        Bounds.range("bestTeach for", Yards::busy, 1, 60, Check.ARGUMENT, (x, v) -> x.bestTeach(1, v), v -> 1);
        Bounds.outside("bestTeach of an absent one for", () -> {
            Panyard x = Yards.busy();
            x.absent(0, true);
            return x;
        }, 1, 60, Check.ARGUMENT, (x, v) -> x.bestTeach(0, v));
    }

    /** "NONE without one" (a PHRASE of that SECTION) */
    private static void bestTeachOfNone() {
        Panyard x = new Panyard();
        x.player(1, 1, 1);
        Check.due("no phrase", x.bestTeach(0, 60), -1);
        x.phrase(0, 1, 1);
        Check.due("one less", x.bestTeach(0, 60), -1);
        x.phrase(2, 1, 1);
        Check.due("one more", x.bestTeach(0, 60), -1);
        x.phrase(1, 9, 255);
        Check.due("one of that section", x.bestTeach(0, 1), 2);
        x.phrase(1, 1, 1);
        Check.due("two of that section", x.bestTeach(0, 60), 2);
    }

    /** "for the greatest TOTAL then; of several the smallest" */
    private static void bestTeachOfEqualOnes() {
        for (int first = 0; first <= 2; first++) {
            for (int second = first + 1; second <= 3; second++) {
                Panyard x = bass(1);
                for (int p = 0; p < 4; p++) {
                    x.phrase(3, 1, 1);
                }
                x.put(second);
                x.put(first);
                Check.due("of " + first + " and " + second, x.bestTeach(0, 20), first);
                x.teach(0, first, 1);
                Check.due("the mean for either, the least for " + second, x.bestTeach(0, 20), second);
            }
        }
        Panyard full = bass(1);
        for (int p = 0; p < 8; p++) {
            full.phrase(3, 1, 16);
            full.put(p);
        }
        Check.due("eight, and none can be heard", full.bestTeach(0, 60), 0);
    }

    /** "for the greatest TOTAL then": one point more is enough, none more is not. */
    private static void bestTeachForTheLastPoint() {
        // Phrase 1 alone has a place; 9 minutes bring 1 of it, fewer bring nothing.
        int[] minutes = {1, 8, 9, 10, 18};
        int[] best = {0, 0, 1, 1, 1};
        for (int i = 0; i < minutes.length; i++) {
            Panyard x = bass(1);
            x.phrase(3, 1, 1);
            x.phrase(3, 9, 1);
            x.put(1);
            Check.due("for " + minutes[i], x.bestTeach(0, minutes[i]), best[i]);
        }
        for (int memory = 98; memory <= 100; memory++) {
            Panyard x = bass(1);
            x.phrase(3, 9, 1);
            x.phrase(3, 1, 1);
            x.put(1);
            Yards.know(x, 0, 1, memory);
            Check.due("known to " + memory, x.bestTeach(0, 60), memory < 100 ? 1 : 0);
        }
        for (int reach = 1; reach <= 3; reach++) {
            Panyard x = Yards.onePan(3);
            x.player(3, 9, reach);
            x.give(0, 0);
            x.phrase(3, 9, 1);
            x.phrase(3, 1, 3);
            x.put(1);
            x.teach(0, 1, 60);
            Panyard y = Yards.onePan(3);
            y.player(3, 1, reach);
            y.give(0, 0);
            y.phrase(3, 9, 1);
            y.phrase(3, 1, 3);
            y.put(1);
            Yards.know(y, 0, 1, 70);
            Check.due("full, of reach " + reach, x.bestTeach(0, 60), 0);
            Check.due("70, of reach " + reach, y.bestTeach(0, 60), reach < 2 ? 0 : 1);
        }
    }

    /** "(also if the SECTION has less left ...)" */
    private static void bestTeachWithoutMinutes() {
        for (int gone = 29; gone <= 90; gone += gone < 31 ? 1 : 59) {
            Panyard x = bass(2);
            x.phrase(3, 9, 1);
            x.phrase(3, 1, 1);
            x.put(1);
            x.teach(1, 0, gone > 60 ? 60 : gone);
            if (gone > 60) {
                x.teach(1, 0, gone - 60);
            }
            Check.due("60, with " + gone + " gone", x.bestTeach(0, 60), 1);
        }
    }

    /** "(also if ... the PLAYER is ABSENT, and does not SOUND)": no TOTAL differs then. */
    private static void bestTeachOfAMuteOne() {
        Panyard x = bass(2);
        x.phrase(3, 9, 1);
        x.phrase(3, 1, 1);
        x.put(1);
        Check.due("sounds", x.bestTeach(0, 20), 1);
        x.absent(0, true);
        Check.due("absent", x.bestTeach(0, 20), 0);
        Check.due("the other one", x.bestTeach(1, 20), 1);
        x.absent(0, false);
        x.give(0, -1);
        Check.due("without a pan", x.bestTeach(0, 20), 0);
        x.give(0, 0);
        x.pass(29, 0, 5);
        Check.due("at 290", x.bestTeach(0, 20), 1);
        x.pass(1, 0, 5);
        Check.due("at 300", x.bestTeach(0, 20), 0);
    }

    /** "what would be (nothing is changed)", and what one asks changes nothing either. */
    private static void questionsChangeNothing() {
        Bounds.quiet("wouldTotal of 0", Yards::busy, x -> x.wouldTotal(0));
        Bounds.quiet("wouldTotal of 60", Yards::busy, x -> x.wouldTotal(60));
        Bounds.quiet("bestOrder", Yards::busy, x -> x.bestOrder());
        Bounds.quiet("bestTeach", Yards::busy, x -> x.bestTeach(0, 60) + x.bestTeach(2, 1));
        Bounds.quiet("blowsFor", Yards::busy, x -> x.blowsFor(0) + x.blowsFor(1) + x.blowsFor(2));
        Bounds.quiet("digest", Yards::busy, x -> x.digest());
        Bounds.quiet("marks", Yards::busy, x -> x.mark(0) + x.mark(1) + x.mark(2) + x.mark(3));
        Bounds.quiet("meanMemory", Yards::busy, x -> (long) x.meanMemory());
        Bounds.quiet("what one asks", Yards::busy, x -> x.many(10) + x.many(11) + x.ofPlace(3, 1) + x.ofPlayer(0, 5)
                + x.ofPhrase(0, 4) + x.ofPan(0, 3) + x.off(0, 7) + x.memory(0, 1) + x.ofRound(1, 0));
        Bounds.quiet("questions behind one another", Yards::played, x -> x.wouldTotal(60) + x.bestTeach(1, 60)
                + x.wouldTotal(1) + x.bestOrder() + x.blowsFor(2) + x.digest());
    }

    private static long bigDigest(List<Long> values) {
        BigInteger d = BigInteger.valueOf(58218);
        for (long value : values) {
            d = d.multiply(BigInteger.valueOf(31)).add(BigInteger.valueOf(value));
        }
        return d.longValue();
    }

    /** "A number d starts with 58218 ... which wraps around as a 64-bit integer" (26 numbers of a new yard) */
    private static void digestOfANewYard() {
        List<Long> values = new ArrayList<>();
        for (int what = 0; what <= 13; what++) {
            values.add(what == 7 ? 200L : 0L);
        }
        for (int mark = 0; mark <= 3; mark++) {
            values.add(0L);
        }
        for (int i = 0; i < 6; i++) {
            values.add(-1L);
        }
        values.add(0L);
        values.add(0L);
        Check.due("digest of a new yard", new Panyard().digest(), bigDigest(values));
    }

    /** "bestOrder(), if there are no more than 5 PLACES" */
    private static void digestOf5And6Places() {
        for (int places = 4; places <= 7; places++) {
            Panyard x = withPlaces(places);
            List<Long> values = new ArrayList<>();
            addMany(values, x);
            addPansAndPhrases(values, x);
            addPlayers(values, x);
            addTheRest(values, x);
            Check.due("digest of places, " + places, x.digest(), bigDigest(values));
        }
    }

    private static void addMany(List<Long> values, Panyard x) {
        for (int what = 0; what <= 13; what++) {
            values.add((long) x.many(what));
        }
    }

    private static void addPansAndPhrases(List<Long> values, Panyard x) {
        for (int pan = 0; pan < 3; pan++) {
            for (int what = 0; what <= 4; what++) {
                values.add((long) x.ofPan(pan, what));
            }
            for (int note = 0; note <= 7; note++) {
                values.add((long) x.off(pan, note));
            }
            values.add((long) x.blowsFor(pan));
        }
        for (int phrase = 0; phrase < 4; phrase++) {
            for (int what = 0; what <= 4; what++) {
                values.add((long) x.ofPhrase(phrase, what));
            }
        }
    }

    private static void addPlayers(List<Long> values, Panyard x) {
        for (int player = 0; player < 3; player++) {
            for (int what = 0; what <= 6; what++) {
                values.add((long) x.ofPlayer(player, what));
            }
            for (int phrase = 0; phrase < 4; phrase++) {
                values.add((long) x.memory(player, phrase));
            }
            values.add((long) x.bestTeach(player, 20));
        }
    }

    private static void addTheRest(List<Long> values, Panyard x) {
        for (int place = 0; place < x.many(3); place++) {
            values.add((long) x.ofPlace(place, 0));
            values.add((long) x.ofPlace(place, 1));
        }
        for (int mark = 0; mark <= 3; mark++) {
            values.add((long) x.mark(mark));
        }
        for (int round = 0; round <= 2; round++) {
            values.add((long) x.ofRound(round, 0));
            values.add((long) x.ofRound(round, 1));
        }
        values.add((long) x.wouldTotal(5));
        if (x.many(3) <= 5) {
            values.add((long) x.bestOrder());
        }
    }

    /** "An object is used for at most 512 calls after it has been made" (the last one answers as the first did) */
    private static void calls512() {
        Panyard days = Yards.onePan(0);
        for (int call = 2; call < 512; call++) {
            days.pass(30, 9, 9);
        }
        Check.due("call 512", days.ofPan(0, 1), 153000);
        Panyard rich = new Panyard();
        for (int call = 1; call < 512; call++) {
            rich.sponsor(500);
        }
        Check.due("call 512", rich.sponsor(500), 256200);
        Panyard told = new Panyard();
        told.phrase(0, 1, 1);
        for (int call = 2; call < 512; call++) {
            told.change(0, 9, 255);
        }
        Check.due("call 512", told.change(0, 1, 1), 511);
        Panyard moved = new Panyard();
        moved.phrase(0, 1, 1);
        for (int call = 2; call <= 510; call += 2) {
            moved.put(0);
            moved.cut(0);
        }
        Check.due("call 512", moved.put(0), 0);
    }
}
