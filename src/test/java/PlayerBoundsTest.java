/**
 * The bounds of players, lessons and rehearsals in part 2 of the terms, and in promises 11 to 15, 24, 25 and
 * 30. Each test stands for a sentence of the document, told ahead of it; it looks at the bound and one step
 * to each side of it.
 */
public final class PlayerBoundsTest {
    public static void main(String[] args) {
        sectionOfAPlayer();
        speedOfAPlayer();
        reachOfAPlayer();
        eightPlayers();
        firstOfSeveralForAPlayer();
        atFirst();
        playerToGive();
        panToGive();
        familyOfAGivenPan();
        firstOfSeveralToGive();
        absentPlayer();
        absentOrNot();
        playerToTeach();
        phraseToTeach();
        minutesToTeach();
        phraseOfAnotherSection();
        teachAnAbsentOne();
        ninetyMinutes();
        ninetyMinutesOfEach();
        firstOfSeveralToTeach();
        memoryUpTo100();
        memoryUpTo70();
        moreNotesThanReach();
        lessonRoundedDown();
        soundsOrNot();
        soundsUntilTheCrack();
        minutesToRehearse();
        hundredAndTwentyMinutes();
        firstOfSeveralToRehearse();
        rehearsedFrom30();
        rehearsedTens();
        rehearsedUpToTheMost();
        rehearsedDays();
        rehearsedNotesHeld();
        howManySound();
        askedOfAPlayer();
        taughtEver();
        askedMemory();
        meanOfNone();
        Check.finish();
    }

    /** "Throws IndexOutOfBoundsException if section is not 0 to 3" (player) */
    private static void sectionOfAPlayer() {
        Bounds.range("player of section", Yards::busy, 0, 3, Check.INDEX, (x, v) -> x.player(v, 1, 1), v -> 3);
        Bounds.range("first player of section", Panyard::new, 0, 3, Check.INDEX, (x, v) -> x.player(v, 9, 8), v -> 0);
    }

    /** "Throws IllegalArgumentException if speed is not 1 to 9" */
    private static void speedOfAPlayer() {
        Bounds.range("player, speed", Yards::busy, 1, 9, Check.ARGUMENT, (x, v) -> x.player(1, v, 1), v -> 3);
    }

    /** "or reach not 1 to 8" */
    private static void reachOfAPlayer() {
        Bounds.range("player, reach", Yards::busy, 1, 8, Check.ARGUMENT, (x, v) -> x.player(1, 1, v), v -> 3);
    }

    private static Panyard withPlayers(int count) {
        Panyard x = Yards.busy();
        while (x.many(4) < count) {
            x.player(1, 2, 3);
        }
        return x;
    }

    /** "PLAYERS: at most 8, numbered from 0"; "Throws IllegalStateException if there are 8" */
    private static void eightPlayers() {
        Panyard y = new Panyard();
        for (int number = 0; number < 8; number++) {
            Check.due("player " + number, y.player(number % 4, 1, 1), number);
            Check.due("how many", y.many(4), number + 1);
        }
        Bounds.taken("with 6 there", () -> withPlayers(6), 6, x -> x.player(0, 1, 1));
        Bounds.taken("with 7 there", () -> withPlayers(7), 7, x -> x.player(0, 1, 1));
        Bounds.refused("with 8 there", () -> withPlayers(8), Check.STATE, x -> x.player(0, 1, 1));
        Bounds.refused("with 8 there, the last of all", () -> withPlayers(8), Check.STATE, x -> x.player(3, 9, 8));
    }

    /** "If several exceptions apply, the one that is named first is thrown." (player) */
    private static void firstOfSeveralForAPlayer() {
        Bounds.refused("section 4, speed 0", Yards::busy, Check.INDEX, x -> x.player(4, 0, 1));
        Bounds.refused("section -1, reach 9", Yards::busy, Check.INDEX, x -> x.player(-1, 1, 9));
        Bounds.refused("8 there, section 4", () -> withPlayers(8), Check.INDEX, x -> x.player(4, 1, 1));
        Bounds.refused("8 there, section -1", () -> withPlayers(8), Check.INDEX, x -> x.player(-1, 1, 1));
        Bounds.refused("8 there, speed 0", () -> withPlayers(8), Check.ARGUMENT, x -> x.player(0, 0, 1));
        Bounds.refused("8 there, speed 10", () -> withPlayers(8), Check.ARGUMENT, x -> x.player(0, 10, 1));
        Bounds.refused("8 there, reach 0", () -> withPlayers(8), Check.ARGUMENT, x -> x.player(0, 1, 0));
        Bounds.refused("8 there, reach 9", () -> withPlayers(8), Check.ARGUMENT, x -> x.player(0, 1, 9));
        Bounds.refused("all three", () -> withPlayers(8), Check.INDEX, x -> x.player(4, 0, 0));
    }

    /** "a PAN (NONE at first), ABSENT or not (not at first), and for each PHRASE ... a MEMORY (... 0 at first)" */
    private static void atFirst() {
        Panyard x = new Panyard();
        x.pan(3);
        x.phrase(3, 1, 1);
        x.player(3, 9, 8);
        x.phrase(3, 9, 255);
        int[] want = {3, 9, 8, -1, 0, 0, 0};
        for (int what = 0; what <= 6; what++) {
            Check.due("at first: ofPlayer " + what, x.ofPlayer(0, what), want[what]);
        }
        Check.due("of a phrase that was there", x.memory(0, 0), 0);
        Check.due("of a phrase that came later", x.memory(0, 1), 0);
    }

    /** "Throws IndexOutOfBoundsException if there is no such PLAYER" (give) */
    private static void playerToGive() {
        Bounds.range("give to player", Yards::busy, 0, 2, Check.INDEX, (x, v) -> x.give(v, -1), v -> v);
        Bounds.range("give to player, 8 there", () -> withPlayers(8), 0, 7, Check.INDEX, (x, v) -> x.give(v, -1),
                v -> v < 3 ? v : -1);
        Bounds.refused("give to none", Panyard::new, Check.INDEX, x -> x.give(0, -1));
    }

    /** "or PAN" (give); "pan: the PAN (NONE: none from now on)" */
    private static void panToGive() {
        Bounds.outside("give of pan", Yards::busy, -1, 2, Check.INDEX, (x, v) -> x.give(0, v));
        Bounds.taken("give of NONE", Yards::busy, 0, x -> x.give(0, -1));
        Bounds.taken("give of pan 0", Yards::busy, 0, x -> x.give(0, 0));
        Bounds.taken("give of pan 2", Yards::busy, 0, x -> x.give(0, 2));
        Bounds.taken("NONE then", Yards::busy, -1, x -> x.give(0, -1) + x.ofPlayer(0, 3));
        Bounds.taken("pan 2 then", Yards::busy, 2, x -> x.give(0, 2) + x.ofPlayer(0, 3));
        Panyard empty = new Panyard();
        empty.player(0, 1, 1);
        Check.due("NONE without any pan", empty.give(0, -1), -1);
        Check.refused("pan 0 without any", empty, Check.INDEX, () -> empty.give(0, 0));
    }

    /** "Throws IllegalArgumentException if the FAMILY of the PAN is not the SECTION" */
    private static void familyOfAGivenPan() {
        for (int section = 0; section <= 3; section++) {
            for (int family = 0; family <= 3; family++) {
                int s = section;
                int f = family;
                Bounds.Recipe both = () -> {
                    Panyard x = Yards.onePan(f);
                    x.player(s, 1, 1);
                    return x;
                };
                if (s == f) {
                    Bounds.taken("family " + f + " to section " + s, both, -1, x -> x.give(0, 0));
                } else {
                    Bounds.refused("family " + f + " to section " + s, both, Check.ARGUMENT, x -> x.give(0, 0));
                }
            }
        }
    }

    /** "If several exceptions apply, the one that is named first is thrown." (give) */
    private static void firstOfSeveralToGive() {
        Bounds.refused("no player, pan 1", Yards::busy, Check.INDEX, x -> x.give(3, 1));
        Bounds.refused("no player, no pan", Yards::busy, Check.INDEX, x -> x.give(-1, 3));
        Bounds.refused("another family", Yards::busy, Check.ARGUMENT, x -> x.give(0, 1));
        Bounds.refused("another family", Yards::busy, Check.ARGUMENT, x -> x.give(1, 2));
    }

    /** "Throws IndexOutOfBoundsException if there is no such PLAYER" (absent) */
    private static void absentPlayer() {
        Bounds.range("absent player", Yards::busy, 0, 2, Check.INDEX, (x, v) -> Bounds.bit(x.absent(v, true)), v -> 0);
        Bounds.outside("player here", Yards::busy, 0, 2, Check.INDEX, (x, v) -> Bounds.bit(x.absent(v, false)));
        Bounds.range("absent player, 8 there", () -> withPlayers(8), 0, 7, Check.INDEX,
                (x, v) -> Bounds.bit(x.absent(v, true)), v -> 0);
        Bounds.refused("absent none", Panyard::new, Check.INDEX, x -> Bounds.bit(x.absent(0, false)));
    }

    /** "Returns whether it was so." */
    private static void absentOrNot() {
        Panyard x = Yards.busy();
        boolean[] calls = {false, true, true, false, false, true};
        boolean[] before = {false, false, true, true, false, false};
        for (int i = 0; i < calls.length; i++) {
            Check.due("whether it was, " + i, x.absent(1, calls[i]), before[i]);
            Check.due("whether it is, " + i, x.ofPlayer(1, 4), calls[i] ? 1 : 0);
        }
    }

    /** "Throws IndexOutOfBoundsException if there is no such PLAYER" (teach) */
    private static void playerToTeach() {
        Bounds.outside("teach player", Yards::busy, 0, 2, Check.INDEX, (x, v) -> x.teach(v, 0, 1));
        Bounds.taken("teach player 0", Yards::busy, Yards.busy().memory(0, 0) + 3, x -> x.teach(0, 0, 1));
        Bounds.taken("teach player 2", Yards::busy, Yards.busy().memory(2, 0) + 4, x -> x.teach(2, 0, 3));
        Bounds.refused("teach none", Panyard::new, Check.INDEX, x -> x.teach(0, 0, 1));
    }

    /** "or PHRASE" (teach) */
    private static void phraseToTeach() {
        Bounds.outside("teach phrase", Yards::busy, 0, 3, Check.INDEX, (x, v) -> x.teach(0, v, 1));
        Bounds.Recipe last = () -> {
            Panyard x = Yards.busy();
            x.player(3, 7, 1);
            return x;
        };
        Bounds.taken("teach phrase 3", last, 7, x -> x.teach(3, 3, 1));
        Bounds.refused("teach phrase 4", last, Check.INDEX, x -> x.teach(3, 4, 1));
    }

    /** A new day, with a player of speed 9 who knows nothing of a phrase 9 hard. */
    private static Panyard slow() {
        Panyard x = Yards.busy();
        x.phrase(1, 9, 1);
        x.pass(1, 0, 0);
        return x;
    }

    /** "Throws IllegalArgumentException if minutes is not 1 to 60" */
    private static void minutesToTeach() {
        Bounds.range("teach for", PlayerBoundsTest::slow, 1, 60, Check.ARGUMENT, (x, v) -> x.teach(0, 4, v), v -> v);
    }

    /** "or the PHRASE is of another SECTION" */
    private static void phraseOfAnotherSection() {
        Bounds.taken("its own", PlayerBoundsTest::slow, 1, x -> x.teach(0, 4, 1));
        Bounds.refused("one more", PlayerBoundsTest::slow, Check.ARGUMENT, x -> x.teach(0, 1, 1));
        Bounds.refused("two more", PlayerBoundsTest::slow, Check.ARGUMENT, x -> x.teach(0, 3, 60));
        Bounds.refused("one less", PlayerBoundsTest::slow, Check.ARGUMENT, x -> x.teach(1, 0, 1));
    }

    private static Panyard absentSlow() {
        Panyard x = slow();
        x.absent(0, true);
        return x;
    }

    /** "Throws IllegalStateException if the PLAYER is ABSENT" */
    private static void teachAnAbsentOne() {
        Bounds.taken("here", PlayerBoundsTest::slow, 60, x -> x.teach(0, 4, 60));
        Bounds.refused("absent", PlayerBoundsTest::absentSlow, Check.STATE, x -> x.teach(0, 4, 60));
        Bounds.refused("absent, a minute", PlayerBoundsTest::absentSlow, Check.STATE, x -> x.teach(0, 4, 1));
        Bounds.refused("absent, a phrase that it knows", PlayerBoundsTest::absentSlow, Check.STATE,
                x -> x.teach(0, 2, 1));
        Bounds.taken("here again", PlayerBoundsTest::absentSlow, 1, x -> Bounds.bit(x.absent(0, false)) * x.teach(0, 4, 1));
        Bounds.taken("one without a pan", PlayerBoundsTest::slow, 1, x -> x.give(0, -1) + x.teach(0, 4, 1));
    }

    /** The slow yard with that many minutes of section 1 gone. */
    private static Panyard gone(int minutes) {
        Panyard x = slow();
        x.teach(2, 0, Math.min(60, minutes - 1));
        x.teach(0, 0, minutes - Math.min(60, minutes - 1));
        return x;
    }

    /** "A SECTION has 90 MINUTES for that each DAY."; "or the SECTION has not so many MINUTES left" */
    private static void ninetyMinutes() {
        for (int minutes = 30; minutes <= 90; minutes++) {
            int used = minutes;
            int left = 90 - minutes;
            if (left > 1) {
                Bounds.taken("one less than left, " + left, () -> gone(used), left - 1, x -> x.teach(0, 4, left - 1));
            }
            if (left > 0) {
                Bounds.taken("as many as left, " + left, () -> gone(used), left, x -> x.teach(0, 4, left));
            }
            if (left < 60) {
                Bounds.refused("one more than left, " + left, () -> gone(used), Check.STATE,
                        x -> x.teach(0, 4, left + 1));
            }
        }
        Bounds.taken("60 of 60 left", () -> gone(30), 60, x -> x.teach(0, 4, 60));
        Bounds.refused("60 of 59 left", () -> gone(31), Check.STATE, x -> x.teach(0, 4, 60));
        Bounds.refused("60 of 0 left", () -> gone(90), Check.STATE, x -> x.teach(2, 4, 60));
        Bounds.refused("1 of 0 left, a phrase that it knows", () -> gone(90), Check.STATE, x -> x.teach(0, 2, 1));
        Bounds.refused("61 minutes, a phrase that it knows", PlayerBoundsTest::slow, Check.ARGUMENT,
                x -> x.teach(0, 2, 61));
    }

    /** "A SECTION has 90 MINUTES for that each DAY." (each one, and each day) */
    private static void ninetyMinutesOfEach() {
        for (int section = 0; section <= 3; section++) {
            Panyard x = new Panyard();
            for (int s = 0; s <= 3; s++) {
                x.phrase(s, 9, 1);
                x.player(s, 9, 1);
            }
            x.teach(section, section, 60);
            x.teach(section, section, 29);
            for (int s = 0; s <= 3; s++) {
                int own = s;
                if (s == section) {
                    Check.refused("2 of 1 left", x, Check.STATE, () -> x.teach(own, own, 2));
                    Check.due("1 of 1 left", x.teach(s, s, 1), 90);
                    Check.refused("1 of 0 left", x, Check.STATE, () -> x.teach(own, own, 1));
                } else {
                    Check.due("another section", x.teach(s, s, 60), 60);
                    Check.due("and 30", x.teach(s, s, 30), 90);
                }
            }
            x.pass(1, 0, 0);
            Check.due("fresh", x.teach(section, section, 9), 99);
            Check.due("fresh, and 60 more", x.teach(section, section, 60), 100);
            Check.due("fresh, and the last", x.teach(section, section, 21), 100);
            int last = section;
            Check.refused("none left of that day", x, Check.STATE, () -> x.teach(last, last, 1));
        }
    }

    /** "If several exceptions apply, the one that is named first is thrown." (teach) */
    private static void firstOfSeveralToTeach() {
        Bounds.refused("no player, 0 minutes", Yards::busy, Check.INDEX, x -> x.teach(3, 0, 0));
        Bounds.refused("no phrase, 61 minutes", Yards::busy, Check.INDEX, x -> x.teach(0, 4, 61));
        Bounds.refused("no player, another section", Yards::busy, Check.INDEX, x -> x.teach(-1, 1, 1));
        Bounds.refused("no player, no phrase", Yards::busy, Check.INDEX, x -> x.teach(3, 4, 0));
        Bounds.refused("absent, no phrase", PlayerBoundsTest::absentSlow, Check.INDEX, x -> x.teach(0, 5, 1));
        Bounds.refused("absent, 0 minutes", PlayerBoundsTest::absentSlow, Check.ARGUMENT, x -> x.teach(0, 4, 0));
        Bounds.refused("absent, 61 minutes", PlayerBoundsTest::absentSlow, Check.ARGUMENT, x -> x.teach(0, 4, 61));
        Bounds.refused("absent, another section", PlayerBoundsTest::absentSlow, Check.ARGUMENT, x -> x.teach(0, 1, 1));
        Bounds.refused("none left, no player", () -> gone(90), Check.INDEX, x -> x.teach(3, 4, 1));
        Bounds.refused("none left, no phrase", () -> gone(90), Check.INDEX, x -> x.teach(0, -1, 1));
        Bounds.refused("none left, 0 minutes", () -> gone(90), Check.ARGUMENT, x -> x.teach(0, 4, 0));
        Bounds.refused("none left, 61 minutes", () -> gone(90), Check.ARGUMENT, x -> x.teach(0, 4, 61));
        Bounds.refused("none left, another section", () -> gone(90), Check.ARGUMENT, x -> x.teach(0, 1, 1));
        Bounds.refused("all three", () -> gone(90), Check.INDEX, x -> x.teach(3, 1, 61));
    }

    /** Player 0 on a bass, as fast as phrase 0 (of the note 1 alone) is hard, knows it to that; a day is gone. */
    private static Panyard knowing(int memory) {
        Panyard x = Yards.onePan(3);
        x.phrase(3, 2, 2);
        x.player(3, 2, 1);
        x.give(0, 0);
        x.put(0);
        Yards.know(x, 0, 0, memory);
        return x;
    }

    /** "a MEMORY (0 to 100 ...)"; "MEMORY is ... more (100 ... at most)" */
    private static void memoryUpTo100() {
        int[] before = {98, 98, 98, 99, 99, 100, 90, 90, 90, 50};
        int[] minutes = {1, 2, 3, 1, 2, 1, 9, 10, 11, 40};
        int[] then = {99, 100, 100, 100, 100, 100, 99, 100, 100, 90};
        for (int i = 0; i < before.length; i++) {
            Panyard x = knowing(before[i]);
            Check.due(before[i] + " and " + minutes[i], x.teach(0, 0, minutes[i]), then[i]);
            Check.due("asked", x.memory(0, 0), then[i]);
        }
    }

    /** "MEMORY is ... more (... 70, at most)" */
    private static void memoryUpTo70() {
        int[] before = {68, 68, 68, 69, 69, 70, 30, 30, 30};
        int[] minutes = {1, 2, 3, 1, 2, 1, 39, 40, 41};
        int[] then = {69, 70, 70, 70, 70, 70, 69, 70, 70};
        for (int i = 0; i < before.length; i++) {
            Panyard x = new Panyard();
            x.phrase(0, 2, 3);
            x.player(0, 2, 1);
            Yards.know(x, 0, 0, before[i]);
            Check.due(before[i] + " and " + minutes[i], x.teach(0, 0, minutes[i]), then[i]);
            Check.due("asked", x.memory(0, 0), then[i]);
        }
    }

    /** "A PHRASE of more NOTES than REACH has a MEMORY of 70 at most." */
    private static void moreNotesThanReach() {
        int[] sets = {128, 129, 11, 90, 31, 63, 127, 255};
        for (int reach = 1; reach <= 8; reach++) {
            for (int notes = 1; notes <= 8; notes++) {
                Panyard x = new Panyard();
                x.phrase(2, 1, sets[notes - 1]);
                x.player(2, 9, reach);
                int most = notes > reach ? 70 : 100;
                Check.due(notes + " notes, reach " + reach, x.teach(0, 0, 60), most);
            }
        }
    }

    /** "MEMORY is MINUTES times SPEED, divided by HARD, more" (rounded down) */
    private static void lessonRoundedDown() {
        int[][] rows = {{1, 1, 9, 0}, {8, 1, 9, 0}, {9, 1, 9, 1}, {10, 1, 9, 1}, {17, 1, 9, 1}, {18, 1, 9, 2},
            {1, 5, 2, 2}, {2, 5, 2, 5}, {3, 5, 2, 7}, {60, 1, 9, 6}, {59, 1, 9, 6}, {60, 1, 1, 60}, {11, 9, 1, 99},
            {12, 9, 1, 100}, {60, 9, 1, 100}, {60, 9, 6, 90}, {60, 8, 5, 96}, {1, 9, 9, 1}, {1, 9, 8, 1}};
        for (int[] row : rows) {
            Panyard x = new Panyard();
            x.phrase(3, row[2], 1);
            x.player(3, row[1], 8);
            Check.due(row[0] + " times " + row[1] + " by " + row[2], x.teach(0, 0, row[0]), row[3]);
        }
    }

    /** "A PLAYER SOUNDS, if it is not ABSENT, and has a PAN that is not CRACKED." */
    private static void soundsOrNot() {
        Panyard x = Yards.onePan(2);
        x.player(2, 1, 1);
        Check.due("without a pan", x.ofPlayer(0, 5), 0);
        x.give(0, 0);
        Check.due("with a pan", x.ofPlayer(0, 5), 1);
        x.absent(0, true);
        Check.due("absent", x.ofPlayer(0, 5), 0);
        x.give(0, -1);
        Check.due("absent, without a pan", x.ofPlayer(0, 5), 0);
        x.absent(0, false);
        Check.due("here, without a pan", x.ofPlayer(0, 5), 0);
        Check.due("the last pan was told", x.give(0, 0), -1);
        Check.due("here, with a pan", x.ofPlayer(0, 5), 1);
    }

    /** "has a PAN that is not CRACKED. (A PAN can be that of several PLAYERS ...)" */
    private static void soundsUntilTheCrack() {
        for (int fatigue = 298; fatigue <= 301; fatigue++) {
            Panyard x = Yards.tired(298);
            for (int player = 0; player < 3; player++) {
                x.player(0, 1, 1);
                x.give(player, 0);
            }
            x.absent(1, true);
            if (fatigue > 298) {
                x.blow(0, 0, fatigue - 298);
            }
            int sound = fatigue < 300 ? 1 : 0;
            Check.due("first at " + fatigue, x.ofPlayer(0, 5), sound);
            Check.due("absent at " + fatigue, x.ofPlayer(1, 5), 0);
            Check.due("last at " + fatigue, x.ofPlayer(2, 5), sound);
            Check.due("how many at " + fatigue, x.many(5), 2 * sound);
            Check.due("it is still their pan", x.ofPlayer(2, 3), 0);
        }
    }

    private static Panyard nextDay() {
        Panyard x = Yards.busy();
        x.pass(1, 0, 0);
        return x;
    }

    /** "Throws IllegalArgumentException if minutes is not 10 to 120" (rehearse) */
    private static void minutesToRehearse() {
        Bounds.range("rehearse for", PlayerBoundsTest::nextDay, 10, 120, Check.ARGUMENT, (x, v) -> x.rehearse(v),
                v -> 3);
        Bounds.refused("rehearse for 0", Yards::busy, Check.ARGUMENT, x -> x.rehearse(0));
    }

    private static Panyard rehearsed(int minutes) {
        Panyard x = nextDay();
        x.rehearse(minutes);
        return x;
    }

    /** "All of a DAY are 120 MINUTES at most."; "Throws IllegalStateException if all of this DAY would be more than 120" */
    private static void hundredAndTwentyMinutes() {
        int[] before = {10, 20, 60, 90, 108, 109, 110};
        for (int used : before) {
            int left = 120 - used;
            if (left > 10) {
                Bounds.taken("one less than left, " + left, () -> rehearsed(used), 119,
                        x -> x.rehearse(left - 1) * 0 + x.many(12));
            }
            Bounds.taken("as many as left, " + left, () -> rehearsed(used), 120, x -> x.rehearse(left) * 0 + x.many(12));
            Bounds.refused("one more than left, " + left, () -> rehearsed(used), Check.STATE, x -> x.rehearse(left + 1));
        }
        for (int used = 111; used <= 120; used++) {
            int own = used;
            Bounds.refused("10 behind " + used, () -> rehearsed(own), Check.STATE, x -> x.rehearse(10));
            Bounds.refused("120 behind " + used, () -> rehearsed(own), Check.STATE, x -> x.rehearse(120));
        }
        Panyard y = rehearsed(120);
        y.pass(1, 0, 0);
        Check.due("fresh minutes", y.many(12), 0);
        Check.due("120 the next day", y.rehearse(120), 3);
        Check.due("all of that day", y.many(12), 120);
    }

    /** "If several exceptions apply, the one that is named first is thrown." (rehearse) */
    private static void firstOfSeveralToRehearse() {
        Bounds.refused("121 behind 10", () -> rehearsed(10), Check.ARGUMENT, x -> x.rehearse(121));
        Bounds.refused("9 behind 120", () -> rehearsed(120), Check.ARGUMENT, x -> x.rehearse(9));
        Bounds.refused("9 behind 112", () -> rehearsed(112), Check.ARGUMENT, x -> x.rehearse(9));
        Bounds.refused("far too many behind 120", () -> rehearsed(120), Check.ARGUMENT,
                x -> x.rehearse(Integer.MAX_VALUE));
    }

    /** "a MEMORY of 30 or more" */
    private static void rehearsedFrom30() {
        for (int memory = 28; memory <= 31; memory++) {
            Panyard x = knowing(memory);
            int off = x.off(0, 1);
            Check.due("one sounds", x.rehearse(10), 1);
            Check.due("from " + memory, x.memory(0, 0), memory < 30 ? memory : memory + 1);
            Check.due("the note of it", x.off(0, 1), memory < 30 ? off : off + 1);
        }
        Panyard none = knowing(0);
        none.rehearse(120);
        Check.due("from 0", none.memory(0, 0), 0);
    }

    /** "MEMORY is MINUTES / 10 more" (rounded down; "PLACE by PLACE") */
    private static void rehearsedTens() {
        int[] minutes = {10, 11, 19, 20, 21, 29, 110, 119, 120};
        int[] more = {1, 1, 1, 2, 2, 2, 11, 11, 12};
        for (int i = 0; i < minutes.length; i++) {
            Panyard x = knowing(40);
            x.rehearse(minutes[i]);
            Check.due("40 for " + minutes[i], x.memory(0, 0), 40 + more[i]);
            Panyard y = knowing(40);
            y.put(0);
            y.put(0);
            y.rehearse(minutes[i]);
            Check.due("40 in three places for " + minutes[i], y.memory(0, 0), 40 + 3 * more[i]);
        }
    }

    /** "(at most as above)": 100, or 70 */
    private static void rehearsedUpToTheMost() {
        for (int memory = 97; memory <= 100; memory++) {
            Panyard x = knowing(memory);
            x.rehearse(20);
            Check.due("100 at most from " + memory, x.memory(0, 0), Math.min(100, memory + 2));
        }
        for (int memory = 67; memory <= 70; memory++) {
            for (int set = 1; set <= 3; set += 2) {
                Panyard x = Yards.onePan(3);
                x.phrase(3, 2, set);
                x.player(3, 2, 1);
                x.give(0, 0);
                x.put(0);
                Yards.know(x, 0, 0, memory);
                x.rehearse(20);
                Check.due("set " + set + " from " + memory, x.memory(0, 0), set == 1 ? memory + 2 : Math.min(70, memory + 2));
            }
        }
    }

    /** "OFF ... is 1 more, if the number of the NOTE and DAY together are even, otherwise 1 less" */
    private static void rehearsedDays() {
        for (int day = 1; day <= 4; day++) {
            Panyard x = knowing(100);
            x.change(0, 2, 255);
            x.pass(day, 0, 0);
            Check.due("day", x.many(0), day + 1);
            int[] before = new int[8];
            for (int note = 0; note < 8; note++) {
                before[note] = x.off(0, note);
            }
            x.rehearse(10);
            for (int note = 0; note < 8; note++) {
                int want = (day + 1 + note) / 2 * 2 == day + 1 + note ? 1 : -1;
                Check.due("note " + note + " on day " + (day + 1), x.off(0, note), before[note] + want);
            }
        }
        // On day 0: all of 40 are taught then.
        Panyard first = Yards.onePan(3);
        first.phrase(3, 1, 255);
        first.player(3, 1, 8);
        first.give(0, 0);
        first.put(0);
        first.teach(0, 0, 40);
        first.rehearse(10);
        Check.offs("on day 0", first, 0, -5, -2, 5, 8, 15, -13, -6, -3);
    }

    /** "(held likewise)": on day 1, note 1 is more and note 2 is less. */
    private static void rehearsedNotesHeld() {
        for (int size = 97; size <= 99; size++) {
            Panyard x = Yards.onePan(3);
            x.phrase(3, 2, 6);
            x.player(3, 2, 8);
            x.give(0, 0);
            x.put(0);
            Yards.know(x, 0, 0, 60);
            Yards.move(x, 1, size);
            Yards.move(x, 2, -size);
            x.rehearse(10);
            Check.due("from " + size, x.off(0, 1), Math.min(99, size + 1));
            Check.due("from " + -size, x.off(0, 2), Math.max(-99, -size - 1));
            x.put(0);
            x.rehearse(10);
            Check.due("two places, from " + size, x.off(0, 1), 99);
            Check.due("two places, from " + -size, x.off(0, 2), -99);
        }
    }

    /** "Returns how many PLAYERS SOUND." (none to eight) */
    private static void howManySound() {
        Check.due("none at all", new Panyard().rehearse(10), 0);
        for (int sound = 0; sound <= 8; sound++) {
            Panyard x = Yards.onePan(0);
            for (int player = 0; player < 8; player++) {
                x.player(0, 1, 1);
                x.give(player, player < sound ? 0 : -1);
            }
            Check.due("how many", x.rehearse(10), sound);
            Check.due("many", x.many(5), sound);
        }
        Panyard cracked = Yards.tired(300);
        cracked.player(0, 1, 1);
        cracked.give(0, 0);
        Check.due("on a cracked one", cracked.rehearse(120), 0);
        Check.due("the minutes count all the same", cracked.many(12), 120);
    }

    /** "Throws IndexOutOfBoundsException if there is no such PLAYER", "IllegalArgumentException if what is not 0 to 6" */
    private static void askedOfAPlayer() {
        int[] want = {1, 4, 2, 2, 0, 1, 60};
        Bounds.range("ofPlayer, what", Yards::busy, 0, 6, Check.ARGUMENT, (x, v) -> x.ofPlayer(2, v), v -> want[v]);
        for (int what = 2; what <= 4; what++) {
            int own = what;
            Bounds.taken("ofPlayer, what of " + what, Yards::busy, want[what], x -> x.ofPlayer(2, own));
        }
        int[] speeds = {9, 6, 4};
        Bounds.range("ofPlayer, player", Yards::busy, 0, 2, Check.INDEX, (x, v) -> x.ofPlayer(v, 1), v -> speeds[v]);
        Bounds.refused("ofPlayer: no player, what 7", Yards::busy, Check.INDEX, x -> x.ofPlayer(3, 7));
        Bounds.refused("ofPlayer: no player, what -1", Yards::busy, Check.INDEX, x -> x.ofPlayer(-1, -1));
        Bounds.refused("ofPlayer of none", Panyard::new, Check.INDEX, x -> x.ofPlayer(0, 0));
    }

    /** "6 MINUTES that it was TAUGHT ever" (over many days; also those that brought nothing) */
    private static void taughtEver() {
        Panyard x = knowing(100);
        Check.due("behind 100", x.ofPlayer(0, 6), 100);
        x.teach(0, 0, 1);
        Check.due("full, and one more", x.ofPlayer(0, 6), 101);
        x.rehearse(120);
        Check.due("to rehearse is not to be taught", x.ofPlayer(0, 6), 101);
        for (int day = 0; day < 100; day++) {
            x.pass(1, 0, 0);
            x.teach(0, 0, 60);
            x.teach(0, 0, 30);
        }
        Check.due("9000 more", x.ofPlayer(0, 6), 9101);
    }

    /** "Throws IndexOutOfBoundsException if there is no such PLAYER, or PHRASE"; "(0, if it is of another SECTION)" */
    private static void askedMemory() {
        Bounds.range("memory, player", Yards::busy, 0, 2, Check.INDEX, (x, v) -> Math.min(1, x.memory(v, 1)),
                v -> v == 1 ? 1 : 0);
        Bounds.range("memory, phrase", Yards::busy, 0, 3, Check.INDEX, (x, v) -> Math.min(1, x.memory(0, v)),
                v -> v == 0 || v == 2 ? 1 : 0);
        Bounds.refused("memory: neither", Yards::busy, Check.INDEX, x -> x.memory(3, 4));
        Bounds.refused("memory of none", Panyard::new, Check.INDEX, x -> x.memory(0, 0));
        Panyard full = withPlayers(8);
        while (full.many(2) < 8) {
            full.phrase(1, 2, 1);
        }
        full.pass(1, 0, 0);
        Check.due("taught the last of the last", full.teach(7, 7, 30), 30);
        Check.due("the last of the last", full.memory(7, 7), 30);
        Check.due("the last of the one ahead", full.memory(6, 7), 0);
    }

    /** "Returns the mean MEMORY of all PLAYERS and PHRASES of their SECTION, not cut; 0 without any." */
    private static void meanOfNone() {
        Panyard x = new Panyard();
        Check.dueExactly("nothing", x.meanMemory(), 0.0);
        x.phrase(0, 3, 1);
        Check.dueExactly("no player", x.meanMemory(), 0.0);
        x.player(1, 3, 1);
        Check.dueExactly("none of the section", x.meanMemory(), 0.0);
        x.player(0, 3, 1);
        Check.dueExactly("one that knows nothing", x.meanMemory(), 0.0);
        x.teach(1, 0, 1);
        Check.dueExactly("one that knows 1", x.meanMemory(), 1.0);
        x.player(0, 1, 1);
        Check.dueExactly("a half", x.meanMemory(), 0.5);
        x.player(0, 1, 1);
        Check.dueExactly("a third", x.meanMemory(), 1.0 / 3.0);
        x.player(0, 9, 8);
        x.teach(4, 0, 60);
        Check.dueExactly("101 of 4", x.meanMemory(), 25.25);
        x.phrase(1, 2, 1);
        x.teach(0, 1, 1);
        Check.dueExactly("player 0 has one, too: 102 of 5", x.meanMemory(), 102.0 / 5.0);
    }
}
