/**
 * The bounds of phrases and of the arrangement in part 2 of the terms, and in promises 7 to 10 and 23. Each
 * test stands for a sentence of the document, told ahead of it; it looks at the bound and one step to each
 * side of it.
 */
public final class PhraseBoundsTest {
    public static void main(String[] args) {
        sectionOfAPhrase();
        hardOfAPhrase();
        notesOfAPhrase();
        eightPhrases();
        firstOfSeveralForAPhrase();
        setOfNotes();
        phraseOfAChange();
        hardOfAChange();
        notesOfAChange();
        firstOfSeveralForAChange();
        halfOfMemory();
        changeLowersTheLimit();
        changeLiftsTheLimit();
        howOftenChanged();
        phraseToPut();
        tenPlaces();
        firstOfSeveralToPut();
        placeToCut();
        noPlacesAtFirst();
        cutAtTheEnds();
        askedOfAPhrase();
        inHowManyPlaces();
        Check.finish();
    }

    /** "Throws IndexOutOfBoundsException if section is not 0 to 3" (phrase) */
    private static void sectionOfAPhrase() {
        Bounds.range("phrase of section", Yards::busy, 0, 3, Check.INDEX, (x, v) -> x.phrase(v, 1, 1), v -> 4);
        Bounds.range("first phrase of section", Panyard::new, 0, 3, Check.INDEX, (x, v) -> x.phrase(v, 9, 255), v -> 0);
    }

    /** "Throws IllegalArgumentException if hard is not 1 to 9" (phrase) */
    private static void hardOfAPhrase() {
        Bounds.range("phrase, hard", Yards::busy, 1, 9, Check.ARGUMENT, (x, v) -> x.phrase(1, v, 1), v -> 4);
        for (int hard = 1; hard <= 9; hard++) {
            Panyard x = new Panyard();
            x.phrase(0, hard, 1);
            Check.due("hard", x.ofPhrase(0, 1), hard);
        }
    }

    /** "or notes not 1 to 255" (phrase) */
    private static void notesOfAPhrase() {
        Bounds.range("phrase, notes", Yards::busy, 1, 255, Check.ARGUMENT, (x, v) -> x.phrase(1, 1, v), v -> 4);
        for (int notes = 1; notes <= 255; notes += 127) {
            Panyard x = new Panyard();
            x.phrase(0, 1, notes);
            Check.due("notes", x.ofPhrase(0, 2), notes);
        }
    }

    private static Panyard withPhrases(int count) {
        Panyard x = Yards.busy();
        while (x.many(2) < count) {
            x.phrase(1, 2, 3);
        }
        return x;
    }

    /** "PHRASES: at most 8, numbered from 0"; "Throws IllegalStateException if there are 8" */
    private static void eightPhrases() {
        Panyard y = new Panyard();
        for (int number = 0; number < 8; number++) {
            Check.due("phrase " + number, y.phrase(number % 4, 1, 1), number);
            Check.due("how many", y.many(2), number + 1);
        }
        Bounds.taken("with 6 there", () -> withPhrases(6), 6, x -> x.phrase(0, 1, 1));
        Bounds.taken("with 7 there", () -> withPhrases(7), 7, x -> x.phrase(0, 1, 1));
        Bounds.refused("with 8 there", () -> withPhrases(8), Check.STATE, x -> x.phrase(0, 1, 1));
        Bounds.refused("with 8 there, the last of all", () -> withPhrases(8), Check.STATE, x -> x.phrase(3, 9, 255));
    }

    /** "If several exceptions apply, the one that is named first is thrown." (phrase) */
    private static void firstOfSeveralForAPhrase() {
        Bounds.refused("section 4, hard 0", Yards::busy, Check.INDEX, x -> x.phrase(4, 0, 1));
        Bounds.refused("section -1, notes 256", Yards::busy, Check.INDEX, x -> x.phrase(-1, 1, 256));
        Bounds.refused("section 4, hard 10, notes 0", Yards::busy, Check.INDEX, x -> x.phrase(4, 10, 0));
        Bounds.refused("8 there, section 4", () -> withPhrases(8), Check.INDEX, x -> x.phrase(4, 1, 1));
        Bounds.refused("8 there, section -1", () -> withPhrases(8), Check.INDEX, x -> x.phrase(-1, 1, 1));
        Bounds.refused("8 there, hard 0", () -> withPhrases(8), Check.ARGUMENT, x -> x.phrase(0, 0, 1));
        Bounds.refused("8 there, hard 10", () -> withPhrases(8), Check.ARGUMENT, x -> x.phrase(0, 10, 1));
        Bounds.refused("8 there, notes 0", () -> withPhrases(8), Check.ARGUMENT, x -> x.phrase(0, 1, 0));
        Bounds.refused("8 there, notes 256", () -> withPhrases(8), Check.ARGUMENT, x -> x.phrase(0, 1, 256));
        Bounds.refused("all three", () -> withPhrases(8), Check.INDEX, x -> x.phrase(4, 0, 0));
    }

    /** "a set of NOTES (the sum of 2^k; 1 to 255)": note 0 is 1, note 7 is 128. */
    private static void setOfNotes() {
        int[] sets = {1, 2, 3, 4, 64, 127, 128, 129, 254, 255};
        // Only note 0 is in tune: what is heard is a share of it.
        int[] heard = {100, 0, 50, 0, 0, 14, 0, 50, 0, 12};
        for (int i = 0; i < sets.length; i++) {
            Panyard x = onlyInTune(0);
            x.phrase(3, 1, sets[i]);
            x.put(0);
            x.teach(0, 0, 12);
            Check.due("note 0 of the set " + sets[i], x.ofPlace(0, 1), heard[i]);
            Panyard y = onlyInTune(7);
            y.phrase(3, 1, sets[sets.length - 1 - i]);
            y.put(0);
            y.teach(0, 0, 12);
            int[] heardOfSeven = {12, 14, 50, 100, 0, 0, 0, 0, 0, 0};
            Check.due("note 7 of the set " + sets[sets.length - 1 - i], y.ofPlace(0, 1), heardOfSeven[i]);
        }
    }

    /** A bass with that one note in tune, and a player of it who knows 100 behind 12 minutes of a phrase 1 hard. */
    private static Panyard onlyInTune(int note) {
        Panyard x = Yards.onePan(3);
        x.pass(30, 9, 0);
        x.player(3, 9, 8);
        x.give(0, 0);
        for (int other = 0; other < 8; other++) {
            Yards.move(x, other, other == note ? 0 : 18);
        }
        Check.due("one in tune", x.ofPan(0, 3), 1);
        return x;
    }

    /** "Throws IndexOutOfBoundsException if there is no such PHRASE" (change) */
    private static void phraseOfAChange() {
        Bounds.range("change of phrase", Yards::busy, 0, 3, Check.INDEX, (x, v) -> x.change(v, 1, 1), v -> 1);
        Bounds.range("change of phrase, 8 there", () -> withPhrases(8), 0, 7, Check.INDEX, (x, v) -> x.change(v, 9, 2),
                v -> 1);
        Bounds.refused("change of none", Panyard::new, Check.INDEX, x -> x.change(0, 1, 1));
    }

    /** "Throws IllegalArgumentException if hard is not 1 to 9" (change) */
    private static void hardOfAChange() {
        Bounds.range("change, hard", Yards::busy, 1, 9, Check.ARGUMENT, (x, v) -> x.change(0, v, 1), v -> 1);
    }

    /** "or notes not 1 to 255" (change) */
    private static void notesOfAChange() {
        Bounds.range("change, notes", Yards::busy, 1, 255, Check.ARGUMENT, (x, v) -> x.change(0, 1, v), v -> 1);
    }

    /** "If several exceptions apply, the one that is named first is thrown." (change) */
    private static void firstOfSeveralForAChange() {
        Bounds.refused("no phrase, hard 0", Yards::busy, Check.INDEX, x -> x.change(4, 0, 1));
        Bounds.refused("no phrase, hard 10", Yards::busy, Check.INDEX, x -> x.change(-1, 10, 1));
        Bounds.refused("no phrase, notes 0", Yards::busy, Check.INDEX, x -> x.change(4, 1, 0));
        Bounds.refused("no phrase, notes 256", Yards::busy, Check.INDEX, x -> x.change(-1, 1, 256));
    }

    /** A phrase of one note and 2 hard, a player of speed 2 who knows it to that, and one who is absent. */
    private static Panyard knowing(int memory) {
        Panyard x = new Panyard();
        x.phrase(1, 2, 1);
        x.phrase(1, 2, 1);
        x.player(1, 2, 1);
        x.player(1, 2, 1);
        Yards.know(x, 0, 0, memory);
        return x;
    }

    /** "MEMORY of it is a half" (rounded down) */
    private static void halfOfMemory() {
        int[] memories = {0, 1, 2, 3, 69, 70, 71, 98, 99, 100};
        int[] halves = {0, 0, 1, 1, 34, 35, 35, 49, 49, 50};
        for (int i = 0; i < memories.length; i++) {
            Panyard x = knowing(memories[i]);
            x.absent(0, true);
            x.teach(1, 1, 8);
            x.change(0, 2, 1);
            Check.due("half of " + memories[i], x.memory(0, 0), halves[i]);
            Check.due("of it alone", x.memory(1, 1), 8);
        }
    }

    /** "(and 70 at most, if it has more NOTES than REACH by now)" */
    private static void changeLowersTheLimit() {
        int[] sets = {7, 15, 31};
        for (int i = 0; i < sets.length; i++) {
            Panyard x = new Panyard();
            x.phrase(1, 1, 1);
            x.player(1, 9, 4);
            x.teach(0, 0, 60);
            x.change(0, 1, sets[i]);
            Check.due("half of 100", x.memory(0, 0), 50);
            int most = sets[i] > 15 ? 70 : 100;
            Check.due("2 more", x.teach(0, 0, 2), 68);
            Check.due("9 more, of " + sets[i], x.teach(0, 0, 1), Math.min(most, 77));
            Check.due("most of " + sets[i], x.teach(0, 0, 27), most);
        }
    }

    /** "(... by now)": fewer notes than reach again. */
    private static void changeLiftsTheLimit() {
        int[] sets = {3, 7, 15};
        for (int set : sets) {
            Panyard x = new Panyard();
            x.phrase(1, 1, 255);
            x.player(1, 9, 3);
            Check.due("70 of more notes", x.teach(0, 0, 60), 70);
            x.change(0, 1, set);
            Check.due("half of 70", x.memory(0, 0), 35);
            Check.due("most of " + set, x.teach(0, 0, 30), set > 7 ? 70 : 100);
        }
    }

    /** "Returns how often it was CHANGED, this time, too." */
    private static void howOftenChanged() {
        Panyard x = withPhrases(8);
        for (int times = 1; times <= 3; times++) {
            Check.due("phrase 7", x.change(7, 2, 3), times);
            Check.due("asked", x.ofPhrase(7, 3), times);
            Check.due("phrase 6", x.ofPhrase(6, 3), 0);
        }
        Check.due("phrase 0", x.change(0, 9, 255), 1);
        Check.due("its section stays", x.ofPhrase(0, 0), 1);
    }

    /** "Throws IndexOutOfBoundsException if there is no such PHRASE" (put) */
    private static void phraseToPut() {
        Bounds.range("put of phrase", Yards::busy, 0, 3, Check.INDEX, (x, v) -> x.put(v), v -> 4);
        Bounds.range("put of phrase, 8 there", () -> withPhrases(8), 0, 7, Check.INDEX, (x, v) -> x.put(v), v -> 4);
        Bounds.refused("put of none", Panyard::new, Check.INDEX, x -> x.put(0));
    }

    private static Panyard withPlaces(int count) {
        Panyard x = Yards.busy();
        while (x.many(3) > count) {
            x.cut(0);
        }
        while (x.many(3) < count) {
            x.put(x.many(3) % 4);
        }
        return x;
    }

    /** "PLACES from 0 on, at most 10"; "Throws IllegalStateException if there are 10 PLACES" */
    private static void tenPlaces() {
        for (int there = 0; there < 10; there++) {
            int count = there;
            Bounds.taken("with " + there + " there", () -> withPlaces(count), there, x -> x.put(3));
        }
        Bounds.refused("with 10 there", () -> withPlaces(10), Check.STATE, x -> x.put(3));
        Bounds.refused("with 10 there, the first phrase", () -> withPlaces(10), Check.STATE, x -> x.put(0));
        Panyard y = withPlaces(10);
        y.cut(4);
        Check.due("one was cut", y.put(0), 9);
        Check.due("ten again", y.many(3), 10);
    }

    /** "If several exceptions apply, the one that is named first is thrown." (put) */
    private static void firstOfSeveralToPut() {
        Bounds.refused("10 there, phrase 4", () -> withPlaces(10), Check.INDEX, x -> x.put(4));
        Bounds.refused("10 there, phrase -1", () -> withPlaces(10), Check.INDEX, x -> x.put(-1));
    }

    /** "Throws IndexOutOfBoundsException if there is no such PLACE" (cut) */
    private static void placeToCut() {
        int[] phrases = {0, 1, 2, 0};
        Bounds.range("cut of place", Yards::busy, 0, 3, Check.INDEX, (x, v) -> x.cut(v), v -> phrases[v]);
        Bounds.range("cut of place of 10", () -> withPlaces(10), 0, 9, Check.INDEX, (x, v) -> x.cut(v),
                v -> withPlaces(10).ofPlace(v, 0));
        Bounds.range("cut of place of 1", () -> withPlaces(1), 0, 0, Check.INDEX, (x, v) -> x.cut(v), v -> 0);
        Bounds.refused("cut of place 0 of 0", () -> withPlaces(0), Check.INDEX, x -> x.cut(0));
    }

    /** "The ARRANGEMENT ... none at first" */
    private static void noPlacesAtFirst() {
        Panyard x = new Panyard();
        x.phrase(0, 1, 1);
        Check.due("places", x.many(3), 0);
        Check.due("of the phrase", x.ofPhrase(0, 4), 0);
        Bounds.refused("cut at first", Panyard::new, Check.INDEX, y -> y.cut(0));
        Bounds.refused("ofPlace at first", Panyard::new, Check.INDEX, y -> y.ofPlace(0, 0));
    }

    /** "Cuts a PLACE; those behind it come one forward." */
    private static void cutAtTheEnds() {
        int[] cuts = {0, 1, 8, 9};
        for (int cut : cuts) {
            Panyard x = new Panyard();
            for (int p = 0; p < 8; p++) {
                x.phrase(0, 1, 1);
            }
            for (int place = 0; place < 10; place++) {
                x.put(place * 3 % 8);
            }
            Check.due("cut of " + cut, x.cut(cut), cut * 3 % 8);
            Check.due("nine are left", x.many(3), 9);
            for (int place = 0; place < 9; place++) {
                int before = place < cut ? place : place + 1;
                Check.due("place " + place + " behind a cut of " + cut, x.ofPlace(place, 0), before * 3 % 8);
            }
        }
    }

    /** "Throws IndexOutOfBoundsException if there is no such PHRASE", "IllegalArgumentException if what is not 0 to 4" */
    private static void askedOfAPhrase() {
        int[] want = {1, 3, 7, 0, 2};
        Bounds.range("ofPhrase, what", Yards::busy, 0, 4, Check.ARGUMENT, (x, v) -> x.ofPhrase(0, v), v -> want[v]);
        Bounds.taken("ofPhrase, what of 2", Yards::busy, 7, x -> x.ofPhrase(0, 2));
        int[] hards = {3, 5, 8, 1};
        Bounds.range("ofPhrase, phrase", Yards::busy, 0, 3, Check.INDEX, (x, v) -> x.ofPhrase(v, 1), v -> hards[v]);
        Bounds.refused("ofPhrase: no phrase, what 5", Yards::busy, Check.INDEX, x -> x.ofPhrase(4, 5));
        Bounds.refused("ofPhrase: no phrase, what -1", Yards::busy, Check.INDEX, x -> x.ofPhrase(-1, -1));
        Bounds.refused("ofPhrase of none", Panyard::new, Check.INDEX, x -> x.ofPhrase(0, 0));
    }

    /** "4 in how many PLACES it is" (0 to 10) */
    private static void inHowManyPlaces() {
        Panyard x = new Panyard();
        x.phrase(0, 1, 1);
        x.phrase(0, 1, 1);
        for (int places = 0; places <= 10; places++) {
            Check.due("in places", x.ofPhrase(1, 4), places);
            Check.due("the other", x.ofPhrase(0, 4), 0);
            if (places < 10) {
                x.put(1);
            }
        }
        for (int places = 9; places >= 0; places--) {
            x.cut(places / 2);
            Check.due("in places still", x.ofPhrase(1, 4), places);
        }
    }
}
