/** Yards that the tests of bounds begin with, made ready by calls of the face alone. */
final class Yards {
    private Yards() {
    }

    static Panyard onePan(int family) {
        Panyard x = new Panyard();
        x.pan(family);
        return x;
    }

    /** One pan (family 0) that is just as tired. */
    static Panyard tired(int fatigue) {
        Panyard x = onePan(0);
        tire(x, 0, fatigue);
        return x;
    }

    /**
     * A band of sections 1 and 2 amid its third day, with one round behind it: taught and rehearsed today,
     * covered, with rivals and leans. Three pans, four phrases, three players, four places, two rivals.
     */
    static Panyard busy() {
        Panyard x = new Panyard();
        x.pan(1);
        x.pan(2);
        x.pan(1);
        x.phrase(1, 3, 7);
        x.phrase(2, 5, 240);
        x.phrase(1, 8, 255);
        x.phrase(3, 1, 1);
        x.player(1, 9, 4);
        x.player(2, 6, 8);
        x.player(1, 4, 2);
        for (int player = 0; player < 3; player++) {
            x.give(player, player);
        }
        for (int place = 0; place < 4; place++) {
            x.put(place % 3);
        }
        x.tuner(0, 40);
        x.teach(0, 0, 25);
        x.teach(1, 1, 45);
        x.teach(2, 2, 60);
        x.rival(100);
        x.rival(300);
        x.lean(0, 3);
        x.lean(1, -2);
        x.lean(2, 5);
        x.play();
        x.pass(2, 0, 0);
        x.teach(0, 2, 35);
        x.teach(1, 1, 10);
        x.rehearse(20);
        x.cover(true);
        return x;
    }

    /** The busy yard, and it played in this day, too. */
    static Panyard played() {
        Panyard x = busy();
        x.play();
        return x;
    }

    /** The busy yard with pan 0 just as tired, by the hammer. */
    static Panyard busyTired(int fatigue) {
        Panyard x = busy();
        tire(x, 0, fatigue);
        return x;
    }

    /** Blows there and back on note 4, which leave all offs as they were, but for one more of an odd rest. */
    static void tire(Panyard x, int pan, int fatigue) {
        for (int i = 0; i < 20 && fatigue - x.ofPan(pan, 1) >= 2; i++) {
            int force = Math.min(20, (fatigue - x.ofPan(pan, 1)) / 2);
            x.blow(pan, 4, force);
            x.blow(pan, 4, -force);
        }
        if (x.ofPan(pan, 1) < fatigue) {
            x.blow(pan, 4, 1);
        }
        Check.due("made ready: fatigue", x.ofPan(pan, 1), fatigue);
    }

    /** Moves a note of pan 0 by blows of 3 at most, which leave those beside it alone. */
    static void move(Panyard x, int note, int to) {
        for (int i = 0; i < 80 && x.off(0, note) != to; i++) {
            int left = to - x.off(0, note);
            x.blow(0, note, Math.max(-3, Math.min(3, left)));
        }
        Check.due("made ready: off of " + note, x.off(0, note), to);
    }

    /** Brings a memory from 0 up to that, of a player as fast as the phrase is hard; a day goes by. */
    static void know(Panyard x, int player, int phrase, int memory) {
        int yesterday = Math.min(60, memory / 2);
        if (yesterday > 0) {
            x.teach(player, phrase, yesterday);
        }
        x.pass(1, 0, 0);
        if (memory > yesterday) {
            x.teach(player, phrase, memory - yesterday);
        }
        Check.due("made ready: memory", x.memory(player, phrase), memory);
    }
}
