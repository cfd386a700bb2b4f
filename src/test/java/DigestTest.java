/** Promise 35: the digest, told again from the answers of the other calls. */
public final class DigestTest {
    private static long d;

    public static void main(String[] args) {
        Panyard x = new Panyard();
        Check.due("digest of a new one", x.digest(), told(x));
        Check.due("twice the same", x.digest(), x.digest());
        x.pan(3);
        x.pan(1);
        x.player(3, 9, 2);
        x.player(1, 7, 8);
        x.give(0, 0);
        x.give(1, 1);
        Check.due("digest of a yard without phrases", x.digest(), told(x));
        fill(x);
        x.play();
        Check.due("digest with five places", x.digest(), told(x));
        x.put(1);
        Check.due("digest with six places", x.digest(), told(x));
        x.pass(30, 7, 5);
        Check.due("digest of a cracked pan", x.digest(), told(x));
        Check.due("the answers differ", x.digest() == new Panyard().digest(), false);
        eachCounts();
        twentyMinutes(5, 19);
        twentyMinutes(7, 21);
        Check.finish();
    }

    private static void fill(Panyard x) {
        int[] sections = {3, 3, 1, 0};
        for (int p = 0; p < 4; p++) {
            x.phrase(sections[p], 2 * p + 1, 37 * p + 5);
        }
        x.tuner(0, 30);
        x.teach(0, 0, 20);
        x.teach(0, 1, 30);
        x.teach(1, 2, 50);
        x.change(1, 2, 77);
        for (int place = 0; place < 5; place++) {
            x.put(place * 3 % 4);
        }
        x.rehearse(40);
        x.rival(150);
        x.rival(390);
        x.lean(0, 5);
        x.lean(1, 3);
    }

    /** Whatever can be asked is in it, so that a change of it shows. */
    private static void eachCounts() {
        Panyard x = prepared();
        fill(x);
        long last = x.digest();
        x.sponsor(1);
        last = differs("money", x, last);
        x.rival(0);
        last = differs("rivals", x, last);
        x.absent(1, true);
        last = differs("absent", x, last);
        x.blow(1, 0, 1);
        last = differs("a blow", x, last);
        x.change(3, 7, 116);
        differs("a change with the same words", x, last);
    }

    /** The lesson in it is of 20 minutes, not of some more or less. */
    private static void twentyMinutes(int hard, int others) {
        Panyard x = new Panyard();
        x.pan(3);
        x.tuner(0, 120);
        x.player(3, 1, 8);
        x.give(0, 0);
        x.phrase(3, hard, 1);
        x.phrase(3, hard, 1);
        x.put(1);
        x.put(0);
        Check.due("20 and " + others + " differ", x.bestTeach(0, 20) == x.bestTeach(0, others), false);
        Check.due("digest with a lesson of 20", x.digest(), told(x));
    }

    private static Panyard prepared() {
        Panyard x = new Panyard();
        x.pan(3);
        x.pan(1);
        x.player(3, 9, 2);
        x.player(1, 7, 8);
        x.give(0, 0);
        return x;
    }

    private static long differs(String what, Panyard x, long last) {
        long now = x.digest();
        Check.due("the digest shows " + what, now == last, false);
        return now;
    }

    private static void add(long v) {
        d = d * 31 + v;
    }

    private static long told(Panyard x) {
        d = 58218;
        for (int what = 0; what <= 13; what++) {
            add(x.many(what));
        }
        for (int pan = 0; pan < x.many(1); pan++) {
            for (int what = 0; what <= 4; what++) {
                add(x.ofPan(pan, what));
            }
            for (int note = 0; note <= 7; note++) {
                add(x.off(pan, note));
            }
            add(x.blowsFor(pan));
        }
        for (int phrase = 0; phrase < x.many(2); phrase++) {
            for (int what = 0; what <= 4; what++) {
                add(x.ofPhrase(phrase, what));
            }
        }
        for (int player = 0; player < x.many(4); player++) {
            for (int what = 0; what <= 6; what++) {
                add(x.ofPlayer(player, what));
            }
            for (int phrase = 0; phrase < x.many(2); phrase++) {
                add(x.memory(player, phrase));
            }
            add(x.bestTeach(player, 20));
        }
        for (int place = 0; place < x.many(3); place++) {
            add(x.ofPlace(place, 0));
            add(x.ofPlace(place, 1));
        }
        for (int mark = 0; mark <= 3; mark++) {
            add(x.mark(mark));
        }
        for (int round = 0; round <= 2; round++) {
            add(x.ofRound(round, 0));
            add(x.ofRound(round, 1));
        }
        add(x.wouldTotal(5));
        if (x.many(3) <= 5) {
            add(x.bestOrder());
        }
        return d;
    }
}
