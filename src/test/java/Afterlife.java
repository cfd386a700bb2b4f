import java.util.ArrayList;
import java.util.List;

/**
 * Goes on with a yard in several ways, and tells all that it answers: two yards that stand alike tell the
 * same. It brings out what the digest keeps quiet about: who practised, minutes left, the cover, the leans,
 * what the rivals have, whether one played today.
 */
final class Afterlife {
    static final int WAYS = 5;

    interface Call {
        long run();
    }

    private final Panyard yard;
    private final List<Long> told = new ArrayList<>();

    private Afterlife(Panyard yard) {
        this.yard = yard;
    }

    static List<Long> of(Panyard yard, int way) {
        Afterlife life = new Afterlife(yard);
        switch (way) {
            case 0:
                life.asks();
                break;
            case 1:
                life.spendsTheDay();
                break;
            case 2:
                life.playsOn();
                break;
            case 3:
                life.fillsUp();
                break;
            default:
                life.wears();
                break;
        }
        life.tell(yard::digest);
        return life.told;
    }

    private void tell(Call call) {
        try {
            told.add(call.run());
        } catch (IndexOutOfBoundsException e) {
            told.add(-1000001L);
        } catch (IllegalStateException e) {
            told.add(-1000002L);
        } catch (IllegalArgumentException e) {
            told.add(-1000003L);
        }
    }

    private void asks() {
        tell(() -> yard.cover(true) ? 1 : 0);
        tell(() -> Double.doubleToLongBits(yard.meanMemory()));
        for (int judge = 0; judge < 3; judge++) {
            int own = judge;
            tell(() -> yard.lean(own, 3 * own - 2));
        }
        for (int days = 0; days <= 60; days += 20) {
            int own = days;
            tell(() -> yard.wouldTotal(own));
        }
        tell(yard::bestOrder);
    }

    /** Behind a first one, which no refusal can hide, lessons of ever fewer minutes show how many are left. */
    private void spendsTheDay() {
        int[] minutes = {1, 60, 30, 15, 8, 4, 2, 1};
        for (int player = 0; player < yard.many(4); player++) {
            for (int phrase = 0; phrase < yard.many(2); phrase++) {
                if (yard.ofPhrase(phrase, 0) == yard.ofPlayer(player, 0)) {
                    teach(player, phrase, minutes);
                    break;
                }
            }
        }
        tell(yard::digest);
        for (int left : new int[] {60, 30, 15, 10}) {
            tell(() -> yard.rehearse(left));
        }
    }

    private void teach(int player, int phrase, int[] minutes) {
        for (int left : minutes) {
            tell(() -> yard.teach(player, phrase, left));
        }
    }

    /** First it mends what may keep one from playing today. */
    private void playsOn() {
        for (int player = 0; player < yard.many(4); player++) {
            int own = player;
            tell(() -> yard.absent(own, false) ? 1 : 0);
        }
        tell(() -> yard.put(0));
        for (int round = 0; round < 3; round++) {
            int own = round;
            tell(yard::play);
            tell(() -> yard.pass(1 + own, 6 + own, 5));
            tell(yard::digest);
        }
        tell(yard::play);
        tell(() -> yard.cover(false) ? 1 : 0);
        tell(() -> yard.pass(1, 9, 9));
    }

    private void fillsUp() {
        for (int i = 0; i < 10; i++) {
            int own = i;
            tell(() -> yard.pan(own % 4));
            tell(() -> yard.phrase(own % 4, 1 + own % 9, 5 + own));
            tell(() -> yard.player(own % 4, 9 - own % 9, 1 + own % 8));
            tell(() -> yard.put(own));
            tell(() -> yard.rival(40 * own));
            tell(yard::digest);
        }
        tell(() -> yard.sponsor(7));
    }

    private void wears() {
        for (int pan = 0; pan < yard.many(1); pan++) {
            int own = pan;
            tell(() -> yard.blow(own, 7 - own, 9));
            tell(() -> yard.tuner(own, 30));
            tell(() -> yard.burn(own));
        }
        for (int player = 0; player < yard.many(4); player++) {
            int own = player;
            tell(() -> yard.absent(own, own % 2 == 0) ? 1 : 0);
            tell(() -> yard.give(own, -1));
        }
        for (int phrase = 0; phrase < yard.many(2); phrase++) {
            int own = phrase;
            tell(() -> yard.change(own, 9 - own, 21 + own));
        }
        tell(yard::digest);
        tell(() -> yard.cut(0));
    }
}
