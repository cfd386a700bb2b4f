import java.util.ArrayList;
import java.util.Arrays;
import java.util.HashMap;
import java.util.HashSet;
import java.util.List;
import java.util.Map;
import java.util.Set;

/**
 * The document once more, word by word and slowly: what would be is done on a whole copy. Calls are
 * told by name, so that a random run can be held against both. A refused call answers its exception.
 */
final class Model {
    static final class Drum {
        int family;
        int[] off = new int[8];
        int fatigue;
        boolean cracked;
        int blows;
    }

    static final class Tune {
        int section;
        int hard;
        int notes;
        int changed;
    }

    static final class Mate {
        int section;
        int speed;
        int reach;
        int drum = -1;
        boolean absent;
        int taught;
    }

    private List<Drum> drums = new ArrayList<>();
    private List<Tune> tunes = new ArrayList<>();
    private List<Mate> mates = new ArrayList<>();
    private List<Integer> places = new ArrayList<>();
    private Map<String, Integer> memory = new HashMap<>();
    private Set<String> practised = new HashSet<>();
    private int[] minutesLeft = {90, 90, 90, 90};
    private int rehearsed;
    private int day;
    private int money = 200;
    private boolean covered;
    private List<Integer> rivals = new ArrayList<>();
    private int[] lean = new int[3];
    private List<Integer> scores = new ArrayList<>();
    private List<Integer> ranks = new ArrayList<>();
    private boolean over;
    private int lastPlayedDay = -1;

    private Model copy() {
        Model m = new Model();
        for (Drum d : drums) {
            Drum c = new Drum();
            c.family = d.family;
            c.off = d.off.clone();
            c.fatigue = d.fatigue;
            c.cracked = d.cracked;
            c.blows = d.blows;
            m.drums.add(c);
        }
        for (Tune t : tunes) {
            Tune c = new Tune();
            c.section = t.section;
            c.hard = t.hard;
            c.notes = t.notes;
            c.changed = t.changed;
            m.tunes.add(c);
        }
        for (Mate p : mates) {
            Mate c = new Mate();
            c.section = p.section;
            c.speed = p.speed;
            c.reach = p.reach;
            c.drum = p.drum;
            c.absent = p.absent;
            c.taught = p.taught;
            m.mates.add(c);
        }
        m.places.addAll(places);
        m.memory.putAll(memory);
        m.practised.addAll(practised);
        m.minutesLeft = minutesLeft.clone();
        m.rehearsed = rehearsed;
        m.day = day;
        m.money = money;
        m.covered = covered;
        m.rivals.addAll(rivals);
        m.lean = lean.clone();
        m.scores.addAll(scores);
        m.ranks.addAll(ranks);
        m.over = over;
        m.lastPlayedDay = lastPlayedDay;
        return m;
    }

    private static void index(boolean ok) {
        if (!ok) {
            throw new IndexOutOfBoundsException();
        }
    }

    private static void argument(boolean ok) {
        if (!ok) {
            throw new IllegalArgumentException();
        }
    }

    private static void state(boolean ok) {
        if (!ok) {
            throw new IllegalStateException();
        }
    }

    private static boolean in(int v, int a, int b) {
        return a <= v && v <= b;
    }

    private boolean isDrum(int i) {
        return in(i, 0, drums.size() - 1);
    }

    private boolean isTune(int i) {
        return in(i, 0, tunes.size() - 1);
    }

    private boolean isMate(int i) {
        return in(i, 0, mates.size() - 1);
    }

    Object call(String name, int[] a) {
        try {
            return answer(name, a);
        } catch (RuntimeException e) {
            return e.getClass();
        }
    }

    private Object answer(String name, int[] a) {
        switch (name) {
            case "pan": return pan(a[0]);
            case "blow": return blow(a[0], a[1], a[2]);
            case "burn": return burn(a[0]);
            case "tuner": return tuner(a[0], a[1]);
            case "cover": return cover(a[0] == 1);
            case "phrase": return phrase(a[0], a[1], a[2]);
            case "change": return change(a[0], a[1], a[2]);
            case "put": return put(a[0]);
            case "cut": return cut(a[0]);
            case "player": return player(a[0], a[1], a[2]);
            case "give": return give(a[0], a[1]);
            case "absent": return absent(a[0], a[1] == 1);
            case "teach": return teach(a[0], a[1], a[2]);
            case "rehearse": return rehearse(a[0]);
            case "pass": return pass(a[0], a[1], a[2]);
            case "sponsor": argument(in(a[0], 1, 500)); money += a[0]; return (long) money;
            case "rival": return rival(a[0]);
            case "lean": return lean(a[0], a[1]);
            case "play": return play();
            case "ofPan": return ofPan(a[0], a[1]);
            case "off": index(isDrum(a[0]) && in(a[1], 0, 7)); return (long) drums.get(a[0]).off[a[1]];
            case "ofPhrase": return ofPhrase(a[0], a[1]);
            case "ofPlayer": return ofPlayer(a[0], a[1]);
            case "memory": index(isMate(a[0]) && isTune(a[1])); return (long) knows(a[0], a[1]);
            case "ofPlace": return ofPlace(a[0], a[1]);
            case "mark": index(in(a[0], 0, 3)); return mark(a[0]);
            case "ofRound": return ofRound(a[0], a[1]);
            case "many": return many(a[0]);
            case "meanMemory": return meanMemory();
            case "wouldTotal": return wouldTotal(a[0]);
            case "bestOrder": return bestOrder();
            case "bestTeach": return bestTeach(a[0], a[1]);
            case "blowsFor": return blowsFor(a[0]);
            case "digest": return digest();
            default: throw new AssertionError(name);
        }
    }

    private long pan(int family) {
        index(in(family, 0, 3));
        state(drums.size() < 6);
        Drum d = new Drum();
        d.family = family;
        for (int n = 0; n < 8; n++) {
            d.off[n] = Math.floorMod(7 * drums.size() + 5 * n + 3 * family, 31) - 15;
        }
        drums.add(d);
        money -= 40;
        return drums.size() - 1;
    }

    private static int hold(int off) {
        return off > 99 ? 99 : off < -99 ? -99 : off;
    }

    private static void tire(Drum d, int by) {
        d.fatigue += by;
        if (d.fatigue >= 300) {
            d.cracked = true;
        }
    }

    private static void hammer(Drum d, int note, int force) {
        int left = note == 0 ? 7 : note - 1;
        int right = note == 7 ? 0 : note + 1;
        int fourth = force < 0 ? -(-force / 4) : force / 4;
        d.off[note] = hold(d.off[note] + force);
        d.off[left] = hold(d.off[left] - fourth);
        d.off[right] = hold(d.off[right] - fourth);
        tire(d, force < 0 ? -force : force);
        d.blows++;
    }

    private static boolean tuned(Drum d, int note) {
        return Math.abs(d.off[note]) <= 6 + 2 * d.family;
    }

    private static boolean allTuned(Drum d) {
        for (int n = 0; n < 8; n++) {
            if (!tuned(d, n)) {
                return false;
            }
        }
        return true;
    }

    private static int grade(Drum d) {
        int g = 0;
        for (int n = 0; n < 8; n++) {
            g += tuned(d, n) ? 1 : 0;
        }
        return d.cracked ? 0 : g;
    }

    private long blow(int pan, int note, int force) {
        index(isDrum(pan) && in(note, 0, 7));
        argument(in(force, -20, 20) && force != 0);
        state(!drums.get(pan).cracked);
        hammer(drums.get(pan), note, force);
        return drums.get(pan).off[note];
    }

    private long burn(int pan) {
        index(isDrum(pan));
        Drum d = drums.get(pan);
        state(!d.cracked);
        d.fatigue = Math.floorDiv(d.fatigue, 2);
        for (int n = 0; n < 8; n++) {
            d.off[n] = hold(n % 2 == 0 ? d.off[n] + 3 : d.off[n] - 3);
        }
        money -= 5;
        return d.fatigue;
    }

    private static boolean tunerBlow(Drum d) {
        if (d.cracked || allTuned(d)) {
            return false;
        }
        int worst = -1;
        for (int n = 7; n >= 0; n--) {
            if (worst < 0 || Math.abs(d.off[n]) >= Math.abs(d.off[worst])) {
                worst = n;
            }
        }
        hammer(d, worst, Math.max(-20, Math.min(20, -d.off[worst])));
        return true;
    }

    private long tuner(int pan, int minutes) {
        index(isDrum(pan));
        argument(in(minutes, 10, 120));
        Drum d = drums.get(pan);
        state(!d.cracked);
        int count = 0;
        for (int left = minutes; left >= 10; left -= 10) {
            if (tunerBlow(d)) {
                count++;
                money -= 4;
            }
        }
        return count;
    }

    private long cover(boolean is) {
        boolean was = covered;
        covered = is;
        return was ? 1 : 0;
    }

    private long phrase(int section, int hard, int notes) {
        index(in(section, 0, 3));
        argument(in(hard, 1, 9) && in(notes, 1, 255));
        state(tunes.size() < 8);
        Tune t = new Tune();
        t.section = section;
        t.hard = hard;
        t.notes = notes;
        tunes.add(t);
        return tunes.size() - 1;
    }

    private static List<Integer> notesOf(Tune t) {
        List<Integer> notes = new ArrayList<>();
        for (int n = 0; n < 8; n++) {
            if (t.notes / (int) Math.pow(2, n) % 2 == 1) {
                notes.add(n);
            }
        }
        return notes;
    }

    private int knows(int mate, int tune) {
        return memory.getOrDefault(mate + "/" + tune, 0);
    }

    private void know(int mate, int tune, int value) {
        int most = notesOf(tunes.get(tune)).size() > mates.get(mate).reach ? 70 : 100;
        memory.put(mate + "/" + tune, Math.max(0, Math.min(most, value)));
    }

    private long change(int phrase, int hard, int notes) {
        index(isTune(phrase));
        argument(in(hard, 1, 9) && in(notes, 1, 255));
        Tune t = tunes.get(phrase);
        t.hard = hard;
        t.notes = notes;
        t.changed++;
        for (int m = 0; m < mates.size(); m++) {
            if (mates.get(m).section == t.section) {
                know(m, phrase, knows(m, phrase) / 2);
            }
        }
        return t.changed;
    }

    private long put(int phrase) {
        index(isTune(phrase));
        state(places.size() < 10);
        places.add(phrase);
        return places.size() - 1;
    }

    private long cut(int place) {
        index(in(place, 0, places.size() - 1));
        return places.remove(place);
    }

    private long player(int section, int speed, int reach) {
        index(in(section, 0, 3));
        argument(in(speed, 1, 9) && in(reach, 1, 8));
        state(mates.size() < 8);
        Mate m = new Mate();
        m.section = section;
        m.speed = speed;
        m.reach = reach;
        mates.add(m);
        return mates.size() - 1;
    }

    private long give(int player, int pan) {
        index(isMate(player));
        index(pan == -1 || isDrum(pan));
        Mate m = mates.get(player);
        argument(pan == -1 || drums.get(pan).family == m.section);
        int was = m.drum;
        m.drum = pan;
        return was;
    }

    private long absent(int player, boolean is) {
        index(isMate(player));
        boolean was = mates.get(player).absent;
        mates.get(player).absent = is;
        return was ? 1 : 0;
    }

    private void learn(int player, int phrase, int more) {
        know(player, phrase, knows(player, phrase) + more);
        practised.add(player + "/" + phrase);
    }

    private long teach(int player, int phrase, int minutes) {
        index(isMate(player) && isTune(phrase));
        Mate m = mates.get(player);
        Tune t = tunes.get(phrase);
        argument(in(minutes, 1, 60) && t.section == m.section);
        state(!m.absent && minutesLeft[m.section] >= minutes);
        minutesLeft[m.section] -= minutes;
        m.taught += minutes;
        learn(player, phrase, minutes * m.speed / t.hard);
        return knows(player, phrase);
    }

    private boolean sounds(Mate m) {
        return !m.absent && m.drum >= 0 && !drums.get(m.drum).cracked;
    }

    private int sounding() {
        int count = 0;
        for (Mate m : mates) {
            count += sounds(m) ? 1 : 0;
        }
        return count;
    }

    private long rehearse(int minutes) {
        argument(in(minutes, 10, 120));
        state(rehearsed + minutes <= 120);
        rehearsed += minutes;
        for (int m = 0; m < mates.size(); m++) {
            Mate mate = mates.get(m);
            for (int p = 0; p < places.size() && sounds(mate); p++) {
                Tune t = tunes.get(places.get(p));
                if (t.section != mate.section || knows(m, places.get(p)) < 30) {
                    continue;
                }
                learn(m, places.get(p), minutes / 10);
                Drum d = drums.get(mate.drum);
                for (int n : notesOf(t)) {
                    d.off[n] = hold(d.off[n] + ((n + day) % 2 == 0 ? 1 : -1));
                }
            }
        }
        return sounding();
    }

    private void endDay(int sun, int rain) {
        for (int m = 0; m < mates.size(); m++) {
            for (int t = 0; t < tunes.size(); t++) {
                if (!practised.contains(m + "/" + t)) {
                    know(m, t, knows(m, t) - tunes.get(t).hard / 2 - 1);
                }
            }
        }
        for (Drum d : drums) {
            for (int n = 0; n < 8 && sun >= 7; n++) {
                d.off[n] = hold(d.off[n] + 1);
            }
            if (rain >= 5 && !covered) {
                tire(d, 10);
            }
        }
        practised.clear();
        Arrays.fill(minutesLeft, 90);
        rehearsed = 0;
        day++;
    }

    private long pass(int days, int sun, int rain) {
        argument(in(days, 1, 30) && in(sun, 0, 9) && in(rain, 0, 9));
        for (int i = 0; i < days; i++) {
            endDay(sun, rain);
        }
        return day;
    }

    private long rival(int total) {
        argument(in(total, 0, 400));
        state(rivals.size() < 6);
        rivals.add(total);
        return rivals.size() - 1;
    }

    private long lean(int judge, int to) {
        index(in(judge, 0, 2));
        argument(in(to, -9, 9));
        int was = lean[judge];
        lean[judge] = to;
        return was;
    }

    private long score() {
        long[] given = {total() + lean[0], total() + lean[1], total() + lean[2]};
        Arrays.sort(given);
        return given[1];
    }

    private long play() {
        state(!over && lastPlayedDay != day && sounding() > 0 && !places.isEmpty());
        int round = scores.size();
        int rank = 1;
        for (int r : rivals) {
            rank += r + 15 * round > score() ? 1 : 0;
        }
        scores.add((int) score());
        ranks.add(rank);
        lastPlayedDay = day;
        money += 50;
        if (round == 0) {
            over = rank > 4;
        } else if (round == 1) {
            over = rank > 2;
        } else {
            over = true;
            money += rank == 1 ? 300 : rank == 2 ? 200 : rank == 3 ? 100 : 0;
        }
        return rank;
    }

    private long sound(int place) {
        Tune t = tunes.get(places.get(place));
        int sum = 0;
        int count = 0;
        for (int m = 0; m < mates.size(); m++) {
            Mate mate = mates.get(m);
            if (mate.section == t.section && sounds(mate)) {
                int good = 0;
                for (int n : notesOf(t)) {
                    good += tuned(drums.get(mate.drum), n) ? 1 : 0;
                }
                sum += knows(m, places.get(place)) * good / notesOf(t).size();
                count++;
            }
        }
        int mean = count == 0 ? 0 : sum / count;
        return Math.max(0, mean - place * t.hard / 4);
    }

    private long mark(int mark) {
        long sum = 0;
        long least = Long.MAX_VALUE;
        for (int p = 0; p < places.size(); p++) {
            sum += sound(p);
            least = Math.min(least, sound(p));
        }
        if (mark == 0) {
            return places.isEmpty() ? 0 : sum / places.size();
        }
        if (mark == 3) {
            return places.isEmpty() ? 0 : least;
        }
        if (mark == 1) {
            int grades = 0;
            for (Mate m : mates) {
                grades += sounds(m) ? grade(drums.get(m.drum)) : 0;
            }
            return sounding() == 0 ? 0 : 12 * grades / sounding();
        }
        int worth = 0;
        for (int t : new HashSet<>(places)) {
            worth += 3 * tunes.get(t).hard;
        }
        for (int p = 0; p + 1 < places.size(); p++) {
            worth -= places.get(p).intValue() == places.get(p + 1).intValue() ? 8 : 0;
        }
        return Math.max(0, Math.min(100, worth));
    }

    private long total() {
        return mark(0) + mark(1) + mark(2) + mark(3);
    }

    private long ofPan(int pan, int what) {
        index(isDrum(pan));
        argument(in(what, 0, 4));
        Drum d = drums.get(pan);
        int[] all = {d.family, d.fatigue, d.cracked ? 1 : 0, grade(d), d.blows};
        return all[what];
    }

    private long ofPhrase(int phrase, int what) {
        index(isTune(phrase));
        argument(in(what, 0, 4));
        Tune t = tunes.get(phrase);
        int in = 0;
        for (int p : places) {
            in += p == phrase ? 1 : 0;
        }
        int[] all = {t.section, t.hard, t.notes, t.changed, in};
        return all[what];
    }

    private long ofPlayer(int player, int what) {
        index(isMate(player));
        argument(in(what, 0, 6));
        Mate m = mates.get(player);
        int[] all = {m.section, m.speed, m.reach, m.drum, m.absent ? 1 : 0, sounds(m) ? 1 : 0, m.taught};
        return all[what];
    }

    private long ofPlace(int place, int what) {
        index(in(place, 0, places.size() - 1));
        argument(in(what, 0, 1));
        return what == 0 ? places.get(place) : sound(place);
    }

    private long ofRound(int round, int what) {
        index(in(round, 0, 2));
        argument(in(what, 0, 1));
        if (round >= scores.size()) {
            return -1;
        }
        return what == 0 ? scores.get(round) : ranks.get(round);
    }

    private long many(int what) {
        argument(in(what, 0, 13));
        int blows = 0;
        for (Drum d : drums) {
            blows += d.blows;
        }
        long[] all = {day, drums.size(), tunes.size(), places.size(), mates.size(), sounding(), rivals.size(),
            money, scores.size(), over ? 1 : 0, total(), score(), rehearsed, blows};
        return all[what];
    }

    private double meanMemory() {
        double sum = 0;
        int count = 0;
        for (int m = 0; m < mates.size(); m++) {
            for (int t = 0; t < tunes.size(); t++) {
                if (mates.get(m).section == tunes.get(t).section) {
                    sum += knows(m, t);
                    count++;
                }
            }
        }
        return count == 0 ? 0 : sum / count;
    }

    private long wouldTotal(int days) {
        argument(in(days, 0, 60));
        Model m = copy();
        for (int i = 0; i < days; i++) {
            m.endDay(0, 0);
        }
        return m.total();
    }

    private long bestOrder() {
        state(places.size() <= 5);
        Model m = copy();
        m.places.clear();
        return m.bestWith(new ArrayList<>(places));
    }

    private long bestWith(List<Integer> rest) {
        if (rest.isEmpty()) {
            return total();
        }
        long best = -1;
        for (int i = 0; i < rest.size(); i++) {
            List<Integer> fewer = new ArrayList<>(rest);
            places.add(fewer.remove(i));
            best = Math.max(best, bestWith(fewer));
            places.remove(places.size() - 1);
        }
        return best;
    }

    private long bestTeach(int player, int minutes) {
        index(isMate(player));
        argument(in(minutes, 1, 60));
        long best = -1;
        int which = -1;
        for (int t = 0; t < tunes.size(); t++) {
            if (tunes.get(t).section == mates.get(player).section) {
                Model m = copy();
                m.learn(player, t, minutes * mates.get(player).speed / tunes.get(t).hard);
                if (m.total() > best) {
                    best = m.total();
                    which = t;
                }
            }
        }
        return which;
    }

    private long blowsFor(int pan) {
        index(isDrum(pan));
        Drum d = copy().drums.get(pan);
        for (int blows = 0; blows <= 40; blows++) {
            if (d.cracked) {
                return -1;
            }
            if (allTuned(d)) {
                return blows;
            }
            tunerBlow(d);
        }
        return -1;
    }

    private long digest() {
        List<Long> all = new ArrayList<>();
        for (int w = 0; w <= 13; w++) {
            all.add(many(w));
        }
        for (int i = 0; i < drums.size(); i++) {
            for (int w = 0; w <= 4; w++) {
                all.add(ofPan(i, w));
            }
            for (int off : drums.get(i).off) {
                all.add((long) off);
            }
            all.add(blowsFor(i));
        }
        for (int i = 0; i < tunes.size(); i++) {
            for (int w = 0; w <= 4; w++) {
                all.add(ofPhrase(i, w));
            }
        }
        for (int i = 0; i < mates.size(); i++) {
            for (int w = 0; w <= 6; w++) {
                all.add(ofPlayer(i, w));
            }
            for (int t = 0; t < tunes.size(); t++) {
                all.add((long) knows(i, t));
            }
            all.add(bestTeach(i, 20));
        }
        for (int i = 0; i < places.size(); i++) {
            all.add(ofPlace(i, 0));
            all.add(ofPlace(i, 1));
        }
        for (int w = 0; w <= 3; w++) {
            all.add(mark(w));
        }
        for (int r = 0; r <= 2; r++) {
            all.add(ofRound(r, 0));
            all.add(ofRound(r, 1));
        }
        all.add(wouldTotal(5));
        if (places.size() <= 5) {
            all.add(bestOrder());
        }
        long d = 58218;
        for (long v : all) {
            d = d * 31 + v;
        }
        return d;
    }
}
