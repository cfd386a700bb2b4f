import java.util.Arrays;

/**
 * All promises: random runs (always the same ones) of 512 calls, each answer held against the model,
 * and no exception that the class did not throw itself.
 */
public final class ModelTest {
    private static final int RUNS = 60;
    private static final int CALLS = 512;
    private static final String[] NAMES = {"pan", "blow", "burn", "tuner", "cover", "phrase", "change", "put",
        "cut", "player", "give", "absent", "teach", "rehearse", "pass", "sponsor", "rival", "lean", "play",
        "ofPan", "off", "ofPhrase", "ofPlayer", "memory", "ofPlace", "mark", "ofRound", "many", "meanMemory",
        "wouldTotal", "bestOrder", "bestTeach", "blowsFor", "digest"};
    // How often each comes, in the order of the names; questions are asked by the digest anyway.
    private static final int[] WEIGHTS = {3, 8, 3, 8, 2, 4, 2, 8,
        3, 4, 8, 3, 20, 6, 6, 1, 2, 3, 4,
        1, 1, 1, 1, 1, 1, 1, 1, 2, 2,
        2, 2, 2, 2, 12};
    private static final int[] ODD = {-1, -2, Integer.MIN_VALUE, Integer.MAX_VALUE, 100, 1000, 256, -256};

    private static long seed;

    public static void main(String[] args) {
        for (int run = 0; run < RUNS; run++) {
            seed = 1000003L * run + 17;
            if (!sameAnswers(run)) {
                break;
            }
        }
        Check.finish();
    }

    private static boolean sameAnswers(int run) {
        Panyard yard = new Panyard();
        Model model = new Model();
        int kindness = run % 4;
        StringBuilder story = new StringBuilder();
        for (int i = 0; i < CALLS; i++) {
            String name = NAMES[pickName(kindness, i)];
            int[] a = arguments(name, model, kindness);
            Object got = call(yard, name, a);
            Object want = model.call(name, a);
            story.append(name).append(Arrays.toString(a)).append(" -> ").append(got).append('\n');
            Check.count();
            if (!got.equals(want)) {
                Check.tell("run " + run + ", call " + i + ", due is " + want + ", behind\n" + story);
                return false;
            }
        }
        return true;
    }

    private static int next(int bound) {
        seed = seed * 6364136223846793005L + 1442695040888963407L;
        return (int) ((seed >>> 33) % bound);
    }

    private static int between(int least, int most) {
        return least + next(most - least + 1);
    }

    private static int pickName(int kindness, int call) {
        if (call < 30 && kindness != 0) {
            // A band first, so that there is something to hear.
            String[] first = {"pan", "phrase", "player", "give", "put", "teach"};
            return Arrays.asList(NAMES).indexOf(first[next(first.length)]);
        }
        int sum = 0;
        for (int weight : WEIGHTS) {
            sum += weight;
        }
        int at = next(sum);
        int name = 0;
        while (at >= WEIGHTS[name]) {
            at -= WEIGHTS[name];
            name++;
        }
        return name;
    }

    /** Mostly within bounds; now and then at or behind them, or far outside. */
    private static int value(int least, int most) {
        int luck = next(60);
        if (luck == 0) {
            return ODD[next(ODD.length)];
        }
        if (luck == 1) {
            return least - 1;
        }
        if (luck == 2) {
            return most + 1;
        }
        if (luck < 8) {
            return next(2) == 0 ? least : most;
        }
        return most < least ? least : between(least, most);
    }

    private static int count(Model model, int what) {
        return ((Long) model.call("many", new int[] {what})).intValue();
    }

    private static int[] arguments(String name, Model model, int kindness) {
        int pan = value(0, count(model, 1) - 1);
        int phrase = value(0, count(model, 2) - 1);
        int place = value(0, count(model, 3) - 1);
        int player = value(0, count(model, 4) - 1);
        // Few sections in most runs, so that pans, phrases and players meet.
        int section = value(0, kindness == 3 ? 3 : kindness == 2 ? 1 : 0);
        switch (name) {
            case "pan": return new int[] {section};
            case "blow": return new int[] {pan, value(0, 7), value(-20, 20)};
            case "burn": return new int[] {pan};
            case "tuner": return new int[] {pan, value(10, 120)};
            case "cover": return new int[] {next(2)};
            case "phrase": return new int[] {section, value(1, 9), value(1, 255)};
            case "change": return new int[] {phrase, value(1, 9), value(1, 255)};
            case "put": return new int[] {phrase};
            case "cut": return new int[] {place};
            case "player": return new int[] {section, value(1, 9), value(1, 8)};
            case "give": return new int[] {player, next(9) == 0 ? -1 : pan};
            case "absent": return new int[] {player, next(3) == 0 ? 1 : 0};
            case "teach": return new int[] {player, phrase, value(1, 60)};
            case "rehearse": return new int[] {value(10, next(3) == 0 ? 120 : 40)};
            case "pass": return new int[] {value(1, next(3) == 0 ? 30 : 3), value(0, 9),
                value(0, next(2) == 0 ? 9 : 4)};
            case "sponsor": return new int[] {value(1, 500)};
            case "rival": return new int[] {value(0, 400)};
            case "lean": return new int[] {value(0, 2), value(-9, 9)};
            case "ofPan": return new int[] {pan, value(0, 4)};
            case "off": return new int[] {pan, value(0, 7)};
            case "ofPhrase": return new int[] {phrase, value(0, 4)};
            case "ofPlayer": return new int[] {player, value(0, 6)};
            case "memory": return new int[] {player, phrase};
            case "ofPlace": return new int[] {place, value(0, 1)};
            case "mark": return new int[] {value(0, 3)};
            case "ofRound": return new int[] {value(0, 2), value(0, 1)};
            case "many": return new int[] {value(0, 13)};
            case "wouldTotal": return new int[] {value(0, 60)};
            case "bestTeach": return new int[] {player, value(1, 60)};
            case "blowsFor": return new int[] {pan};
            default: return new int[] {};
        }
    }

    private static Object call(Panyard yard, String name, int[] a) {
        try {
            return answer(yard, name, a);
        } catch (RuntimeException e) {
            if (!e.getStackTrace()[0].getClassName().startsWith("Panyard")) {
                Check.tell("thrown by the machine: " + e);
            }
            return e.getClass();
        }
    }

    private static Object answer(Panyard x, String name, int[] a) {
        switch (name) {
            case "pan": return (long) x.pan(a[0]);
            case "blow": return (long) x.blow(a[0], a[1], a[2]);
            case "burn": return (long) x.burn(a[0]);
            case "tuner": return (long) x.tuner(a[0], a[1]);
            case "cover": return x.cover(a[0] == 1) ? 1L : 0L;
            case "phrase": return (long) x.phrase(a[0], a[1], a[2]);
            case "change": return (long) x.change(a[0], a[1], a[2]);
            case "put": return (long) x.put(a[0]);
            case "cut": return (long) x.cut(a[0]);
            case "player": return (long) x.player(a[0], a[1], a[2]);
            case "give": return (long) x.give(a[0], a[1]);
            case "absent": return x.absent(a[0], a[1] == 1) ? 1L : 0L;
            case "teach": return (long) x.teach(a[0], a[1], a[2]);
            case "rehearse": return (long) x.rehearse(a[0]);
            case "pass": return (long) x.pass(a[0], a[1], a[2]);
            case "sponsor": return (long) x.sponsor(a[0]);
            case "rival": return (long) x.rival(a[0]);
            case "lean": return (long) x.lean(a[0], a[1]);
            case "play": return (long) x.play();
            case "ofPan": return (long) x.ofPan(a[0], a[1]);
            case "off": return (long) x.off(a[0], a[1]);
            case "ofPhrase": return (long) x.ofPhrase(a[0], a[1]);
            case "ofPlayer": return (long) x.ofPlayer(a[0], a[1]);
            case "memory": return (long) x.memory(a[0], a[1]);
            case "ofPlace": return (long) x.ofPlace(a[0], a[1]);
            case "mark": return (long) x.mark(a[0]);
            case "ofRound": return (long) x.ofRound(a[0], a[1]);
            case "many": return (long) x.many(a[0]);
            case "meanMemory": return x.meanMemory();
            case "wouldTotal": return (long) x.wouldTotal(a[0]);
            case "bestOrder": return (long) x.bestOrder();
            case "bestTeach": return (long) x.bestTeach(a[0], a[1]);
            case "blowsFor": return (long) x.blowsFor(a[0]);
            case "digest": return x.digest();
            default: throw new AssertionError(name);
        }
    }
}
