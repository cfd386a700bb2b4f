import java.util.List;

/**
 * What the tests of bounds share. Each case stands on a yard of its own, made anew by a recipe. A refused
 * call throws just the exception that is due, and leaves a yard that goes on as its twin does, which was
 * never asked.
 */
final class Bounds {
    interface Recipe {
        Panyard make();
    }

    interface Call {
        long on(Panyard yard);
    }

    interface Row {
        long at(Panyard yard, int value);
    }

    interface Due {
        long of(int value);
    }

    private Bounds() {
    }

    static void refused(String what, Recipe recipe, Class<? extends RuntimeException> kind, Call call) {
        for (int way = 0; way < Afterlife.WAYS; way++) {
            Panyard yard = recipe.make();
            Check.refused(what, yard, kind, () -> call.on(yard));
            List<Long> want = Afterlife.of(recipe.make(), way);
            List<Long> got = Afterlife.of(yard, way);
            Check.due(what + " left nothing behind, way " + way, got.equals(want), true);
        }
    }

    /** A question changes nothing: a yard that was asked goes on as its twin does, which was not. */
    static void quiet(String what, Recipe recipe, Call call) {
        for (int way = 0; way < Afterlife.WAYS; way++) {
            Panyard yard = recipe.make();
            call.on(yard);
            List<Long> want = Afterlife.of(recipe.make(), way);
            List<Long> got = Afterlife.of(yard, way);
            Check.due(what + " changed nothing, way " + way, got.equals(want), true);
        }
    }

    static void taken(String what, Recipe recipe, long want, Call call) {
        try {
            Check.due(what, call.on(recipe.make()), want);
        } catch (RuntimeException e) {
            Check.tell(what + " threw " + e + ", due is " + want);
        }
    }

    /** The call is taken from least to most, at both and one inside; one outside, and far off, it is refused. */
    static void range(String what, Recipe recipe, int least, int most, Class<? extends RuntimeException> kind,
            Row row, Due due) {
        for (int value : new int[] {least, least + 1, most - 1, most}) {
            if (value >= least && value <= most) {
                taken(what + " of " + value, recipe, due.of(value), yard -> row.at(yard, value));
            }
        }
        outside(what, recipe, least, most, kind, row);
    }

    static void outside(String what, Recipe recipe, int least, int most, Class<? extends RuntimeException> kind,
            Row row) {
        for (int value : new int[] {Integer.MIN_VALUE, least - 1, most + 1, Integer.MAX_VALUE}) {
            refused(what + " of " + value, recipe, kind, yard -> row.at(yard, value));
        }
    }

    static long bit(boolean is) {
        return is ? 1 : 0;
    }
}
