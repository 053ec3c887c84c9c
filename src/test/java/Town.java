/** Builds cities whose bins have just the kilos that a test asks for. */
final class Town {
    static final int REST = 0;
    static final int PAPER = 1;
    static final int GREEN = 2;

    private Town() {
    }

    /** A city with a street at each of the places, without dirt and habits. */
    static BinWard at(int... places) {
        BinWard x = new BinWard();
        for (int place : places) {
            x.street(place, 0);
        }
        return x;
    }

    /**
     * Lets days go by until these kilos more lie in the bin. Dirty kilos come with clean ones only:
     * 2 with 3, or 1 with 2. The habit is 0 then and the dirt, too.
     */
    static void fill(BinWard x, int street, int stream, int clean, int dirty) {
        int cleanThen = x.ofStreet(street, 6 + stream) + clean;
        int dirtyThen = dirtyIn(x, street, stream) + dirty;
        int left = clean - 3 * (dirty / 2) - 2 * (dirty % 2);
        x.dirt(street, 4);
        come(x, street, stream, 5, dirty / 2);
        come(x, street, stream, 3, dirty % 2);
        x.dirt(street, 0);
        come(x, street, stream, 9, left / 9);
        come(x, street, stream, left % 9, 1);
        x.habit(street, stream, 0);
        Check.same("fill, clean", x.ofStreet(street, 6 + stream), cleanThen);
        Check.same("fill, dirty", dirtyIn(x, street, stream), dirtyThen);
    }

    private static void come(BinWard x, int street, int stream, int habit, int days) {
        if (habit > 0 && days > 0) {
            x.habit(street, stream, habit);
            x.pass(days);
        }
    }

    static int dirtyIn(BinWard x, int street, int stream) {
        return stream == REST ? 0 : x.ofStreet(street, 8 + stream);
    }

    static int kilosIn(BinWard x, int street, int stream) {
        return x.ofStreet(street, 6 + stream) + dirtyIn(x, street, stream);
    }

    /** Tells a lorry that comes to these streets on every day of the week. */
    static int daily(BinWard x, int shift, int first, int second, int... streets) {
        int lorry = x.lorry(shift, first, second);
        for (int day = 0; day < 7; day++) {
            for (int street : streets) {
                x.round(lorry, day, street);
            }
        }
        return lorry;
    }

    static void clearAll(BinWard x, int lorry) {
        for (int day = 0; day < 7; day++) {
            x.clear(lorry, day);
        }
    }

    /** A city that brings one load of so much to the hall on its next day, and nothing later. */
    static BinWard withLoad(int stream, int clean, int dirty) {
        BinWard x = at(1, 1, 1);
        int leftClean = clean;
        int leftDirty = dirty;
        for (int street = 0; street < 3; street++) {
            int foul = Math.min(leftDirty, 24);
            int pure = Math.min(leftClean, 60 - foul);
            if (pure + foul > 0) {
                fill(x, street, stream, pure, foul);
            }
            leftClean -= pure;
            leftDirty -= foul;
        }
        Check.same("withLoad, what has no room", leftClean + leftDirty, 0);
        daily(x, 120, stream, stream == REST ? GREEN : REST, 0, 1, 2);
        return x;
    }
}
