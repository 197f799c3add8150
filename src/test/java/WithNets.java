import java.util.function.ToLongFunction;

/** What tests share: the findings by name, nets made in one line, and a bench read out whole. */
abstract class WithNets {
    static final int BEYOND = -1;
    static final int MISSING = -2;
    static final int SIZE = -3;
    static final int KIND = -4;
    static final int FULL = -5;
    static final int NONE = -6;
    static final int LONG = -7;
    static final int TURNED = -8;
    static final int LOW = Integer.MIN_VALUE;
    static final int HIGH = Integer.MAX_VALUE;

    static RoadBench net(boolean turned, int posts, int... pairs) {
        RoadBench x = new RoadBench();
        if (turned) {
            x.anew(true);
        }
        for (int i = 0; i < posts; i++) {
            x.post();
        }
        return roads(x, pairs);
    }

    static RoadBench plain(int posts, int... pairs) {
        return net(false, posts, pairs);
    }

    static RoadBench turned(int posts, int... pairs) {
        return net(true, posts, pairs);
    }

    static RoadBench roads(RoadBench x, int... pairs) {
        for (int i = 0; i < pairs.length; i += 2) {
            x.road(pairs[i], pairs[i + 1]);
        }
        return x;
    }

    static RoadBench fill(RoadBench x, int a, int b, int roads) {
        for (int i = 0; i < roads; i++) {
            x.road(a, b);
        }
        return x;
    }

    static RoadBench tellAll(RoadBench x, int... numbers) {
        for (int v : numbers) {
            x.tell(v);
        }
        return x;
    }

    /** A sheet with these numbers. */
    static RoadBench sheetOf(RoadBench x, int s, int bits, int... numbers) {
        x.sheet(s, bits, numbers.length);
        for (int i = 0; i < numbers.length; i++) {
            x.put(s, i, numbers[i]);
        }
        return x;
    }

    /** A net as a row of numbers, to see that an act left it as it was. */
    static String look(RoadBench x) {
        StringBuilder text = new StringBuilder();
        for (int what = 0; what < 4; what++) {
            text.append(x.told(what)).append(' ');
        }
        int roads = x.told(1);
        for (int r = 0; r < roads; r++) {
            for (int what = 0; what < 4; what++) {
                text.append(x.of(r, what)).append(what < 3 ? ',' : ' ');
            }
        }
        return text.toString();
    }

    static void looks(String what, RoadBench x, String due) {
        String seen = look(x);
        Check.holds(what + ": the net is " + seen + "but due is " + due, seen.equals(due));
    }

    /** The numbers of a sheet, as far as they are posts (else '-'); the net of the bench and sheet 3 are lost by it. */
    static String numbersOf(RoadBench x, int s) {
        if (x.copy(s, 0, s, 0, 0) == MISSING) {
            return "missing";
        }
        int bits = 8;
        for (int other = 8; other <= 32; other *= 2) {
            x.sheet(3, other, 2);
            bits = x.copy(s, 0, 3, 0, 0) == 0 ? other : bits;
        }
        StringBuilder text = new StringBuilder().append(bits).append(':');
        x.sheet(3, bits, 2);
        x.anew(false);
        while (x.post() >= 0) {
            continue;
        }
        for (int i = 0; x.copy(s, i, 3, 0, 1) == 1; i++) {
            text.append(' ').append(firstPostOfSheet3(x));
        }
        return text.toString();
    }

    /** A pair of the same posts is SIZE, so the second number is tried until it is the same. */
    private static String firstPostOfSheet3(RoadBench x) {
        for (int post = 0; post < 8; post++) {
            x.put(3, 1, post);
            if (x.lay(3) == SIZE) {
                return Integer.toString(post);
            }
        }
        return "-";
    }

    /** A bench that has something of all: two slots, two sheets, numbers that wait, and acts to undo. */
    static RoadBench rich(boolean turned) {
        RoadBench x = turned(1);
        x.keep(1);
        x.anew(turned);
        for (int i = 0; i < 3; i++) {
            x.post();
        }
        roads(x, 0, 1, 1, 2, 2, 0, 0, 1);
        x.keep(2);
        x.worth(2, false, 30);
        x.worth(1, true, 7);
        sheetOf(x, 0, 8, 2, 1, 0);
        sheetOf(x, 1, 32, 1, 2);
        return tellAll(x, 0, 2);
    }

    /**
     * All that can be seen of a bench, but how many findings there were; the bench is worn out by it. Sheet 3 comes
     * first, as the others are read by it.
     */
    static String readOut(RoadBench x) {
        StringBuilder text = new StringBuilder(look(x));
        text.append("; waiting ").append(x.told(4)).append(", would ").append(x.would());
        for (int slot = 0; slot < 4; slot++) {
            for (int kind = 0; kind < 4; kind++) {
                text.append(kind == 0 ? "; slot " : ", ").append(x.as(slot, kind));
            }
        }
        for (int left = x.undo(); left >= 0; left = x.undo()) {
            text.append("; undone ").append(left).append(": ");
            text.append(x.told(0)).append(x.told(1)).append(x.told(2)).append(x.told(5));
        }
        for (int slot = 0; slot < 4; slot++) {
            text.append("; brought ").append(x.bring(slot)).append(": ").append(look(x));
        }
        for (int s : new int[] {3, 0, 1, 2}) {
            text.append("; sheet ").append(numbersOf(x, s));
        }
        return text.toString();
    }

    /** A rich bench must refuse a call: it changes nothing but the number of findings. */
    static void refused(String call, boolean turned, int finding, ToLongFunction<RoadBench> act) {
        refusedAhead(call, turned, finding, act, x -> { });
    }

    /** The same of a bench with something more done to it ahead. */
    static void refusedAhead(String call, boolean turned, int finding, ToLongFunction<RoadBench> act, Ahead ahead) {
        RoadBench asked = rich(turned);
        RoadBench spared = rich(turned);
        ahead.doneTo(asked);
        ahead.doneTo(spared);
        int findings = asked.told(6);
        Check.due(call, act.applyAsLong(asked), finding);
        Check.due(call + ": told(6)", asked.told(6), findings + 1);
        String left = readOut(asked);
        String due = readOut(spared);
        Check.holds(call + " is refused, so nothing changes:\n  " + left + "\n  " + due, left.equals(due));
    }

    /** What is done to a bench ahead of a call. */
    interface Ahead {
        void doneTo(RoadBench x);
    }
}
