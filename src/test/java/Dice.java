/** Numbers that look thrown, the same ones for the same seed. */
final class Dice {
    private static final int[] WILD = {Integer.MIN_VALUE, Integer.MIN_VALUE + 1, -1000, -2, -1, 0, 1, 2, 3, 6, 7, 8, 20,
        33, 40, 41, 72, 79, 80, 90, 100, 512, 1023, 1024, 1535, 1536, 3999, 4000, 65535, 1 << 24, 1 << 30,
        Integer.MAX_VALUE - 6, Integer.MAX_VALUE - 1, Integer.MAX_VALUE};
    private static final String[] NAMES = {"what", "age", "house", "kids", "oath", "goods"};
    private long state;

    Dice(long seed) {
        state = seed * 0x9E3779B97F4A7C15L + 0x7F4A7C15L;
        next();
        next();
    }

    private int next() {
        state = state * 6364136223846793005L + 1442695040888963407L;
        long x = state ^ state >>> 29;
        return (int) (x * 0xBF58476D1CE4E5B9L >>> 33);
    }

    /** 0 .. n - 1. */
    int below(int n) {
        return (next() & Integer.MAX_VALUE) % n;
    }

    int from(int low, int high) {
        return low + below(high - low + 1);
    }

    boolean chance(int percent) {
        return below(100) < percent;
    }

    int wild() {
        return chance(80) ? WILD[below(WILD.length)] : next() * 2 + below(2);
    }

    /** Mostly low .. high, now and then just beyond, seldom anything. */
    int about(int low, int high) {
        int n = below(100);
        return n < 93 ? from(low, Math.max(low, high)) : n < 97 ? low - 1 : n < 99 ? high + 1 : wild();
    }

    String end() {
        switch (below(8)) {
            case 0: return "void";
            case 1: case 2: return "holds";
            case 3: return "owed " + below(10);
            case 4: return "owed " + below(10) + below(10);
            default: return "to " + below(4);
        }
    }

    String test() {
        return (chance(25) ? "not " : "") + NAMES[below(6)] + "<=>".charAt(below(3))
            + (chance(90) ? below(4) : below(10));
    }

    String text() {
        StringBuilder text = new StringBuilder(end());
        if (chance(80)) {
            text.append(chance(70) ? " if " : " unless ").append(test());
            int more = chance(50) ? 0 : below(5);
            for (int i = 0; i < more; i++) {
                text.append(chance(60) ? " and " : " or ").append(test());
            }
        }
        return text.toString();
    }

    /** A text that is seldom sound any more. */
    String spoiled() {
        StringBuilder text = new StringBuilder(text());
        int at = below(text.length() + 1);
        switch (below(6)) {
            case 0: text.setLength(at); break;
            case 1: text.insert(at, " "); break;
            case 2: text.insert(at, (char) from('0', '9')); break;
            case 3: text.append(" and ").append(test()).append(" or ").append(test()); break;
            case 4: text.insert(at, (char) below(256)); break;
            default:
                if (at < text.length()) {
                    text.deleteCharAt(at);
                }
        }
        return text.length() > 90 ? text.substring(0, 90) : text.toString();
    }
}
