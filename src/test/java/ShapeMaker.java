import java.util.ArrayList;
import java.util.Collections;
import java.util.List;

/** Makes shapes on a small grid, the same ones in every run: near enough for every fault. */
final class ShapeMaker {
    private long state;

    ShapeMaker(long seed) {
        state = seed * 0x9E3779B97F4A7C15L + 12345;
    }

    int below(int bound) {
        state = state * 6364136223846793005L + 1442695040888963407L;
        return (int) ((state >>> 33) % bound);
    }

    int between(int low, int high) {
        return low + below(high - low + 1);
    }

    /** A shape as calls: {1, kind} open, {2} ring, {3, x, y} point, {4} close. */
    List<int[]> shape() {
        List<int[]> calls = new ArrayList<>();
        int size = between(2, 8);
        int choice = below(10);
        if (choice == 0 && size > 4) {
            nest(calls, size);
        } else if (choice < 4) {
            polygon(calls, size, below(6) < 5);
        } else if (choice < 9) {
            multipolygon(calls, size);
        } else {
            collection(calls, size, 3);
        }
        return calls;
    }

    private void collection(List<int[]> calls, int size, int depth) {
        calls.add(new int[] {1, 7});
        for (int parts = below(4); parts > 0; parts--) {
            int kind = between(1, 7);
            if (kind == 7 && depth > 0) {
                collection(calls, size, depth - 1);
            } else if (kind == 6) {
                multipolygon(calls, size);
            } else if (kind == 3) {
                polygon(calls, size, true);
            } else if (kind < 3) {
                line(calls, size, kind);
            } else if (kind < 6) {
                calls.add(new int[] {1, kind});
                for (int lines = below(3); lines > 0; lines--) {
                    line(calls, size, kind - 3);
                }
                calls.add(new int[] {4});
            }
        }
        calls.add(new int[] {4});
    }

    private void line(List<int[]> calls, int size, int kind) {
        calls.add(new int[] {1, kind});
        int x = below(size);
        for (int points = kind == 1 ? below(2) : below(4); points > 0; points--) {
            calls.add(new int[] {3, x, x});
            x = below(12) == 0 ? x : below(size);
        }
        calls.add(new int[] {4});
    }

    private void multipolygon(List<int[]> calls, int size) {
        calls.add(new int[] {1, 6});
        boolean big = below(4) == 0;
        for (int parts = between(1, 4); parts > 0; parts--) {
            polygon(calls, size, big && below(2) == 0);
        }
        calls.add(new int[] {4});
    }

    private void polygon(List<int[]> calls, int size, boolean big) {
        calls.add(new int[] {1, 3});
        int holes = big ? below(5) : below(4) / 3;
        if (big && below(3) > 0) {
            ring(calls, rectangle(0, 0, size, size));
        } else if (big) {
            ring(calls, starRound(size, between(4, 9)));
        } else if (below(25) > 0) {
            ring(calls, anyRing(size));
        }
        for (; holes > 0; holes--) {
            ring(calls, below(5) > 0 ? smallRing(size) : anyRing(size));
        }
        calls.add(new int[] {4});
    }

    /** Holes in a square, of which a wide one is likely to have others in it. */
    private void nest(List<int[]> calls, int size) {
        calls.add(new int[] {1, 3});
        ring(calls, rectangle(0, 0, size, size));
        int holes = between(2, 3);
        int wide = below(holes);
        for (int hole = 0; hole < holes; hole++) {
            int x = between(1, size - 1);
            int y = between(1, size - 1);
            ring(calls, hole == wide ? rectangle(1, 1, size - 1, size - 1)
                    : below(2) == 0 ? smallRing(size)
                    : rectangle(x, y, x + 1, y + 1).subList(0, 3));
        }
        calls.add(new int[] {4});
    }

    private List<int[]> smallRing(int size) {
        int choice = below(10);
        if (choice == 0) {
            return inscribed(size, between(3, 5));
        }
        if (choice < 3) {
            int x = below(size);
            int y = below(size);
            return rectangle(x, y, between(x + 1, size), between(y + 1, size));
        }
        List<int[]> points = triangle(size);
        for (int tries = 0; tries < 9 && isFlat(points); tries++) {
            points = triangle(size);
        }
        return points;
    }

    private static boolean isFlat(List<int[]> p) {
        return (p.get(1)[0] - p.get(0)[0]) * (p.get(2)[1] - p.get(0)[1])
                == (p.get(1)[1] - p.get(0)[1]) * (p.get(2)[0] - p.get(0)[0]);
    }

    /** A ring whose corners all lie on the sides of a square. */
    private List<int[]> inscribed(int size, int count) {
        List<int[]> points = starRound(size, count);
        int low = below(3) == 0 ? 1 : 0;
        int high = Math.max(low, below(3) == 0 ? size - 1 : size);
        for (int[] point : points) {
            point[below(2)] = below(2) == 0 ? low : high;
        }
        return sorted(points, size);
    }

    private List<int[]> anyRing(int size) {
        int choice = below(16);
        if (choice < 10) {
            return smallRing(size);
        }
        if (choice < 12) {
            return rectangle(below(size), below(size), between(0, size), between(0, size));
        }
        choice = choice % 4 + 4;
        if (choice < 7) {
            return starRound(size, between(3, 7));
        }
        return loose(size, between(1, 6));
    }

    private List<int[]> rectangle(int x, int y, int x2, int y2) {
        List<int[]> points = new ArrayList<>();
        points.add(new int[] {x, y});
        points.add(new int[] {x2, y});
        points.add(new int[] {x2, y2});
        points.add(new int[] {x, y2});
        return points;
    }

    private List<int[]> triangle(int size) {
        int x = below(size + 1);
        int y = below(size + 1);
        int reach = between(1, 3);
        List<int[]> points = new ArrayList<>();
        for (int i = 0; i < 3; i++) {
            points.add(new int[] {clip(x + between(-reach, reach), size),
                clip(y + between(-reach, reach), size)});
        }
        return points;
    }

    private static int clip(int value, int size) {
        return Math.max(0, Math.min(size, value));
    }

    private List<int[]> loose(int size, int count) {
        List<int[]> points = new ArrayList<>();
        for (int i = 0; i < count; i++) {
            points.add(new int[] {between(0, size), between(0, size)});
        }
        return points;
    }

    /** Points sorted round the middle: a ring that is mostly simple. */
    private List<int[]> starRound(int size, int count) {
        return sorted(loose(size, count), size);
    }

    private static List<int[]> sorted(List<int[]> points, int size) {
        double middle = size / 2.0 + 0.01;
        points.sort((a, b) -> Double.compare(Math.atan2(a[1] - middle, a[0] - middle),
                Math.atan2(b[1] - middle, b[0] - middle)));
        return points;
    }

    private void ring(List<int[]> calls, List<int[]> corners) {
        List<int[]> points = new ArrayList<>(corners);
        if (below(2) == 0) {
            Collections.reverse(points);
        }
        if (!points.isEmpty()) {
            Collections.rotate(points, below(points.size()));
        }
        calls.add(new int[] {2});
        boolean closed = below(60) > 0;
        if (closed && !points.isEmpty()) {
            points.add(points.get(0));
        }
        for (int[] point : points) {
            for (int times = below(15) == 0 ? 2 : 1; times > 0; times--) {
                calls.add(new int[] {3, point[0], point[1]});
            }
        }
    }
}
