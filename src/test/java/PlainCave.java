import java.util.ArrayList;
import java.util.Collections;
import java.util.List;

/**
 * The document once more, told as slowly and as plainly as can be, with objects for all there is and
 * every question asked by trying everything. RandomRunsTest holds BreatheOut against it.
 */
final class PlainCave {
    static class Yard {
        int kind;
        int figure;
        int width;

        int room(int hour, int rise) { return width; }
        int more(boolean feet) { return 0; }
        int minutes(boolean back) { return 2; }
        int cost() { return 3; }
        int toss() { return figure; }

        static Yard of(int kind, int figure, int width) {
            Yard[] all = {new Yard(), new Wide(), new Squeezed(), new Keyholed(), new Slanting(), new Flooding(), new Caught(), new Chamber()};
            Yard y = all[kind];
            y.kind = kind;
            y.figure = figure;
            y.width = width;
            return y;
        }
    }

    static class Wide extends Yard {
        @Override int room(int hour, int rise) { return super.room(hour, rise) + 4; }
        @Override int minutes(boolean back) { return super.minutes(back) - 1; }
        @Override int cost() { return super.cost() - 2; }
    }

    static class Squeezed extends Yard {
        @Override int room(int hour, int rise) { return Math.max(0, super.room(hour, rise) - figure / 3); }
        @Override int minutes(boolean back) { return super.minutes(back) + figure; }
        @Override int cost() { return super.cost() + figure; }
        @Override int toss() { return super.toss() + 100; }
    }

    static class Keyholed extends Squeezed {
        @Override int more(boolean feet) { return super.more(feet) + (feet ? 0 : 2); }
        @Override int cost() { return 2 * super.cost(); }
    }

    static class Slanting extends Yard {
        @Override int more(boolean feet) { return super.more(feet) + (feet ? 1 : 0); }
        @Override int minutes(boolean back) { return super.minutes(back) + (back ? 3 : -1); }
        @Override int cost() { return super.cost() + 6; }
    }

    static class Flooding extends Yard {
        @Override int room(int hour, int rise) { return Math.max(0, super.room(hour, rise) - hour * rise); }
        @Override int cost() { return super.cost() + 1; }
    }

    static class Caught extends Squeezed {
        @Override int room(int hour, int rise) { return Math.max(0, super.room(hour, rise) - 1); }
        @Override int minutes(boolean back) { return super.minutes(back) + 5; }
        @Override int cost() { return super.cost() + 9; }
        @Override int toss() { return 200 + cost(); }
    }

    static class Chamber extends Wide {
        @Override int room(int hour, int rise) { return 2 * super.room(hour, rise); }
        @Override int cost() { return super.cost() + figure; }
        @Override int toss() { return -15; }
    }

    static final class Body {
        int number;
        int chest;
        int out;
        int fear;
        int pull;
        int posture;

        Body twin() {
            Body t = new Body();
            t.number = number;
            t.chest = chest;
            t.out = out;
            t.fear = fear;
            t.pull = pull;
            t.posture = posture;
            return t;
        }

        int in(Yard y) { return chest + fear / 3 - (posture == 0 || posture == 2 ? 1 : 0) + y.more(posture >= 2); }
        int out(Yard y) { return in(y) - out; }
    }

    static final class World {
        List<Yard> yards = new ArrayList<>();
        List<Body> bodies = new ArrayList<>();
        List<Integer> order = new ArrayList<>();
        int rise = 1;
        int calm = 15;
        int light = 120;
        int clock = 0;

        World twin() {
            World t = new World();
            t.yards.addAll(yards);
            for (Body b : bodies) t.bodies.add(b.twin());
            t.order.addAll(order);
            t.rise = rise;
            t.calm = calm;
            t.light = light;
            t.clock = clock;
            return t;
        }

        int room(int y, int at) { return yards.get(y).room(at / 60, rise); }

        int fits(int b, int y) {
            Body one = bodies.get(b);
            int room = room(y, clock);
            return one.in(yards.get(y)) <= room ? 0 : one.out(yards.get(y)) <= room ? 1 : 2;
        }

        int lack(int b, int y) { return Math.max(0, bodies.get(b).out(yards.get(y)) - room(y, clock)); }

        Outcome walk(List<Integer> sequence, boolean back, int from) {
            Outcome o = new Outcome();
            o.clock = from;
            for (int i = 0; i < sequence.size(); i++) {
                Body one = bodies.get(sequence.get(i));
                int greatest = 0;
                for (int done : o.passed) greatest = Math.max(greatest, bodies.get(done).pull);
                int help = greatest / 3;
                if (i + 1 < sequence.size()) help += bodies.get(sequence.get(i + 1)).pull / 3;
                for (int k = 0; k < yards.size(); k++) {
                    int number = back ? yards.size() - 1 - k : k;
                    Yard y = yards.get(number);
                    int room = room(number, o.clock);
                    if (one.in(y) <= room) {
                        o.clock += y.minutes(back);
                    } else if (one.out(y) <= room) {
                        o.clock += y.minutes(back) + 1;
                        o.breaths++;
                    } else if (one.out(y) - room <= help) {
                        o.clock += y.minutes(back) + 10;
                    } else {
                        o.stuck = one.number;
                        o.where = number;
                        return o;
                    }
                }
                o.passed.add(one.number);
                o.times.add(o.clock);
            }
            return o;
        }

        Outcome alone(int b, boolean back) { return walk(List.of(b), back, clock); }

        Outcome there(List<Integer> sequence, int from) { return walk(sequence, false, from); }

        Outcome home(List<Integer> sequence, int from) {
            Outcome there = there(sequence, from);
            if (there.stuck != -4) {
                Outcome none = new Outcome();
                none.clock = there.clock;
                return none;
            }
            List<Integer> turned = new ArrayList<>(sequence);
            Collections.reverse(turned);
            return walk(turned, true, there.clock);
        }

        boolean allBack(List<Integer> sequence, int from) { return home(sequence, from).passed.size() == sequence.size(); }
    }

    static final class Outcome {
        List<Integer> passed = new ArrayList<>();
        List<Integer> times = new ArrayList<>();
        int stuck = -4;
        int where = -4;
        int clock;
        int breaths;

        int bits() {
            int bits = 0;
            for (int b : passed) bits |= 1 << b;
            return bits;
        }
    }

    World w = new World();
    World image = null;
    final Object[] shelves = new Object[8];

    private boolean isYard(int y) { return y >= 0 && y < w.yards.size(); }
    private boolean isBody(int b) { return b >= 0 && b < w.bodies.size(); }
    private static boolean in(int v, int a, int b) { return v >= a && v <= b; }
    private boolean isRow(int d) { return shelves[d] instanceof byte[] || shelves[d] instanceof short[] || shelves[d] instanceof int[]; }

    private static int length(Object row) { return java.lang.reflect.Array.getLength(row); }
    private static int at(Object row, int i) { return ((Number) java.lang.reflect.Array.get(row, i)).intValue(); }
    private static boolean skipped(Object row, int i) {
        int least = row instanceof byte[] ? -128 : row instanceof short[] ? -32768 : -2147483648;
        return at(row, i) == least;
    }

    int cave(int d) {
        if (!in(d, 0, 7)) return -1;
        if (shelves[d] == null) return -11;
        if (!(shelves[d] instanceof byte[])) return -12;
        StringBuilder text = new StringBuilder();
        for (byte b : (byte[]) shelves[d]) text.append((char) (b & 255));
        List<String> statements = new ArrayList<>();
        List<Integer> places = new ArrayList<>();
        int at = 0;
        do {
            String shape = at < text.length() ? shape(text.charAt(at)) : null;
            if (shape == null) return -1000 - at;
            for (int k = 1; k < shape.length(); k++) {
                if (at + k >= text.length()) return -1000 - text.length();
                char c = text.charAt(at + k);
                boolean right = shape.charAt(k) == ';' ? c == ';' : c >= '0' && c <= '9';
                if (!right) return -1000 - (at + k);
            }
            places.add(at);
            statements.add(text.substring(at, at + shape.length()));
            at += shape.length();
        } while (at < text.length());
        World next = w.twin();
        for (int s = 0; s < statements.size(); s++) if (!tell(next, statements.get(s))) return -2000 - places.get(s);
        w = next;
        return statements.size();
    }

    private static String shape(char letter) {
        for (String s : List.of("y0000;", "b00000;", "p00;", "x00;", "r0;", "c00;", "l000;", "t00;")) if (s.charAt(0) == letter) return s;
        return null;
    }

    private static boolean tell(World t, String s) {
        String n = s.substring(1, s.length() - 1);
        int all = Integer.parseInt(n);
        switch (s.charAt(0)) {
            case 'y': {
                int kind = n.charAt(0) - '0';
                int width = all % 100;
                if (kind > 7 || width < 6 || width > 40 || t.yards.size() == 12) return false;
                t.yards.add(Yard.of(kind, n.charAt(1) - '0', width));
                return true;
            }
            case 'b': {
                Body b = new Body();
                b.chest = all / 1000;
                b.out = all / 100 % 10;
                b.fear = all / 10 % 10;
                b.pull = all % 10;
                if (b.chest < 10 || b.chest > 50 || t.bodies.size() == 6) return false;
                b.number = t.bodies.size();
                t.bodies.add(b);
                t.order.add(b.number);
                return true;
            }
            case 'p':
                if (all / 10 >= t.bodies.size() || all % 10 > 3) return false;
                t.bodies.get(all / 10).posture = all % 10;
                return true;
            case 'x':
                if (all / 10 >= t.bodies.size() || all % 10 >= t.bodies.size() || all / 10 == all % 10) return false;
                Collections.swap(t.order, t.order.indexOf(all / 10), t.order.indexOf(all % 10));
                return true;
            case 'r':
                t.rise = all;
                return true;
            case 'c':
                if (all < 1 || all > 60) return false;
                t.calm = all;
                return true;
            case 'l':
                t.light = all;
                return true;
            default:
                if (t.clock + all > 9999) return false;
                t.clock += all;
                return true;
        }
    }

    int yard(int y, int what) {
        if (!isYard(y) || !in(what, 0, 5)) return -1;
        Yard one = w.yards.get(y);
        return new int[] {one.kind, one.figure, one.width, w.room(y, w.clock), one.minutes(false), one.minutes(true)}[what];
    }

    int body(int b, int what) {
        if (!isBody(b) || !in(what, 0, 5)) return -1;
        Body o = w.bodies.get(b);
        return new int[] {o.chest, o.out, o.fear, o.pull, o.posture, w.order.indexOf(b)}[what];
    }

    int lays(int d, int width) {
        if (!in(d, 0, 7) || !in(width, 6, 40)) return -1;
        if (shelves[d] == null) return -11;
        if (!(shelves[d] instanceof Yard)) return -12;
        if (w.yards.size() == 12) return -2;
        Yard y = (Yard) shelves[d];
        w.yards.add(Yard.of(y.kind, y.figure, width));
        return w.yards.size() - 1;
    }

    int shorter() {
        if (w.yards.isEmpty()) return -3;
        w.yards.remove(w.yards.size() - 1);
        return w.yards.size();
    }

    int makes(int b, int what, int v) {
        if (!isBody(b)) return -1;
        Body o = w.bodies.get(b);
        int was;
        if (what == 0 && in(v, 0, 9)) {
            was = o.fear;
            o.fear = v;
        } else if (what == 1 && in(v, 0, 3)) {
            was = o.posture;
            o.posture = v;
        } else if (what == 2 && in(v, 10, 50)) {
            was = o.chest;
            o.chest = v;
        } else {
            return -1;
        }
        return was;
    }

    int change(int a, int b) {
        if (!isBody(a) || !isBody(b) || a == b) return -1;
        Collections.swap(w.order, w.order.indexOf(a), w.order.indexOf(b));
        return w.order.indexOf(a);
    }

    int set(int what, int v) {
        int was;
        if (what == 0 && in(v, 0, 9)) {
            was = w.rise;
            w.rise = v;
        } else if (what == 1 && in(v, 1, 60)) {
            was = w.calm;
            w.calm = v;
        } else if (what == 2 && in(v, 0, 999)) {
            was = w.light;
            w.light = v;
        } else {
            return -1;
        }
        return was;
    }

    int waits(int n) {
        if (!in(n, 0, 99)) return -1;
        if (w.clock + n > 9999) return -3;
        w.clock += n;
        return w.clock;
    }

    int size(int b, int y, int posture, int out) {
        if (!isBody(b) || !isYard(y) || !in(posture, 0, 3) || !in(out, 0, 1)) return -1;
        Body one = w.bodies.get(b).twin();
        one.posture = posture;
        return out == 0 ? one.in(w.yards.get(y)) : one.out(w.yards.get(y));
    }

    int fits(int b, int y) { return isBody(b) && isYard(y) ? w.fits(b, y) : -1; }

    int way(int b, int back, int what) {
        if (!isBody(b) || !in(back, 0, 1) || !in(what, 0, 2)) return -1;
        Outcome o = w.alone(b, back == 1);
        return what == 0 ? o.where : what == 1 ? o.clock - w.clock : o.breaths;
    }

    int posture(int b) {
        if (!isBody(b)) return -1;
        int best = -4;
        int fewest = 999;
        for (int p = 3; p >= 0; p--) {
            World t = w.twin();
            t.bodies.get(b).posture = p;
            Outcome o = t.alone(b, false);
            if (o.stuck == -4 && o.breaths <= fewest) {
                best = p;
                fewest = o.breaths;
            }
        }
        return best;
    }

    int lacks(int b) {
        if (!isBody(b)) return -1;
        int most = 0;
        for (int y = 0; y < w.yards.size(); y++) most = Math.max(most, w.lack(b, y));
        return most;
    }

    int widest(int b) {
        if (!isBody(b)) return -1;
        int widest = -4;
        for (int chest = 10; chest <= 50; chest++) {
            World t = w.twin();
            t.bodies.get(b).chest = chest;
            if (t.alone(b, false).stuck == -4) widest = chest;
        }
        return widest;
    }

    int go(int what) {
        if (!in(what, 0, 4)) return -1;
        Outcome o = w.there(w.order, w.clock);
        return new int[] {o.bits(), o.stuck, o.where, o.clock, o.breaths}[what];
    }

    int back(int what) {
        if (!in(what, 0, 3)) return -1;
        Outcome there = w.there(w.order, w.clock);
        Outcome o = w.home(w.order, w.clock);
        int shut = 0;
        if (there.stuck != -4) {
            shut = there.bits();
        } else if (o.stuck != -4) {
            for (int i = 0; i < w.order.indexOf(o.stuck); i++) shut |= 1 << w.order.get(i);
        }
        return new int[] {o.bits(), o.stuck, shut, o.clock}[what];
    }

    int help(int b) {
        if (!isBody(b)) return -1;
        int place = w.order.indexOf(b);
        int greatest = 0;
        for (int ahead : w.order.subList(0, place)) greatest = Math.max(greatest, w.bodies.get(ahead).pull);
        int behind = place == w.order.size() - 1 ? 0 : w.bodies.get(w.order.get(place + 1)).pull;
        return greatest / 3 + behind / 3;
    }

    private void orders(List<Integer> begun, List<List<Integer>> all) {
        if (begun.size() == w.bodies.size()) all.add(new ArrayList<>(begun));
        for (int b = 0; b < w.bodies.size(); b++) {
            if (begun.contains(b)) continue;
            begun.add(b);
            orders(begun, all);
            begun.remove(begun.size() - 1);
        }
    }

    int order(int i) {
        if (i < -1) return -1;
        List<List<Integer>> all = new ArrayList<>();
        orders(new ArrayList<>(), all);
        List<Integer> best = null;
        int most = -1;
        int clock = 0;
        for (List<Integer> one : all) {
            Outcome o = w.home(one, w.clock);
            if (o.passed.size() > most || o.passed.size() == most && o.clock < clock) {
                best = one;
                most = o.passed.size();
                clock = o.clock;
            }
        }
        return i == -1 ? most : i < best.size() ? best.get(i) : -4;
    }

    int stays() {
        int n = w.bodies.size();
        for (int many = 0; many <= n; many++) {
            for (int mask = 0; mask < 1 << n; mask++) {
                if (Integer.bitCount(mask) != many) continue;
                List<Integer> others = new ArrayList<>();
                for (int b : w.order) if ((mask >> b & 1) == 0) others.add(b);
                if (w.allBack(others, w.clock)) return mask;
            }
        }
        return -4;
    }

    int calms(int b) {
        if (!isBody(b)) return -1;
        for (int k = 0; k < 12; k++) {
            World t = w.twin();
            t.bodies.get(b).fear = Math.max(0, w.bodies.get(b).fear - k);
            if (t.alone(b, false).stuck == -4) return k * w.calm;
        }
        return -4;
    }

    int rescue(int b, int y, int n, int i) {
        if (!isBody(b) || !isYard(y) || !in(n, 0, 6) || i < -1) return -1;
        if (w.fits(b, y) != 2) return -3;
        int greatest = 0;
        int least = w.bodies.size() == 1 ? 0 : 9;
        for (Body o : w.bodies) {
            if (o.number == b) continue;
            greatest = Math.max(greatest, o.pull);
            least = Math.min(least, o.pull);
        }
        String best = null;
        int fewest = 0;
        for (int many = 0; many <= n; many++) {
            for (int code = 0; code < 1 << (2 * many); code++) {
                World t = w.twin();
                Body one = t.bodies.get(b);
                int help = 0;
                int minutes = 0;
                StringBuilder deeds = new StringBuilder();
                for (int k = 0; k < many; k++) {
                    int deed = code >> (2 * k) & 3;
                    deeds.append(deed);
                    if (deed == 0) help += greatest / 3;
                    if (deed == 1) help += least / 3;
                    if (deed == 2) one.fear = Math.max(0, one.fear - 1);
                    if (deed == 3) one.fear = Math.min(9, one.fear + 1);
                    if (deed == 3) help++;
                    minutes += deed < 2 ? 10 : deed == 2 ? w.calm : 2;
                }
                if (t.lack(b, y) > help) continue;
                String told = deeds.toString();
                if (best == null || minutes < fewest || minutes == fewest && told.compareTo(best) < 0) {
                    best = told;
                    fewest = minutes;
                }
            }
        }
        if (best == null) return -4;
        return i == -1 ? fewest : i < best.length() ? best.charAt(i) - '0' : -4;
    }

    int turns() {
        for (int wait = 600; wait >= 0; wait--) {
            if (w.allBack(w.order, w.clock + wait) && w.home(w.order, w.clock + wait).clock <= w.light) return wait;
        }
        return -4;
    }

    int floods(int b, int y) {
        if (!isBody(b) || !isYard(y)) return -1;
        int from = -4;
        for (int hour = 99; hour >= 0; hour--) {
            if (w.bodies.get(b).out(w.yards.get(y)) <= w.yards.get(y).room(hour, w.rise)) break;
            from = hour;
        }
        return from;
    }

    int haste() {
        World t = w.twin();
        for (Body b : t.bodies) b.fear = 0;
        return Math.max(0, w.home(w.order, w.clock).clock - t.home(t.order, t.clock).clock);
    }

    long panic(int part) {
        if (!in(part, 0, 1)) return -1000000001L;
        int n = w.bodies.size();
        long above = 0;
        long below = 1;
        for (int b = 0; b < n; b++) below *= 10;
        for (int mask = 0; mask < 1 << n; mask++) {
            World t = w.twin();
            long odds = 1;
            for (Body b : t.bodies) {
                if ((mask >> b.number & 1) == 1) {
                    odds *= b.fear;
                    b.fear = 9;
                } else {
                    odds *= 10 - b.fear;
                }
            }
            if (t.allBack(t.order, t.clock)) above += odds;
        }
        java.math.BigInteger shared = java.math.BigInteger.valueOf(above).gcd(java.math.BigInteger.valueOf(below));
        return (part == 0 ? above : below) / shared.longValue();
    }

    int firstWays() {
        int n = w.bodies.size();
        if (n > 4) return -3;
        int most = -1;
        int found = -1;
        for (int digits = 0; digits < Math.pow(10, n); digits++) {
            World t = w.twin();
            int rest = digits;
            boolean right = true;
            for (int b = n - 1; b >= 0; b--) {
                t.bodies.get(b).posture = rest % 10;
                right &= rest % 10 < 4;
                rest /= 10;
            }
            if (!right) continue;
            int back = t.home(t.order, t.clock).passed.size();
            if (back > most) {
                most = back;
                found = digits;
            }
        }
        return found;
    }

    private int refusedRock(int b, int d) {
        if (!isBody(b) || !in(d, 0, 7)) return -1;
        if (shelves[d] == null) return -11;
        if (!isRow(d)) return -12;
        return length(shelves[d]) > w.yards.size() ? -13 : 0;
    }

    private boolean agrees(int b, int d, int chest, int places) {
        World t = w.twin();
        t.bodies.get(b).chest = chest;
        for (int y = 0; y < places; y++) {
            if (!skipped(shelves[d], y) && at(shelves[d], y) != t.fits(b, y)) return false;
        }
        return true;
    }

    int rock(int b, int d, int what) {
        if (!in(what, 0, 1)) return -1;
        int refused = refusedRock(b, d);
        if (refused != 0) return refused;
        List<Integer> chests = new ArrayList<>();
        for (int chest = 10; chest <= 50; chest++) if (agrees(b, d, chest, length(shelves[d]))) chests.add(chest);
        return what == 0 ? chests.size() : chests.isEmpty() ? -4 : chests.get(0);
    }

    int forged(int b, int d) {
        int refused = refusedRock(b, d);
        if (refused != 0) return refused;
        for (int place = 0; place < length(shelves[d]); place++) {
            boolean any = false;
            for (int chest = 10; chest <= 50; chest++) any |= agrees(b, d, chest, place + 1);
            if (!any) return place;
        }
        return -4;
    }

    int judge(int d) {
        if (!in(d, 0, 7)) return -1;
        if (shelves[d] == null) return -11;
        if (!isRow(d)) return -12;
        List<Integer> times = w.there(w.order, w.clock).times;
        for (int i = 0; i < length(shelves[d]); i++) {
            if (skipped(shelves[d], i)) continue;
            if (i >= times.size() || at(shelves[d], i) != times.get(i) - w.clock) return i;
        }
        return -4;
    }

    int parties(int n, int z, int what) {
        if (!in(n, 1, 20) || !in(what, 0, 1)) return -1;
        int sum = 0;
        for (int k = 0; k < n; k++) {
            World t = w.twin();
            for (Body b : t.bodies) {
                z = (int) (z * 1103515245L + 12345L);
                b.fear = ((z << 1) >>> 1) / 65536 % 10;
            }
            sum += (what == 0 ? t.there(t.order, t.clock) : t.home(t.order, t.clock)).passed.size();
        }
        return sum;
    }

    int image() {
        image = w.twin();
        return w.clock;
    }

    int restore() {
        if (image == null) return -3;
        w = image.twin();
        return w.clock;
    }

    int count(int what) {
        if (!in(what, 0, 7)) return -1;
        int widths = 0;
        for (Yard y : w.yards) widths += y.width;
        int chests = 0;
        for (Body b : w.bodies) chests += b.chest;
        return new int[] {w.yards.size(), w.bodies.size(), w.clock, w.rise, w.calm, w.light, widths, chests}[what];
    }

    int keep(int d, int what, int k, int figure) {
        if (!in(d, 0, 7) || !in(what, 0, 1)) return -1;
        if (what == 1 && (!in(k, 0, 7) || !in(figure, 0, 9))) return -1;
        shelves[d] = what == 0 ? null : Yard.of(k, figure, 0);
        return 0;
    }

    int row(int d, int sort, int n) {
        if (!in(d, 0, 7) || !in(sort, 0, 2) || n > 100) return -1;
        if (n < 0) return -14;
        shelves[d] = sort == 0 ? new byte[n] : sort == 1 ? new short[n] : new int[n];
        return 0;
    }

    int put(int d, int i, int v) {
        if (!in(d, 0, 7)) return -1;
        if (shelves[d] == null) return -11;
        if (!isRow(d)) return -12;
        if (i < 0 || i >= length(shelves[d])) return -13;
        if (shelves[d] instanceof byte[]) ((byte[]) shelves[d])[i] = (byte) v;
        if (shelves[d] instanceof short[]) ((short[]) shelves[d])[i] = (short) v;
        if (shelves[d] instanceof int[]) ((int[]) shelves[d])[i] = v;
        return 0;
    }

    long element(int d, int i) {
        if (!in(d, 0, 7)) throw new IllegalArgumentException();
        if (!isRow(d) || i < 0 || i >= length(shelves[d])) throw new IllegalStateException();
        return at(shelves[d], i);
    }

    int copy(int d, int i, int e, int j, int n) {
        if (!in(d, 0, 7) || !in(e, 0, 7)) return -1;
        if (shelves[d] == null || shelves[e] == null) return -11;
        if (!isRow(d) || !isRow(e) || shelves[d].getClass() != shelves[e].getClass()) return -12;
        if (n < 0 || i < 0 || j < 0 || (long) i + n > length(shelves[d]) || (long) j + n > length(shelves[e])) return -13;
        System.arraycopy(shelves[d], i, shelves[e], j, n);
        return n;
    }

    int cost(int d) {
        if (!in(d, 0, 7)) return -1;
        if (shelves[d] == null) return -11;
        return shelves[d] instanceof Yard ? ((Yard) shelves[d]).cost() : -12;
    }

    int toss(int d) {
        if (!in(d, 0, 7)) return -1;
        if (shelves[d] == null) return -11;
        if (!(shelves[d] instanceof Yard)) return -12;
        Yard y = (Yard) shelves[d];
        return y.figure == 0 ? -15 : y.toss();
    }
}
