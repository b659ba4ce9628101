import java.util.ArrayList;
import java.util.Collections;
import java.util.List;
import java.util.regex.Matcher;
import java.util.regex.Pattern;

/**
 * The document told a second time, in another way and with the whole library, so that runs of calls can be compared:
 * each chair is a thing of its own, texts are cut by a pattern, and every walk is tried.
 */
final class ModelFront {
    private static final int NONE = -1000000, BAD = -1000001, STATE = -1000002, FULL = -1000003, KIND = -1000004;
    private static final Pattern TOKEN = Pattern.compile("[ \n]*(?:([a-z]+)|([0-9]+)|(;)|(\\z)|([\\s\\S]))");

    private static final class Chair {
        Object where;
        Ticket by;
    }

    private static final class Stretch {
        int height, zone, wear, unpaid, go;
    }

    private static final class Ticket {
        int hours, price, paid, zone, number;
        Stretch at;
    }

    private static final String STACK = "stack", LOST = "lost", BROKEN = "broken";

    private final List<Chair> chairs = new ArrayList<>();
    private final List<Stretch> shore = new ArrayList<>();
    private final List<Ticket> running = new ArrayList<>();
    private int price = 10, stop = 60, ever, hours, wind, paid, back, fault;
    private String hold = "place";
    private List<int[]> rain = List.of(), rent = List.of();
    private String tape = "";
    private List<Integer> trace = List.of();

    ModelFront(int n) {
        for (int i = 0; i < Math.min(n, 9000); i++) {
            Chair c = new Chair();
            c.where = STACK;
            chairs.add(c);
        }
    }

    private static boolean out(int v, int least, int most) {
        return v < least || v > most;
    }

    private int at(Object where) {
        return (int) chairs.stream().filter(c -> c.where == where).count();
    }

    private List<Chair> free(Object where) {
        return chairs.stream().filter(c -> c.where == where && c.by == null).toList();
    }

    private List<Chair> of(Ticket t) {
        return chairs.stream().filter(c -> c.by == t).toList();
    }

    private Stretch stretchOf(int i) {
        return out(i, 0, shore.size() - 1) ? null : shore.get(i);
    }

    private Object placeOf(int i) {
        return i == NONE ? STACK : stretchOf(i);
    }

    private Ticket ticketOf(int i) {
        return running.stream().filter(t -> t.number == i).findFirst().orElse(null);
    }

    int stretch(int height, int zone) {
        if (out(height, 0, 500) || out(zone, 0, 3)) return BAD;
        if (shore.size() == 10) return FULL;
        Stretch s = new Stretch();
        s.height = height;
        s.zone = zone;
        shore.add(s);
        return shore.size() - 1;
    }

    int carry(int from, int to, int n) {
        Object a = placeOf(from), b = placeOf(to);
        if (a == null || b == null || a == b || out(n, 0, 9000)) return BAD;
        List<Chair> free = free(a);
        if (free.size() < n) return STATE;
        free.subList(0, n).forEach(c -> c.where = b);
        return at(b);
    }

    int told(int stretch, int what) {
        Stretch s = stretchOf(stretch);
        if (s == null || out(what, 0, 5)) return BAD;
        return new int[] {s.height, s.zone, at(s), free(s).size(), s.wear, s.unpaid}[what];
    }

    int rule(int what, int v) {
        if (out(what, 0, 1) || out(v, 1 - what, 100)) return BAD;
        int was = what == 0 ? price : stop;
        if (what == 0) price = v;
        else stop = v;
        return was;
    }

    int mend(int n) {
        if (out(n, 0, 9000)) return BAD;
        List<Chair> broken = free(BROKEN);
        if (broken.size() < n) return STATE;
        broken.subList(0, n).forEach(c -> c.where = STACK);
        return at(BROKEN);
    }

    int hire(int stretch, int n, int h) {
        Stretch s = stretchOf(stretch);
        if (s == null || out(n, 1, 100) || out(h, 1, 12)) return BAD;
        if (wind > stop) return STATE;
        List<Chair> free = free(s);
        if (running.size() == 30 || free.size() < n) return FULL;
        Ticket t = new Ticket();
        t.at = s;
        t.zone = s.zone;
        t.hours = h;
        t.price = price;
        t.number = ever++;
        t.paid = n * h * price;
        paid += t.paid;
        running.add(t);
        free.subList(0, n).forEach(c -> c.by = t);
        return t.number;
    }

    int shift(int ticket, int stretch) {
        Ticket t = ticketOf(ticket);
        Stretch s = stretchOf(stretch);
        if (t == null || s == null || t.at == s) return BAD;
        if (hold.equals("place") || hold.equals("zone") && s.zone != t.zone) return STATE;
        List<Chair> mine = of(t), free = free(s);
        if (free.size() < mine.size()) return FULL;
        mine.forEach(c -> c.by = null);
        free.subList(0, mine.size()).forEach(c -> c.by = t);
        t.at = s;
        return 1;
    }

    int ticket(int ticket, int what) {
        Ticket t = ticketOf(ticket);
        if (t == null || out(what, 0, 3)) return BAD;
        return new int[] {shore.indexOf(t.at), of(t).size(), t.hours, t.paid}[what];
    }

    private void end(Ticket t) {
        of(t).forEach(c -> c.by = null);
        running.remove(t);
    }

    int hour(int level, int w, int minutes, int sun) {
        if (out(level, 0, 1000) || out(w, 0, 100) || out(minutes, 0, 60) || out(sun, 0, 10)) return BAD;
        if (hours == 5000) return STATE;
        hours++;
        wind = w;
        for (Ticket t : new ArrayList<>(running)) if (t.at.height <= level) end(t);
        for (Chair c : chairs) if (c.where instanceof Stretch s && s.height <= level) c.where = LOST;
        if (w > stop) {
            for (Ticket t : new ArrayList<>(running)) {
                back += of(t).size() * t.hours * t.price;
                end(t);
            }
        }
        for (Ticket t : running) {
            int[] line = rain.stream().filter(l -> minutes >= l[0]).findFirst().orElse(new int[] {0, 0});
            back += t.price * of(t).size() * line[1] / 100;
        }
        for (Stretch s : shore) {
            s.wear += sun * at(s);
            while (s.wear >= 1000) {
                s.wear -= 1000;
                breakOne(s);
            }
        }
        for (Ticket t : new ArrayList<>(running)) if (--t.hours == 0) end(t);
        return running.size();
    }

    private void breakOne(Stretch s) {
        List<Chair> free = free(s);
        if (!free.isEmpty()) {
            free.get(0).where = BROKEN;
            return;
        }
        Ticket greatest = null;
        for (Ticket t : running) if (t.at == s) greatest = t;
        if (greatest == null) return;
        Chair c = of(greatest).get(0);
        c.by = null;
        c.where = BROKEN;
        if (of(greatest).isEmpty()) end(greatest);
    }

    int feed(long w, int n) {
        if (out(n, 1, 8)) return BAD;
        if (tape.length() + n > 300) return FULL;
        StringBuilder b = new StringBuilder(tape);
        for (int i = n - 1; i >= 0; i--) b.append((char) (w >>> 8 * i & 255));
        tape = b.toString();
        return tape.length();
    }

    int rules() {
        List<String> tokens = new ArrayList<>();
        List<Integer> places = new ArrayList<>();
        Matcher m = TOKEN.matcher(tape);
        for (boolean more = true; more && m.lookingAt(); m.region(m.end(), tape.length())) {
            for (int g = 1; g <= 5; g++) {
                if (m.group(g) != null) {
                    tokens.add(m.group(g));
                    places.add(m.start(g));
                    more = g != 4;
                }
            }
        }
        tape = "";
        return obey(tokens, places);
    }

    private int obey(List<String> tokens, List<Integer> places) {
        String newHold = "place";
        List<int[]> newRain = new ArrayList<>(), newRent = new ArrayList<>();
        int at = 0, lines = 0;
        while (!tokens.get(at).isEmpty()) {
            String word = tokens.get(at);
            List<int[]> into = word.equals("rain") ? newRain : newRent;
            String form = word.equals("hold") ? "hold (zone|any|place) ;" : word + " [0-9]{1,5} part [0-9]{1,5} ;";
            if (!word.matches("hold|rain|rent")) return faultAt(1, places.get(at));
            if (!word.equals("hold") && into.size() == 5) return faultAt(3, places.get(at));
            String[] forms = form.split(" ");
            for (int k = 0; k < forms.length; k++) {
                String token = tokens.get(at + k);
                if (!token.matches(forms[k])) return faultAt(1, places.get(at + k));
                if (!forms[k].startsWith("[")) continue;
                int v = Integer.parseInt(token);
                int least = k == 3 ? 0 : into == newRain ? 1 : newRent.isEmpty() ? 0 : newRent.get(newRent.size() - 1)[0] + 1;
                int most = k == 3 ? 100 : into == newRain ? 60 : 99999;
                if (out(v, least, most)) return faultAt(2, places.get(at + k));
            }
            if (word.equals("hold")) newHold = tokens.get(at + 1);
            else into.add(new int[] {Integer.parseInt(tokens.get(at + 1)), Integer.parseInt(tokens.get(at + 3))});
            at += forms.length;
            lines++;
        }
        hold = newHold;
        rain = newRain;
        rent = newRent;
        return lines;
    }

    private int faultAt(int number, int place) {
        fault = number;
        return -1000100 - place;
    }

    int fault() {
        return fault;
    }

    int rent(int amount) {
        if (amount != NONE && out(amount, 0, 1000000)) return BAD;
        int of = amount == NONE ? Math.max(0, paid - back) : amount;
        int sum = 0;
        for (int i = 0; i < rent.size(); i++) {
            int low = i == 0 ? 0 : rent.get(i - 1)[0], high = rent.get(i)[0];
            int part = of <= low ? 0 : of >= high ? high - low : of - low;
            sum += (int) ((long) part * rent.get(i)[1] / 100);
        }
        return sum;
    }

    int unpaid(int stretch, int n, int go) {
        Stretch s = stretchOf(stretch);
        if (s == null || out(n, 0, 500) || out(go, 0, 500)) return BAD;
        s.unpaid = n;
        s.go = go;
        return 1;
    }

    int walk(int set, int i) {
        List<Integer> all = new ArrayList<>();
        for (int b = 0; b < 32; b++) {
            if ((set >>> b & 1) == 1) {
                if (stretchOf(b) == null) return BAD;
                all.add(b);
            }
        }
        if (all.isEmpty() || all.size() > 7) return BAD;
        List<Integer> best = new ArrayList<>(all), trial = new ArrayList<>(all);
        while (nextOrder(trial)) if (found(trial) > found(best)) best = new ArrayList<>(trial);
        if (i == NONE) return found(best);
        return out(i, 0, best.size() - 1) ? NONE : best.get(i);
    }

    /** The next order by the dictionary; false behind the last. */
    private static boolean nextOrder(List<Integer> l) {
        int i = l.size() - 2;
        while (i >= 0 && l.get(i) > l.get(i + 1)) i--;
        if (i < 0) return false;
        int j = l.size() - 1;
        while (l.get(j) < l.get(i)) j--;
        Collections.swap(l, i, j);
        Collections.reverse(l.subList(i + 1, l.size()));
        return true;
    }

    private int found(List<Integer> order) {
        int sum = 0;
        for (int t = 0; t < order.size(); t++) {
            Stretch s = shore.get(order.get(t));
            sum += Math.max(0, s.unpaid - t * s.go);
        }
        return sum;
    }

    private int kindOf(Stretch s) {
        boolean sold = at(s) > 0 && free(s).isEmpty();
        return sold && s.unpaid > 0 ? 2 : sold ? 1 : at(s) == 0 ? 3 : 0;
    }

    int kind(int stretch) {
        Stretch s = stretchOf(stretch);
        return s == null ? BAD : kindOf(s);
    }

    int as(int stretch, int kind) {
        Stretch s = stretchOf(stretch);
        if (s == null || out(kind, 0, 3)) return BAD;
        return List.of(List.of(0), List.of(0, 1), List.of(0, 1, 2), List.of(0, 3)).get(kindOf(s)).contains(kind) ? s.height : KIND;
    }

    int ask(int stretch, int what) {
        Stretch s = stretchOf(stretch);
        if (s == null || out(what, 0, 1)) return BAD;
        trace = new ArrayList<>();
        return what == 0 ? body(new int[] {10, 11, 12, 13}[kindOf(s)], s) : body(new int[] {20, 20, 21, 22}[kindOf(s)], s);
    }

    private int body(int number, Stretch s) {
        trace.add(number);
        switch (number) {
            case 10: return at(s);
            case 11: return body(10, s) + 1000;
            case 12: return body(11, s) + body(new int[] {20, 20, 21, 22}[kindOf(s)], s);
            case 13: return s.height;
            case 20: return s.zone;
            case 21: return body(20, s) + s.unpaid;
            default: return body(20, s) + body(new int[] {10, 11, 12, 13}[kindOf(s)], s);
        }
    }

    int trace(int i) {
        return out(i, 0, Math.min(16, trace.size()) - 1) ? NONE : trace.get(i);
    }

    int count(int what) {
        if (out(what, 0, 9)) return BAD;
        int standing = (int) chairs.stream().filter(c -> c.where instanceof Stretch).count();
        return new int[] {shore.size(), at(STACK), standing, at(LOST), at(BROKEN), running.size(), ever, hours, paid, back}[what];
    }
}
