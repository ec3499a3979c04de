import java.util.ArrayList;
import java.util.Arrays;
import java.util.List;
import java.util.TreeSet;
import java.util.regex.Matcher;
import java.util.regex.Pattern;

/** The town once more, reckoned sentence by sentence as the document tells it, with no care for speed. */
final class PlainTown implements Cloneable {
    private static final Pattern ACT = Pattern.compile("[!.]|[A-F](?:[><0-7gfs^|]|&[A-F])");
    private static final Pattern DAYS = Pattern.compile("(?:" + ACT.pattern() + ")*");

    static final class Person implements Cloneable {
        int cell;
        TreeSet<Integer> stated = new TreeSet<>();
        int owes;
        int[] goods = {2, 2, 2};
        boolean on = true;
        int lies;
        int holds = -6;

        Person copy() {
            Person p = new Person();
            p.cell = cell;
            p.stated = new TreeSet<>(stated);
            p.owes = owes;
            p.goods = goods.clone();
            p.on = on;
            p.lies = lies;
            p.holds = holds;
            return p;
        }
    }

    final List<Person> people = new ArrayList<>();
    int[] likes = {1, 1, 1};
    int cell;
    int step = 1;
    int force = 1;
    int time;
    List<int[]> sights = new ArrayList<>();

    // Of the last text or year that was tried on this town.
    int act;
    int losses;
    int firstAct = -6;
    int firstWho = -6;

    PlainTown() {
        for (int n = 0; n < 6; n++) {
            Person p = new Person();
            p.cell = n;
            people.add(p);
        }
    }

    PlainTown copy() {
        PlainTown t = new PlainTown();
        t.people.clear();
        for (Person p : people) {
            t.people.add(p.copy());
        }
        t.likes = likes.clone();
        t.cell = cell;
        t.step = step;
        t.force = force;
        t.time = time;
        t.sights = new ArrayList<>(sights);
        return t;
    }

    static int fault(String text) {
        for (int end = 1; end <= text.length(); end++) {
            Matcher m = DAYS.matcher(text.substring(0, end));
            if (!m.matches() && !m.hitEnd()) {
                return end - 1;
            }
        }
        return DAYS.matcher(text).matches() ? -6 : text.length();
    }

    static List<String> acts(String text) {
        List<String> found = new ArrayList<>();
        Matcher m = ACT.matcher(text);
        while (m.find()) {
            found.add(m.group());
        }
        return found;
    }

    boolean peace(int n) {
        return people.get(n).stated.contains(time % 8) && people.get(n).owes < 4;
    }

    boolean hushed(int n) {
        return peace(n) || holder(n) >= 0 && peace(holder(n));
    }

    int holder(int n) {
        for (int other = 0; other < 6; other++) {
            if (people.get(other).holds == n) {
                return other;
            }
        }
        return -1;
    }

    /** Why an act can not be; 0, and it is done. */
    int attempt(String deed) {
        if (deed.equals("!")) {
            if (force == 9) {
                return 9;
            }
            force++;
            return 0;
        }
        if (deed.equals(".")) {
            if (time == 799) {
                return 9;
            }
            hour();
            return 0;
        }
        int n = deed.charAt(0) - 'A';
        char c = deed.charAt(1);
        int why = why(n, c, deed);
        if (why == 0) {
            carryOut(n, c, deed);
        }
        return why;
    }

    private int why(int n, char c, String deed) {
        Person p = people.get(n);
        if ("><^&".indexOf(c) >= 0 && holder(n) >= 0) {
            return 1;
        }
        if (c == '>' && p.cell == 11 || c == '<' && p.cell == 0) {
            return 2;
        }
        if (Character.isDigit(c) && p.owes >= 4) {
            return 3;
        }
        int kind = "gfs".indexOf(c);
        if (kind >= 0 && p.goods[kind] == 0) {
            return 4;
        }
        if (kind >= 0 && p.owes == 0) {
            return 5;
        }
        if (c == '^' && (p.on || p.lies != p.cell)) {
            return 6;
        }
        if (c == '&') {
            int m = deed.charAt(2) - 'A';
            Person q = people.get(m);
            if (m == n || p.cell != q.cell || p.holds >= 0 || holder(m) >= 0 || q.holds >= 0) {
                return 7;
            }
        }
        return c == '|' && p.holds < 0 ? 8 : 0;
    }

    private void carryOut(int n, char c, String deed) {
        Person p = people.get(n);
        int kind = "gfs".indexOf(c);
        if (c == '>' || c == '<') {
            p.cell += c == '>' ? 1 : -1;
            if (p.holds >= 0) {
                people.get(p.holds).cell = p.cell;
            }
        } else if (Character.isDigit(c)) {
            int hour = c - '0';
            if (!p.stated.remove(hour)) {
                p.stated.add(hour);
            }
        } else if (kind >= 0) {
            p.goods[kind]--;
            p.owes = Math.max(0, p.owes - likes[kind]);
        } else if (c == '^') {
            p.on = true;
        } else if (c == '&') {
            p.holds = deed.charAt(2) - 'A';
        } else {
            p.holds = -6;
        }
    }

    private void hour() {
        time++;
        if (time % 8 == 0) {
            for (Person p : people) {
                p.owes = Math.min(9, p.owes + p.stated.size() / 2);
            }
        }
        for (int times = 0; times < force; times++) {
            if (cell + step == 12 || cell + step == -1) {
                step = -step;
            }
            cell += step;
            for (int n = 0; n < 6; n++) {
                Person p = people.get(n);
                if (p.cell == cell && p.on && !hushed(n)) {
                    p.on = false;
                    p.lies = Math.min(11, Math.max(0, cell + step));
                    losses++;
                    if (firstWho == -6) {
                        firstWho = n;
                        firstAct = act;
                    }
                }
            }
        }
    }

    /** The act that can not be, and why; both -6, if all could be. */
    int[] read(String text) {
        for (String deed : acts(text)) {
            int why = attempt(deed);
            if (why != 0) {
                return new int[] {act, why};
            }
            act++;
        }
        return new int[] {-6, -6};
    }

    int ofWalker(int n, int what) {
        Person p = people.get(n);
        int hours = 0;
        for (int hour : p.stated) {
            hours += 1 << hour;
        }
        int[] all = {p.cell, hours, p.owes, p.holds, p.on ? -6 : p.lies, p.goods[0], p.goods[1], p.goods[2]};
        return all[what];
    }

    int ofAll(int what) {
        int[] all = {cell, step == 1 ? 0 : 1, force, time % 8, time / 8, hushedOnes(), losses, firstAct, firstWho};
        return all[what];
    }

    int hushedOnes() {
        int bits = 0;
        for (int n = 0; n < 6; n++) {
            bits += hushed(n) ? 1 << n : 0;
        }
        return bits;
    }

    int off() {
        int bits = 0;
        for (int n = 0; n < 6; n++) {
            bits += people.get(n).on ? 0 : 1 << n;
        }
        return bits;
    }

    int purse(int n) {
        int[] g = people.get(n).goods;
        return 100 * g[0] + 10 * g[1] + g[2];
    }

    void place(int n, int newCell, int hours, int owes) {
        Person p = people.get(n);
        p.cell = newCell;
        p.owes = owes;
        p.on = true;
        p.holds = -6;
        if (holder(n) >= 0) {
            people.get(holder(n)).holds = -6;
        }
        p.stated.clear();
        for (int hour = 0; hour < 8; hour++) {
            if ((hours / (1 << hour)) % 2 == 1) {
                p.stated.add(hour);
            }
        }
    }

    List<Integer> likings() {
        List<Integer> found = new ArrayList<>();
        for (int code = 0; code <= 333; code++) {
            int[] by = {code / 100, code / 10 % 10, code % 10};
            boolean fits = Arrays.stream(by).allMatch(liking -> liking <= 3);
            for (int[] s : sights) {
                boolean enough = s[1] * by[0] + s[2] * by[1] + s[3] * by[2] >= s[0];
                fits &= enough == (s[4] == 1);
            }
            if (fits) {
                found.add(code);
            }
        }
        return found;
    }

    int when(int where) {
        int bits = 0;
        PlainTown t = copy();
        for (int later = 1; later <= 8; later++) {
            t.time++;
            boolean comes = false;
            for (int times = 0; times < t.force; times++) {
                if (t.cell + t.step == 12 || t.cell + t.step == -1) {
                    t.step = -t.step;
                }
                t.cell += t.step;
                comes |= t.cell == where;
            }
            bits |= comes ? 1 << t.time % 8 : 0;
        }
        return bits;
    }
}
