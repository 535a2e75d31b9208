import java.util.ArrayList;
import java.util.LinkedList;
import java.util.List;
import java.util.regex.Matcher;
import java.util.regex.Pattern;

/**
 * The document read a second time, with the Java library and no thought of speed: states are whole
 * copies, texts go through a regular expression, and what would be is tried out on a copy.
 */
final class RipeHoursModel {
    private static final int[] MOST = {9999, 999, 20, 100, 300};
    private static final Pattern DEAL_ROW = deals();

    static final class Person {
        boolean gone;
        boolean busy;
        int balance;
        int loan;
        int idle;
        int gave;
        int took;
        int earned;
        int paid;
        int decayed;
        int forgiven;
        int[] practice = new int[5];

        Person copy() {
            Person p = new Person();
            p.gone = gone;
            p.busy = busy;
            p.balance = balance;
            p.loan = loan;
            p.idle = idle;
            p.gave = gave;
            p.took = took;
            p.earned = earned;
            p.paid = paid;
            p.decayed = decayed;
            p.forgiven = forgiven;
            p.practice = practice.clone();
            return p;
        }
    }

    static final class State {
        List<Person> people = new ArrayList<>();
        int[] settings = {600, 120, 4, 10, 30};
        int common;
        int forgiven;
        int week;
        int deals;
        int motion = -1;
        int motionMinutes;
        List<Integer> pro = new ArrayList<>();
        List<Integer> contra = new ArrayList<>();

        State copy() {
            State s = new State();
            for (Person p : people) {
                s.people.add(p.copy());
            }
            s.settings = settings.clone();
            s.common = common;
            s.forgiven = forgiven;
            s.week = week;
            s.deals = deals;
            s.motion = motion;
            s.motionMinutes = motionMinutes;
            s.pro.addAll(pro);
            s.contra.addAll(contra);
            return s;
        }
    }

    State now = new State();
    final LinkedList<State> saved = new LinkedList<>();
    String buffer = "";

    private static Pattern deals() {
        StringBuilder pairs = new StringBuilder();
        for (char c = 'a'; c <= 'h'; c++) {
            pairs.append(c == 'a' ? "" : "|").append(c).append(">[a-h&&[^").append(c).append("]]");
        }
        String deal = "(?:" + pairs + ")[0-4]:(?:[1-5][0-9]{0,2}|6[0-9]?|600|[7-9][0-9]?)";
        return Pattern.compile(deal + "(?:;" + deal + ")*");
    }

    private void save() {
        saved.addLast(now.copy());
        if (saved.size() > 6) {
            saved.removeFirst();
        }
    }

    private void needMember(int member) {
        if (member < 0 || member >= now.people.size()) {
            throw new IndexOutOfBoundsException();
        }
    }

    private static void needSkill(int skill) {
        if (skill < 0 || skill > 4) {
            throw new IndexOutOfBoundsException();
        }
    }

    private static void needRange(int value, int least, int most) {
        if (value < least || value > most) {
            throw new IllegalArgumentException();
        }
    }

    private static void need(boolean right) {
        if (!right) {
            throw new IllegalStateException();
        }
    }

    private int others() {
        int sum = 0;
        for (int i = 0; i < now.people.size(); i++) {
            if (i != now.motion && !now.people.get(i).gone) {
                sum++;
            }
        }
        return sum;
    }

    private void endMotion() {
        now.motion = -1;
        now.motionMinutes = 0;
        now.pro.clear();
        now.contra.clear();
    }

    private int look() {
        int others = others();
        if (others > 0 && now.pro.size() > others / 2.0) {
            now.people.get(now.motion).balance += now.motionMinutes;
            now.people.get(now.motion).forgiven += now.motionMinutes;
            now.forgiven += now.motionMinutes;
            endMotion();
            return 1;
        }
        if (others > 0 && now.contra.size() >= others / 2.0) {
            endMotion();
            return 2;
        }
        return 0;
    }

    int join() {
        need(now.people.size() < 8);
        save();
        Person p = new Person();
        p.balance = now.settings[1];
        p.loan = p.balance;
        now.common -= p.balance;
        now.people.add(p);
        return now.people.size() - 1;
    }

    int leave(int member) {
        needMember(member);
        Person p = now.people.get(member);
        need(!p.gone && p.balance >= 0);
        save();
        int balance = p.balance;
        now.common += balance;
        p.balance = 0;
        p.loan = 0;
        p.gone = true;
        if (now.motion == member) {
            endMotion();
        } else if (now.motion >= 0) {
            now.pro.remove((Integer) member);
            now.contra.remove((Integer) member);
            look();
        }
        return balance;
    }

    private int valueOf(Person giver, int skill, int minutes) {
        return (int) Math.floor(minutes * (10 + Math.min(9, giver.practice[skill] / 300)) / 10.0);
    }

    int give(int giver, int taker, int skill, int minutes) {
        needMember(giver);
        needMember(taker);
        needSkill(skill);
        if (giver == taker) {
            throw new IllegalArgumentException();
        }
        needRange(minutes, 1, 600);
        Person g = now.people.get(giver);
        Person t = now.people.get(taker);
        int value = valueOf(g, skill, minutes);
        need(!g.gone && !t.gone && t.balance - value >= -now.settings[0]);
        save();
        g.balance += value;
        t.balance -= value;
        g.earned += value;
        t.paid += value;
        g.gave += minutes;
        t.took += minutes;
        g.practice[skill] = Math.min(9999, g.practice[skill] + minutes);
        g.busy = true;
        t.busy = true;
        if (g.loan > 0) {
            int back = Math.min(g.loan, value / 2);
            g.loan -= back;
            g.balance -= back;
            now.common += back;
        }
        now.deals++;
        return value;
    }

    int donate(int member, int minutes) {
        needMember(member);
        needRange(minutes, 1, 999);
        Person p = now.people.get(member);
        need(!p.gone && p.balance >= minutes);
        save();
        p.balance -= minutes;
        now.common += minutes;
        return p.balance;
    }

    private static int oneWeek(State s) {
        int sum = 0;
        s.week++;
        for (Person p : s.people) {
            if (p.gone) {
                continue;
            }
            if (p.busy) {
                p.idle = 0;
            } else {
                p.idle++;
            }
            p.busy = false;
            if (p.idle > s.settings[2]) {
                int part = p.balance > 0 ? p.balance * s.settings[3] / 100 : 0;
                p.balance -= part;
                p.decayed += part;
                s.common += part;
                sum += part;
                for (int i = 0; i < 5; i++) {
                    p.practice[i] = Math.max(0, p.practice[i] - s.settings[4]);
                }
            }
        }
        return sum;
    }

    int pass(int weeks) {
        needRange(weeks, 1, 50);
        need(now.week + weeks <= 2000);
        save();
        int sum = 0;
        for (int i = 0; i < weeks; i++) {
            sum += oneWeek(now);
        }
        return sum;
    }

    int set(int setting, int value) {
        int old = setting(setting);
        needRange(value, 0, MOST[setting]);
        save();
        now.settings[setting] = value;
        return old;
    }

    int move(int member, int minutes) {
        needMember(member);
        needRange(minutes, 1, Integer.MAX_VALUE);
        Person p = now.people.get(member);
        need(!p.gone && now.motion < 0 && p.balance + (long) minutes <= 0);
        save();
        now.motion = member;
        now.motionMinutes = minutes;
        return others();
    }

    private boolean mayVote(int member) {
        return now.motion >= 0 && now.motion != member && !now.people.get(member).gone
                && !now.pro.contains(member) && !now.contra.contains(member);
    }

    int vote(int member, boolean isFor) {
        needMember(member);
        need(mayVote(member));
        save();
        (isFor ? now.pro : now.contra).add(member);
        return look();
    }

    int takeBack() {
        need(now.motion >= 0);
        save();
        int voted = now.pro.size() + now.contra.size();
        endMotion();
        return voted;
    }

    int append(int code) {
        needRange(code, 33, 126);
        need(buffer.length() < 60);
        buffer += (char) code;
        return buffer.length();
    }

    int clearBuffer() {
        int length = buffer.length();
        buffer = "";
        return length;
    }

    int firstError() {
        for (int i = 1; i <= buffer.length(); i++) {
            Matcher m = DEAL_ROW.matcher(buffer.substring(0, i));
            if (!m.matches() && !m.hitEnd()) {
                return i - 1;
            }
        }
        return buffer.length();
    }

    int run() {
        if (!DEAL_ROW.matcher(buffer).matches()) {
            throw new IllegalArgumentException();
        }
        State before = now.copy();
        LinkedList<State> savedBefore = new LinkedList<>(saved);
        int made = 0;
        try {
            for (String deal : buffer.split(";")) {
                give(deal.charAt(0) - 'a', deal.charAt(2) - 'a', deal.charAt(3) - '0',
                        Integer.parseInt(deal.substring(5)));
                made++;
            }
        } catch (RuntimeException e) {
            // the first deal that give() refuses ends the row
        }
        saved.clear();
        saved.addAll(savedBefore);
        State after = now;
        now = before;
        save();
        now = after;
        buffer = "";
        return made;
    }

    int undo() {
        need(!saved.isEmpty());
        now = saved.removeLast();
        return saved.size();
    }

    int member(int member, int what) {
        needMember(member);
        needRange(what, 0, 11);
        Person p = now.people.get(member);
        int[] all = {p.gone ? 0 : 1, p.balance, p.loan, p.idle, p.busy ? 1 : 0, p.gave, p.took, p.earned,
            p.paid, p.decayed, p.forgiven, mayVote(member) ? 1 : 0};
        return all[what];
    }

    int skill(int member, int skill, int what) {
        needMember(member);
        needSkill(skill);
        needRange(what, 0, 1);
        int practice = now.people.get(member).practice[skill];
        return what == 0 ? practice : Math.min(9, practice / 300);
    }

    int count(int what) {
        needRange(what, 0, 13);
        int there = 0;
        int above = 0;
        int below = 0;
        int loans = 0;
        for (Person p : now.people) {
            there += p.gone ? 0 : 1;
            above += p.balance > 0 ? p.balance : 0;
            below += p.balance < 0 ? p.balance : 0;
            loans += p.loan;
        }
        int[] all = {now.people.size(), there, now.common, now.forgiven, now.week, now.deals, above, below,
            loans, now.motion, now.motionMinutes, now.pro.size(), now.contra.size(), saved.size()};
        return all[what];
    }

    int setting(int setting) {
        if (setting < 0 || setting > 4) {
            throw new IndexOutOfBoundsException();
        }
        return now.settings[setting];
    }

    int worth(int giver, int skill, int minutes) {
        needMember(giver);
        needSkill(skill);
        needRange(minutes, 1, 600);
        return valueOf(now.people.get(giver), skill, minutes);
    }

    int longest(int giver, int taker, int skill) {
        needMember(giver);
        needMember(taker);
        needSkill(skill);
        Person g = now.people.get(giver);
        Person t = now.people.get(taker);
        int best = -1;
        for (int minutes = 1; minutes <= 600; minutes++) {
            if (giver != taker && !g.gone && !t.gone
                    && t.balance - valueOf(g, skill, minutes) >= -now.settings[0]) {
                best = minutes;
            }
        }
        return best;
    }

    int cheapest(int taker, int skill, int minutes) {
        needMember(taker);
        needSkill(skill);
        needRange(minutes, 1, 600);
        int best = -1;
        long bestKey = Long.MAX_VALUE;
        for (int i = 0; i < now.people.size(); i++) {
            Person p = now.people.get(i);
            int value = valueOf(p, skill, minutes);
            boolean can = i != taker && !p.gone && !now.people.get(taker).gone
                    && now.people.get(taker).balance - value >= -now.settings[0];
            long key = value * 1_000_000_000L + p.balance;
            if (can && key < bestKey) {
                bestKey = key;
                best = i;
            }
        }
        return best;
    }

    int decayIn(int member, int weeks) {
        needMember(member);
        needRange(weeks, 0, 100);
        State later = now.copy();
        for (int i = 0; i < weeks; i++) {
            oneWeek(later);
        }
        return later.people.get(member).decayed - now.people.get(member).decayed;
    }

    int votesNeeded() {
        if (now.motion < 0) {
            return -1;
        }
        int more = 1;
        while (2 * (now.pro.size() + more) <= others()) {
            more++;
        }
        return more;
    }

    int ripest(int skill) {
        needSkill(skill);
        int best = -1;
        for (int i = now.people.size() - 1; i >= 0; i--) {
            if (!now.people.get(i).gone
                    && (best < 0 || now.people.get(i).practice[skill] >= now.people.get(best).practice[skill])) {
                best = i;
            }
        }
        return best;
    }

    double minuteWorth() {
        long values = 0;
        long minutes = 0;
        for (Person p : now.people) {
            values += p.earned;
            minutes += p.gave;
        }
        return minutes == 0 ? 1.0 : (double) values / minutes;
    }

    long digest() {
        List<Long> list = new ArrayList<>();
        for (int i = 0; i <= 13; i++) {
            list.add((long) count(i));
        }
        for (int i = 0; i <= 4; i++) {
            list.add((long) setting(i));
        }
        for (int m = 0; m < now.people.size(); m++) {
            for (int i = 0; i <= 11; i++) {
                list.add((long) member(m, i));
            }
            for (int i = 0; i <= 4; i++) {
                list.add((long) skill(m, i, 0));
                list.add((long) skill(m, i, 1));
            }
            list.add((long) longest(m, 0, 1));
            list.add((long) cheapest(m, 1, 60));
            list.add((long) decayIn(m, 10));
        }
        for (int i = 0; i <= 4; i++) {
            list.add((long) ripest(i));
        }
        list.add((long) votesNeeded());
        list.add(Double.doubleToLongBits(minuteWorth()));
        list.add((long) buffer.length());
        for (char c : buffer.toCharArray()) {
            list.add((long) c);
        }
        long hash = 2539;
        for (long v : list) {
            hash = 31 * hash + v;
        }
        return hash;
    }
}
