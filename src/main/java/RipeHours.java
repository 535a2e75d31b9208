/** A time bank; ../shared/DOC.md tells what each call promises. */
public final class RipeHours {
    public static final int NONE = -1;

    private static final int MOST_MEMBERS = 8;
    private static final int SKILLS = 5;
    private static final int MOST_PRACTICE = 9999;
    private static final int MINUTES_A_RIPENESS = 300;
    private static final int MOST_RIPENESS = 9;
    private static final int MOST_DEAL_MINUTES = 600;
    private static final int MOST_DONATED = 999;
    private static final int MOST_PASSED_WEEKS = 50;
    private static final int MOST_FORESEEN_WEEKS = 100;
    private static final int LAST_WEEK = 2000;
    private static final int MOST_STATES = 6;
    private static final int MOST_SIGNS = 60;
    private static final int FIRST_SIGN = 33;
    private static final int LAST_SIGN = 126;

    private static final int MEMBER_PROPERTIES = 12;
    private static final int NUMBERS = 14;

    private static final int DEBT_LIMIT = 0;
    private static final int LOAN = 1;
    private static final int HARMLESS_WEEKS = 2;
    private static final int DECAY_PERCENT = 3;
    private static final int RUST = 4;
    private static final int SETTINGS = 5;
    private static final int[] FIRST_SETTINGS = {600, 120, 4, 10, 30};
    private static final int[] GREATEST_SETTINGS = {9999, 999, 20, 100, 300};

    private static final int NO_VOTE = 0;
    private static final int VOTE_FOR = 1;
    private static final int VOTE_AGAINST = 2;
    private static final int MOTION_OPEN = 0;
    private static final int MOTION_CARRIED = 1;
    private static final int MOTION_FAILED = 2;

    private static final long FIRST_HASH = 2539L;
    private static final int DIGEST_TAKER = 0;
    private static final int DIGEST_SKILL = 1;
    private static final int DIGEST_MINUTES = 60;
    private static final int DIGEST_WEEKS = 10;
    private static final long FRACTION_STEPS = 1L << 52;
    private static final long BITS_OF_ONE = 1023L << 52;

    private final Bank bank;
    private final History history;
    private final DealText text;

    public RipeHours() {
        bank = new Bank();
        history = new History();
        text = new DealText();
    }

    // ---- members

    public int join() throws IllegalStateException {
        if (bank.came >= MOST_MEMBERS) {
            throw new IllegalStateException("8 members came so far");
        }
        history.keep(bank);
        return bank.admit();
    }

    public int leave(int member) throws IndexOutOfBoundsException, IllegalStateException {
        if (!bank.isMember(member)) {
            throw new IndexOutOfBoundsException("no such member");
        }
        if (!bank.members[member].isThere || bank.members[member].balance < 0) {
            throw new IllegalStateException("the member has left or has a debt");
        }
        history.keep(bank);
        return bank.dismiss(member);
    }

    public int give(int giver, int taker, int skill, int minutes)
            throws IndexOutOfBoundsException, IllegalArgumentException, IllegalStateException {
        if (!bank.isMember(giver) || !bank.isMember(taker) || !isSkill(skill)) {
            throw new IndexOutOfBoundsException("no such member or skill");
        }
        if (giver == taker || !isDealMinutes(minutes)) {
            throw new IllegalArgumentException("both are the same, or minutes is out of range");
        }
        if (!bank.allowsDeal(giver, taker, skill, minutes)) {
            throw new IllegalStateException("one has left, or the deal is refused");
        }
        history.keep(bank);
        return bank.makeDeal(giver, taker, skill, minutes);
    }

    public int donate(int member, int minutes)
            throws IndexOutOfBoundsException, IllegalArgumentException, IllegalStateException {
        if (!bank.isMember(member)) {
            throw new IndexOutOfBoundsException("no such member");
        }
        if (!isWithin(minutes, 1, MOST_DONATED)) {
            throw new IllegalArgumentException("minutes is out of range");
        }
        if (!bank.members[member].isThere || bank.members[member].balance < minutes) {
            throw new IllegalStateException("the member has left, or the balance is less than that");
        }
        history.keep(bank);
        bank.payToCommon(member, minutes);
        return bank.members[member].balance;
    }

    public int pass(int weeks) throws IllegalArgumentException, IllegalStateException {
        if (!isWithin(weeks, 1, MOST_PASSED_WEEKS)) {
            throw new IllegalArgumentException("weeks is out of range");
        }
        if (bank.week + weeks > LAST_WEEK) {
            throw new IllegalStateException("the number of the week would be above 2000");
        }
        history.keep(bank);
        int decayed = 0;
        for (int i = 0; i < weeks; i++) {
            decayed += bank.endWeek();
        }
        return decayed;
    }

    public int set(int setting, int value) throws IndexOutOfBoundsException, IllegalArgumentException {
        if (!isSetting(setting)) {
            throw new IndexOutOfBoundsException("no such setting");
        }
        if (!isWithin(value, 0, GREATEST_SETTINGS[setting])) {
            throw new IllegalArgumentException("value is out of range");
        }
        history.keep(bank);
        int previous = bank.settings[setting];
        bank.settings[setting] = value;
        return previous;
    }

    // ---- forgiving

    public int move(int member, int minutes)
            throws IndexOutOfBoundsException, IllegalArgumentException, IllegalStateException {
        if (!bank.isMember(member)) {
            throw new IndexOutOfBoundsException("no such member");
        }
        if (minutes < 1) {
            throw new IllegalArgumentException("minutes is below 1");
        }
        if (!bank.allowsMotion(member, minutes)) {
            throw new IllegalStateException("the member has left, there is a motion, or the debt is less");
        }
        history.keep(bank);
        bank.openMotion(member, minutes);
        return bank.countVoters();
    }

    public int vote(int member, boolean isFor) throws IndexOutOfBoundsException, IllegalStateException {
        if (!bank.isMember(member)) {
            throw new IndexOutOfBoundsException("no such member");
        }
        if (!bank.canVote(member)) {
            throw new IllegalStateException("the member cannot vote now");
        }
        history.keep(bank);
        bank.members[member].ballot = isFor ? VOTE_FOR : VOTE_AGAINST;
        return bank.settleMotion();
    }

    public int takeBack() throws IllegalStateException {
        if (!bank.hasMotion()) {
            throw new IllegalStateException("there is no motion");
        }
        history.keep(bank);
        int voted = bank.countBallots(VOTE_FOR) + bank.countBallots(VOTE_AGAINST);
        bank.dropMotion();
        return voted;
    }

    // ---- texts

    public int append(int code) throws IllegalArgumentException, IllegalStateException {
        if (!isWithin(code, FIRST_SIGN, LAST_SIGN)) {
            throw new IllegalArgumentException("code is not 33 to 126");
        }
        if (text.size >= MOST_SIGNS) {
            throw new IllegalStateException("the buffer has 60 characters");
        }
        text.addSign((char) code);
        return text.size;
    }

    public int clearBuffer() {
        int size = text.size;
        text.size = 0;
        return size;
    }

    public int firstError() {
        return text.findError();
    }

    public int run() throws IllegalArgumentException {
        if (!text.isWholeRow()) {
            throw new IllegalArgumentException("the buffer is not a complete row of deals");
        }
        history.keep(bank);
        int made = text.makeDeals(bank);
        text.size = 0;
        return made;
    }

    public int undo() throws IllegalStateException {
        if (history.kept < 1) {
            throw new IllegalStateException("there is no saved state");
        }
        history.restore(bank);
        return history.kept;
    }

    // ---- what there is

    public int member(int member, int what) throws IndexOutOfBoundsException, IllegalArgumentException {
        if (!bank.isMember(member)) {
            throw new IndexOutOfBoundsException("no such member");
        }
        if (!isWithin(what, 0, MEMBER_PROPERTIES - 1)) {
            throw new IllegalArgumentException("what is not 0 to 11");
        }
        return bank.memberProperty(member, what);
    }

    public int skill(int member, int skill, int what)
            throws IndexOutOfBoundsException, IllegalArgumentException {
        if (!bank.isMember(member) || !isSkill(skill)) {
            throw new IndexOutOfBoundsException("no such member or skill");
        }
        if (!isWithin(what, 0, 1)) {
            throw new IllegalArgumentException("what is not 0 or 1");
        }
        return what == 0 ? bank.members[member].practice[skill] : bank.members[member].ripeness(skill);
    }

    public int count(int what) throws IllegalArgumentException {
        if (!isWithin(what, 0, NUMBERS - 1)) {
            throw new IllegalArgumentException("what is not 0 to 13");
        }
        return number(what);
    }

    public int setting(int setting) throws IndexOutOfBoundsException {
        if (!isSetting(setting)) {
            throw new IndexOutOfBoundsException("no such setting");
        }
        return bank.settings[setting];
    }

    // ---- what would be; nothing is changed

    public int worth(int giver, int skill, int minutes)
            throws IndexOutOfBoundsException, IllegalArgumentException {
        if (!bank.isMember(giver) || !isSkill(skill)) {
            throw new IndexOutOfBoundsException("no such member or skill");
        }
        if (!isDealMinutes(minutes)) {
            throw new IllegalArgumentException("minutes is out of range");
        }
        return bank.members[giver].dealValue(skill, minutes);
    }

    public int longest(int giver, int taker, int skill) throws IndexOutOfBoundsException {
        if (!bank.isMember(giver) || !bank.isMember(taker) || !isSkill(skill)) {
            throw new IndexOutOfBoundsException("no such member or skill");
        }
        return bank.longestDeal(giver, taker, skill);
    }

    public int cheapest(int taker, int skill, int minutes)
            throws IndexOutOfBoundsException, IllegalArgumentException {
        if (!bank.isMember(taker) || !isSkill(skill)) {
            throw new IndexOutOfBoundsException("no such member or skill");
        }
        if (!isDealMinutes(minutes)) {
            throw new IllegalArgumentException("minutes is out of range");
        }
        return bank.cheapestGiver(taker, skill, minutes);
    }

    public int decayIn(int member, int weeks) throws IndexOutOfBoundsException, IllegalArgumentException {
        if (!bank.isMember(member)) {
            throw new IndexOutOfBoundsException("no such member");
        }
        if (!isWithin(weeks, 0, MOST_FORESEEN_WEEKS)) {
            throw new IllegalArgumentException("weeks is out of range");
        }
        return bank.foreseenDecay(member, weeks);
    }

    public int votesNeeded() {
        return bank.missingVotes();
    }

    public int ripest(int skill) throws IndexOutOfBoundsException {
        if (!isSkill(skill)) {
            throw new IndexOutOfBoundsException("no such skill");
        }
        return bank.mostPractised(skill);
    }

    public double minuteWorth() {
        return bank.valueOfMinute();
    }

    public long digest() {
        long hash = FIRST_HASH;
        for (int what = 0; what < NUMBERS; what++) {
            hash = mixed(hash, number(what));
        }
        for (int i = 0; i < SETTINGS; i++) {
            hash = mixed(hash, bank.settings[i]);
        }
        for (int i = 0; i < bank.came; i++) {
            hash = mixedMember(hash, i);
        }
        for (int i = 0; i < SKILLS; i++) {
            hash = mixed(hash, bank.mostPractised(i));
        }
        hash = mixed(hash, bank.missingVotes());
        hash = mixed(hash, bitsOfWorth(bank.valueOfMinute()));
        return mixedText(hash);
    }

    private long mixedMember(long start, int number) {
        long hash = start;
        for (int what = 0; what < MEMBER_PROPERTIES; what++) {
            hash = mixed(hash, bank.memberProperty(number, what));
        }
        for (int i = 0; i < SKILLS; i++) {
            hash = mixed(hash, bank.members[number].practice[i]);
            hash = mixed(hash, bank.members[number].ripeness(i));
        }
        hash = mixed(hash, bank.longestDeal(number, DIGEST_TAKER, DIGEST_SKILL));
        hash = mixed(hash, bank.cheapestGiver(number, DIGEST_SKILL, DIGEST_MINUTES));
        return mixed(hash, bank.foreseenDecay(number, DIGEST_WEEKS));
    }

    private long mixedText(long start) {
        long hash = mixed(start, text.size);
        for (int i = 0; i < text.size; i++) {
            hash = mixed(hash, text.signs[i]);
        }
        return hash;
    }

    private int number(int what) {
        switch (what) {
            case 0: return bank.came;
            case 1: return bank.countThere();
            case 2: return bank.common;
            case 3: return bank.forgiven;
            case 4: return bank.week;
            case 5: return bank.deals;
            case 6: return bank.sumOfCredits();
            case 7: return bank.sumOfDebts();
            case 8: return bank.sumOfLoans();
            case 9: return bank.debtor;
            case 10: return bank.motionMinutes;
            case 11: return bank.countBallots(VOTE_FOR);
            case 12: return bank.countBallots(VOTE_AGAINST);
            default: return history.kept;
        }
    }

    private static long mixed(long hash, long value) {
        return 31L * hash + value;
    }

    /**
     * The bits by arithmetic, as LANGUAGE.md leaves out Double.doubleToLongBits. A deal is worth at
     * least its minutes and less than twice as much, so the number is in [1, 2): its exponent is 0,
     * and what it has above 1 is a whole number of steps.
     */
    private static long bitsOfWorth(double worthOfMinute) {
        return BITS_OF_ONE + (long) ((worthOfMinute - 1.0) * (double) FRACTION_STEPS);
    }

    private static boolean isWithin(int value, int least, int most) {
        return value >= least && value <= most;
    }

    private static boolean isSkill(int skill) {
        return isWithin(skill, 0, SKILLS - 1);
    }

    private static boolean isSetting(int setting) {
        return isWithin(setting, 0, SETTINGS - 1);
    }

    private static boolean isDealMinutes(int minutes) {
        return isWithin(minutes, 1, MOST_DEAL_MINUTES);
    }

    /** What a balance above 0 loses in a week of decay. */
    private static int decayingPart(int balance, int percent) {
        return balance > 0 ? balance * percent / 100 : 0;
    }

    private static final class Member {
        final int[] practice;
        boolean isThere;
        boolean isBusy;
        int balance;
        int loan;
        int idleWeeks;
        int minutesGiven;
        int minutesTaken;
        int earned;
        int paid;
        int decayed;
        int forgiven;
        int ballot;

        Member() {
            practice = new int[SKILLS];
        }

        void copyFrom(Member other) {
            for (int i = 0; i < SKILLS; i++) {
                practice[i] = other.practice[i];
            }
            isThere = other.isThere;
            isBusy = other.isBusy;
            balance = other.balance;
            loan = other.loan;
            idleWeeks = other.idleWeeks;
            minutesGiven = other.minutesGiven;
            minutesTaken = other.minutesTaken;
            earned = other.earned;
            paid = other.paid;
            decayed = other.decayed;
            forgiven = other.forgiven;
            ballot = other.ballot;
        }

        int ripeness(int skill) {
            return Math.min(practice[skill] / MINUTES_A_RIPENESS, MOST_RIPENESS);
        }

        int dealRate(int skill) {
            return 10 + ripeness(skill);
        }

        int dealValue(int skill, int minutes) {
            return minutes * dealRate(skill) / 10;
        }

        void practise(int skill, int minutes) {
            practice[skill] = Math.min(practice[skill] + minutes, MOST_PRACTICE);
        }

        void rust(int minutes) {
            for (int i = 0; i < SKILLS; i++) {
                practice[i] = Math.max(practice[i] - minutes, 0);
            }
        }
    }

    /** All that undo brings back. */
    private static final class Bank {
        final Member[] members;
        final int[] settings;
        int came;
        int common;
        int forgiven;
        int week;
        int deals;
        int debtor;
        int motionMinutes;

        Bank() {
            members = new Member[MOST_MEMBERS];
            for (int i = 0; i < MOST_MEMBERS; i++) {
                members[i] = new Member();
            }
            settings = new int[SETTINGS];
            for (int i = 0; i < SETTINGS; i++) {
                settings[i] = FIRST_SETTINGS[i];
            }
            debtor = NONE;
        }

        void copyFrom(Bank other) {
            for (int i = 0; i < MOST_MEMBERS; i++) {
                members[i].copyFrom(other.members[i]);
            }
            for (int i = 0; i < SETTINGS; i++) {
                settings[i] = other.settings[i];
            }
            came = other.came;
            common = other.common;
            forgiven = other.forgiven;
            week = other.week;
            deals = other.deals;
            debtor = other.debtor;
            motionMinutes = other.motionMinutes;
        }

        boolean isMember(int number) {
            return number >= 0 && number < came;
        }

        // -- members

        /** Whoever calls this has seen that there is room. */
        int admit() {
            int number = came;
            came++;
            Member newcomer = members[number];
            newcomer.isThere = true;
            newcomer.balance = settings[LOAN];
            newcomer.loan = settings[LOAN];
            common -= settings[LOAN];
            return number;
        }

        int dismiss(int number) {
            Member leaver = members[number];
            int balance = leaver.balance;
            payToCommon(number, balance);
            leaver.loan = 0;
            leaver.isThere = false;
            leaver.ballot = NO_VOTE;
            if (debtor == number) {
                dropMotion();
            } else if (hasMotion()) {
                settleMotion();
            }
            return balance;
        }

        void payToCommon(int number, int minutes) {
            members[number].balance -= minutes;
            common += minutes;
        }

        // -- deals

        /** For any numbers of members, also of some who never came. */
        boolean allowsDeal(int giver, int taker, int skill, int minutes) {
            if (!isMember(giver) || !isMember(taker) || !areBothThere(giver, taker)) {
                return false;
            }
            return canPay(taker, members[giver].dealValue(skill, minutes));
        }

        boolean areBothThere(int giver, int taker) {
            return members[giver].isThere && members[taker].isThere;
        }

        boolean canPay(int number, int value) {
            return members[number].balance - value >= -settings[DEBT_LIMIT];
        }

        int makeDeal(int giver, int taker, int skill, int minutes) {
            Member one = members[giver];
            Member other = members[taker];
            int value = one.dealValue(skill, minutes);
            other.balance -= value;
            other.paid += value;
            other.minutesTaken += minutes;
            other.isBusy = true;
            one.balance += value;
            one.earned += value;
            one.minutesGiven += minutes;
            one.isBusy = true;
            one.practise(skill, minutes);
            payLoanBack(giver, value);
            deals++;
            return value;
        }

        void payLoanBack(int number, int value) {
            int part = Math.min(value / 2, members[number].loan);
            members[number].loan -= part;
            payToCommon(number, part);
        }

        int longestDeal(int giver, int taker, int skill) {
            if (giver == taker || !areBothThere(giver, taker)) {
                return NONE;
            }
            int room = members[taker].balance + settings[DEBT_LIMIT];
            int rate = members[giver].dealRate(skill);
            if (room < 1 || rate < 1) {
                return NONE;
            }
            // a value is rounded down, so up to 9 tenths of a minute above the room still fit in
            return Math.min((10 * room + 9) / rate, MOST_DEAL_MINUTES);
        }

        int cheapestGiver(int taker, int skill, int minutes) {
            int best = NONE;
            for (int i = 0; i < came; i++) {
                if (i != taker && allowsDeal(i, taker, skill, minutes)
                        && (best == NONE || isCheaper(i, best, skill, minutes))) {
                    best = i;
                }
            }
            return best;
        }

        boolean isCheaper(int number, int than, int skill, int minutes) {
            int value = members[number].dealValue(skill, minutes);
            int otherValue = members[than].dealValue(skill, minutes);
            return value < otherValue
                    || value == otherValue && members[number].balance < members[than].balance;
        }

        int mostPractised(int skill) {
            int best = NONE;
            for (int i = 0; i < came; i++) {
                if (members[i].isThere
                        && (best == NONE || members[i].practice[skill] > members[best].practice[skill])) {
                    best = i;
                }
            }
            return best;
        }

        double valueOfMinute() {
            int value = 0;
            int minutes = 0;
            for (int i = 0; i < came; i++) {
                value += members[i].earned;
                minutes += members[i].minutesGiven;
            }
            return minutes == 0 ? 1.0 : (double) value / (double) minutes;
        }

        // -- weeks

        /** Answers the minutes that decay. */
        int endWeek() {
            week++;
            int sum = 0;
            for (int i = 0; i < came; i++) {
                if (members[i].isThere) {
                    sum += endWeekOf(i);
                }
            }
            return sum;
        }

        int endWeekOf(int number) {
            Member one = members[number];
            one.idleWeeks = one.isBusy ? 0 : one.idleWeeks + 1;
            one.isBusy = false;
            if (one.idleWeeks <= settings[HARMLESS_WEEKS]) {
                return 0;
            }
            int part = decayingPart(one.balance, settings[DECAY_PERCENT]);
            one.decayed += part;
            payToCommon(number, part);
            one.rust(settings[RUST]);
            return part;
        }

        int foreseenDecay(int number, int weeks) {
            Member one = members[number];
            if (!one.isThere) {
                return 0;
            }
            int idle = one.isBusy ? -1 : one.idleWeeks;
            int rest = one.balance;
            for (int i = 0; i < weeks; i++) {
                idle++;
                if (idle > settings[HARMLESS_WEEKS]) {
                    rest -= decayingPart(rest, settings[DECAY_PERCENT]);
                }
            }
            return one.balance - rest;
        }

        // -- forgiving

        boolean hasMotion() {
            return debtor != NONE;
        }

        boolean allowsMotion(int number, int minutes) {
            return members[number].isThere && !hasMotion() && -members[number].balance >= minutes;
        }

        void openMotion(int number, int minutes) {
            debtor = number;
            motionMinutes = minutes;
        }

        void dropMotion() {
            debtor = NONE;
            motionMinutes = 0;
            for (int i = 0; i < came; i++) {
                members[i].ballot = NO_VOTE;
            }
        }

        boolean canVote(int number) {
            return hasMotion() && number != debtor
                    && members[number].isThere && members[number].ballot == NO_VOTE;
        }

        int countBallots(int kind) {
            int sum = 0;
            for (int i = 0; i < came; i++) {
                if (members[i].ballot == kind) {
                    sum++;
                }
            }
            return sum;
        }

        /** How many others there are beside the one whose debt it is. */
        int countVoters() {
            return countThere() - 1;
        }

        /** Carries the motion or drops it, if the votes say so. */
        int settleMotion() {
            int voters = countVoters();
            if (countBallots(VOTE_FOR) * 2 > voters) {
                forgive();
                return MOTION_CARRIED;
            }
            if (voters > 0 && countBallots(VOTE_AGAINST) * 2 >= voters) {
                dropMotion();
                return MOTION_FAILED;
            }
            return MOTION_OPEN;
        }

        void forgive() {
            if (isMember(debtor)) {
                members[debtor].balance += motionMinutes;
                members[debtor].forgiven += motionMinutes;
                forgiven += motionMinutes;
            }
            dropMotion();
        }

        int missingVotes() {
            return hasMotion() ? countVoters() / 2 + 1 - countBallots(VOTE_FOR) : NONE;
        }

        // -- what there is

        int countThere() {
            int sum = 0;
            for (int i = 0; i < came; i++) {
                if (members[i].isThere) {
                    sum++;
                }
            }
            return sum;
        }

        int sumOfCredits() {
            int sum = 0;
            for (int i = 0; i < came; i++) {
                sum += Math.max(members[i].balance, 0);
            }
            return sum;
        }

        int sumOfDebts() {
            int sum = 0;
            for (int i = 0; i < came; i++) {
                sum += Math.min(members[i].balance, 0);
            }
            return sum;
        }

        int sumOfLoans() {
            int sum = 0;
            for (int i = 0; i < came; i++) {
                sum += members[i].loan;
            }
            return sum;
        }

        int memberProperty(int number, int what) {
            Member one = members[number];
            switch (what) {
                case 0: return one.isThere ? 1 : 0;
                case 1: return one.balance;
                case 2: return one.loan;
                case 3: return one.idleWeeks;
                case 4: return one.isBusy ? 1 : 0;
                case 5: return one.minutesGiven;
                case 6: return one.minutesTaken;
                case 7: return one.earned;
                case 8: return one.paid;
                case 9: return one.decayed;
                case 10: return one.forgiven;
                default: return canVote(number) ? 1 : 0;
            }
        }
    }

    /** The saved states, in a ring of rows made once, so that saving makes no objects. */
    private static final class History {
        final Bank[] states;
        int next;
        int kept;

        History() {
            states = new Bank[MOST_STATES];
            for (int i = 0; i < MOST_STATES; i++) {
                states[i] = new Bank();
            }
        }

        void keep(Bank bank) {
            states[next].copyFrom(bank);
            next = (next + 1) % MOST_STATES;
            kept = Math.min(kept + 1, MOST_STATES);
        }

        /** Whoever calls this has seen that a state is kept. */
        void restore(Bank bank) {
            next = (next + MOST_STATES - 1) % MOST_STATES;
            bank.copyFrom(states[next]);
            kept--;
        }
    }

    /** The buffer, and what its deals say. */
    private static final class DealText {
        final char[] signs;
        final DealReader reader;
        int size;

        DealText() {
            signs = new char[MOST_SIGNS];
            reader = new DealReader();
        }

        /** Whoever calls this has seen that there is room. */
        void addSign(char sign) {
            signs[size] = sign;
            size++;
        }

        /** Leaves the reader behind the last good sign. */
        int findError() {
            reader.restart();
            for (int i = 0; i < size; i++) {
                if (!reader.takes(signs[i])) {
                    return i;
                }
            }
            return size;
        }

        boolean isWholeRow() {
            return findError() == size && reader.isDealWhole();
        }

        /** For a whole row; answers how many deals were made. */
        int makeDeals(Bank bank) {
            int made = 0;
            reader.restart();
            for (int i = 0; i <= size; i++) {
                if (i == size || signs[i] == ';') {
                    if (!reader.makesDeal(bank)) {
                        return made;
                    }
                    made++;
                }
                if (i < size) {
                    reader.takes(signs[i]);
                }
            }
            return made;
        }
    }

    /** Reads a row of deals sign by sign. */
    private static final class DealReader {
        static final int AT_GIVER = 0;
        static final int AT_ARROW = 1;
        static final int AT_TAKER = 2;
        static final int AT_SKILL = 3;
        static final int AT_COLON = 4;
        static final int AT_MINUTES = 5;

        int place;
        int giver;
        int taker;
        int skill;
        int minutes;

        DealReader() {
            place = AT_GIVER;
        }

        void restart() {
            place = AT_GIVER;
            minutes = 0;
        }

        boolean isDealWhole() {
            return place == AT_MINUTES && minutes > 0;
        }

        /** Answers false, and stays where it is, if the sign is an error here. */
        boolean takes(char sign) {
            switch (place) {
                case AT_GIVER: return takesGiver(sign - 'a');
                case AT_ARROW: return takesMark(sign, '>');
                case AT_TAKER: return takesTaker(sign - 'a');
                case AT_SKILL: return takesSkill(sign - '0');
                case AT_COLON: return takesMark(sign, ':');
                default: return sign == ';' ? takesEnd() : takesDigit(sign - '0');
            }
        }

        boolean takesGiver(int number) {
            if (!isWithin(number, 0, MOST_MEMBERS - 1)) {
                return false;
            }
            giver = number;
            place = AT_ARROW;
            return true;
        }

        boolean takesMark(char sign, char due) {
            if (sign != due) {
                return false;
            }
            place++;
            return true;
        }

        boolean takesTaker(int number) {
            if (!isWithin(number, 0, MOST_MEMBERS - 1) || number == giver) {
                return false;
            }
            taker = number;
            place = AT_SKILL;
            return true;
        }

        boolean takesSkill(int number) {
            if (!isSkill(number)) {
                return false;
            }
            skill = number;
            place = AT_COLON;
            return true;
        }

        /** The range of the minutes refuses a leading zero too, as 0 is below it. */
        boolean takesDigit(int digit) {
            if (!isWithin(digit, 0, 9) || !isDealMinutes(minutes * 10 + digit)) {
                return false;
            }
            minutes = minutes * 10 + digit;
            return true;
        }

        boolean takesEnd() {
            if (!isDealWhole()) {
                return false;
            }
            restart();
            return true;
        }

        boolean makesDeal(Bank bank) {
            if (!bank.allowsDeal(giver, taker, skill, minutes)) {
                return false;
            }
            bank.makeDeal(giver, taker, skill, minutes);
            return true;
        }
    }
}
