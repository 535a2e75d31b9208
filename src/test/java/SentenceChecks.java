/**
 * What the tests of the document's sentences are written with: each sentence has a test of its own on
 * a new object, and a call that must throw must also leave all as it was.
 */
abstract class SentenceChecks {
    static final String INDEX = "IndexOutOfBoundsException";
    static final String ARGUMENT = "IllegalArgumentException";
    static final String STATE = "IllegalStateException";
    static final int NONE = -1;
    static final int LEAST = Integer.MIN_VALUE;
    static final int MOST = Integer.MAX_VALUE;

    /** Brings a new object to where a call is looked at. */
    interface Way {
        void lead(RipeHours bank);
    }

    /** The call that is looked at. */
    interface Call {
        long on(RipeHours bank);
    }

    /** The call that is looked at, with a number that may be out of its range. */
    interface NumberCall {
        long on(RipeHours bank, int number);
    }

    static RipeHours x;

    private static String sentence;
    private static int sentences;
    private static int wrong;

    static void holds(String text, Runnable test) {
        sentence = text;
        sentences++;
        x = new RipeHours();
        try {
            test.run();
        } catch (RuntimeException e) {
            report("a call that should answer: " + e + " at " + placeOf(e));
        }
    }

    static void end() {
        System.out.println(wrong == 0 ? sentences + " sentences hold" : wrong + " answers are not as due");
        if (wrong != 0) {
            System.exit(1);
        }
    }

    private static String placeOf(RuntimeException e) {
        for (StackTraceElement one : e.getStackTrace()) {
            if (!one.getClassName().startsWith("RipeHours$") && !one.getClassName().equals("RipeHours")) {
                return one.toString();
            }
        }
        return "no place";
    }

    private static void report(String what) {
        wrong++;
        System.out.println("\"" + sentence + "\": " + what);
    }

    static void due(String what, long got, long want) {
        if (got != want) {
            report(what + " is " + got + ", due is " + want);
        }
    }

    static void dueThrow(String what, String want, Call call) {
        String got = outcome(x, call);
        if (!got.equals(want)) {
            report(what + ": " + got + ", due is " + want);
        }
    }

    // ---- calls that throw, and those that are nearest to them

    static void nothingBefore(RipeHours bank) {
    }

    /** On a new object that goes this way, the call answers. */
    static void answers(long want, Way way, String name, Call call) {
        RipeHours bank = new RipeHours();
        way.lead(bank);
        String got = outcome(bank, call);
        if (!got.equals(String.valueOf(want))) {
            report(name + ": " + got + ", due is " + want);
        }
    }

    /** On a new object that goes this way, the call throws just that, and changes nothing. */
    static void refused(String want, Way way, String name, Call call) {
        refusedOnce(want, way, name, call);
        refusedOnce(want, bank -> {
            way.lead(bank);
            saveSixStates(bank);
        }, name + " with six saved states", call);
    }

    /** As refused(), but only where no more states are saved than this way saves. */
    static void refusedOnce(String want, Way way, String name, Call call) {
        RipeHours bank = new RipeHours();
        way.lead(bank);
        String got = outcome(bank, call);
        if (!got.equals(want)) {
            report(name + ": " + got + ", due is " + want);
        }
        RipeHours twin = new RipeHours();
        way.lead(twin);
        dueSame(name + " changes nothing", bank, twin);
    }

    /** The call answers, and changes nothing. */
    static void onlyTells(Way way, String name, Call call) {
        allowed(way, name, call);
        RipeHours bank = new RipeHours();
        way.lead(bank);
        saveSixStates(bank);
        outcome(bank, call);
        RipeHours twin = new RipeHours();
        way.lead(twin);
        saveSixStates(twin);
        dueSame(name + " changes nothing", bank, twin);
    }

    /** From the least to the most the call answers; next to them, and far away, it throws just that. */
    static void range(String want, int least, int most, Way way, String name, NumberCall call) {
        int[] outside = {least - 1, LEAST, LEAST + 1, most + 1, MOST, MOST - 1};
        for (int number : outside) {
            refused(want, way, name + " with " + number, bank -> call.on(bank, number));
        }
        int[] inside = {least, most};
        for (int number : inside) {
            allowed(way, name + " with " + number, bank -> call.on(bank, number));
        }
    }

    /** On a new object that goes this way, the call answers, whatever it is. */
    static void allowed(Way way, String name, Call call) {
        RipeHours bank = new RipeHours();
        way.lead(bank);
        String got = outcome(bank, call);
        if (got.endsWith("Exception")) {
            report(name + ": " + got);
        }
    }

    static String outcome(RipeHours bank, Call call) {
        try {
            return String.valueOf(call.on(bank));
        } catch (RuntimeException e) {
            return e.getClass().getSimpleName();
        }
    }

    /** Six states that differ, so that one that is saved or dropped by mistake is seen; else all stays. */
    static void saveSixStates(RipeHours bank) {
        int rust = bank.setting(4);
        for (int i = 1; i < 6; i++) {
            bank.set(4, (rust + i) % 301);
        }
        bank.set(4, rust);
    }

    /** Both objects show the same, now and with each undo(); the digest shows all that can be seen. */
    static void dueSame(String what, RipeHours one, RipeHours other) {
        if (one.digest() != other.digest()) {
            report(what + ": the digests differ");
            return;
        }
        int saved = one.count(13);
        for (int i = 1; i <= saved; i++) {
            one.undo();
            other.undo();
            if (one.digest() != other.digest()) {
                report(what + ": the digests differ after undo() number " + i);
                return;
            }
        }
    }

    // ---- short ways

    static void join(RipeHours bank, int members) {
        for (int i = 0; i < members; i++) {
            bank.join();
        }
    }

    /** So many members without a loan. */
    static void joinBare(RipeHours bank, int members) {
        bank.set(1, 0);
        join(bank, members);
    }

    static void type(RipeHours bank, String signs) {
        for (int i = 0; i < signs.length(); i++) {
            bank.append(signs.charAt(i));
        }
    }

    /** Makes the member 0 practise a skill; what it is worth is shared out to the members 1 and 2. */
    static void practise(RipeHours bank, int skill, int minutes) {
        int taker = 1;
        for (int left = minutes; left > 0; left -= 600) {
            bank.give(0, taker, skill, Math.min(600, left));
            taker = 3 - taker;
        }
    }

    static void passWeeks(RipeHours bank, int weeks) {
        for (int left = weeks; left > 0; left -= 50) {
            bank.pass(Math.min(50, left));
        }
    }

    static int balance(int member) {
        return x.member(member, 1);
    }

    static int loan(int member) {
        return x.member(member, 2);
    }

    static int practice(int member, int skill) {
        return x.skill(member, skill, 0);
    }

    static void dueMotion(int member, int minutes, int votesFor, int votesAgainst) {
        due("the member of the motion", x.count(9), member);
        due("the minutes of the motion", x.count(10), minutes);
        due("votes for it", x.count(11), votesFor);
        due("votes against it", x.count(12), votesAgainst);
    }

    static void dueNoMotion() {
        dueMotion(NONE, 0, 0, 0);
    }
}
