import java.util.function.LongSupplier;

/** The promises of the document one by one, with their edges and their exceptions, by hand. */
public final class RipeHoursPromisesTest {
    private static final String INDEX = "IndexOutOfBoundsException";
    private static final String ARGUMENT = "IllegalArgumentException";
    private static final String STATE = "IllegalStateException";
    private static final int NONE = -1;

    private static int wrong = 0;
    private static int promise = 0;
    private static RipeHours x;

    public static void main(String[] args) {
        promise(1); newObject();
        promise(2); joining();
        promise(3); leaving();
        promise(3); leavingVoters();
        promise(4); giving();
        promise(4); givingWithLoans();
        promise(4); givingAtTheLimits();
        promise(5); donating();
        promise(6); passing();
        promise(6); passingAtTheLimits();
        promise(7); setting();
        promise(8); moving();
        promise(9); voting();
        promise(9); votingAfterAGift();
        promise(10); takingBack();
        promise(11); appending();
        promise(12); clearing();
        promise(13); findingErrors();
        promise(14); running();
        promise(14); runningWhatIsRefused();
        promise(15); undoing();
        promise(15); undoingWhatIsCounted();
        promise(16); memberProperties();
        promise(17); skills();
        promise(18); counts();
        promise(19); settings();
        promise(20); worths();
        promise(21); longestDeals();
        promise(22); cheapestGivers();
        promise(23); decays();
        promise(24); neededVotes();
        promise(25); ripestMembers();
        promise(26); worthOfMinutes();
        promise(27); digests();
        System.out.println(wrong == 0 ? "the promises hold" : wrong + " answers are not as due");
        if (wrong != 0) {
            System.exit(1);
        }
    }

    // ---- what the tests are written with

    private static void promise(int number) {
        promise = number;
        x = new RipeHours();
    }

    private static void due(String call, long got, long want) {
        if (got != want) {
            wrong++;
            System.out.println("promise " + promise + ": " + call + " answered " + got + ", due is " + want);
        }
    }

    /** The call must throw just that, and leave the whole state as it was. */
    private static void dueThrow(String call, String want, LongSupplier one) {
        long before = x.digest();
        String got;
        try {
            got = "answered " + one.getAsLong();
        } catch (RuntimeException e) {
            got = e.getClass().getSimpleName();
        }
        if (!got.equals(want)) {
            wrong++;
            System.out.println("promise " + promise + ": " + call + ": " + got + ", due is " + want);
        }
        due(call + " leaves the digest", x.digest(), before);
    }

    private static void join(int members) {
        for (int i = 0; i < members; i++) {
            x.join();
        }
    }

    /** So many members without a loan. */
    private static void joinBare(int members) {
        x.set(1, 0);
        join(members);
    }

    private static void type(String signs) {
        for (int i = 0; i < signs.length(); i++) {
            x.append(signs.charAt(i));
        }
    }

    private static int errorOf(String signs) {
        x = new RipeHours();
        type(signs);
        return x.firstError();
    }

    private static void passWeeks(int weeks) {
        for (int left = weeks; left > 0; left -= 50) {
            x.pass(Math.min(50, left));
        }
    }

    private static void dueMember(int number, int... properties) {
        for (int i = 0; i < properties.length; i++) {
            due("member(" + number + ", " + i + ")", x.member(number, i), properties[i]);
        }
    }

    private static void dueCounts(int... numbers) {
        for (int i = 0; i < numbers.length; i++) {
            due("count(" + i + ")", x.count(i), numbers[i]);
        }
    }

    private static void dueMotion(int member, int minutes, int votesFor, int votesAgainst) {
        due("count(9)", x.count(9), member);
        due("count(10)", x.count(10), minutes);
        due("count(11)", x.count(11), votesFor);
        due("count(12)", x.count(12), votesAgainst);
    }

    // ---- the promises

    private static void newObject() {
        dueCounts(0, 0, 0, 0, 0, 0, 0, 0, 0, NONE, 0, 0, 0, 0);
        int[] first = {600, 120, 4, 10, 30};
        for (int i = 0; i < first.length; i++) {
            due("setting(" + i + ")", x.setting(i), first[i]);
        }
        due("clearBuffer()", x.clearBuffer(), 0);
        due("firstError()", x.firstError(), 0);
        due("votesNeeded()", x.votesNeeded(), NONE);
        due("NONE", RipeHours.NONE, NONE);
        dueThrow("undo()", STATE, () -> x.undo());
        dueThrow("member(0, 0)", INDEX, () -> x.member(0, 0));
        RipeHours other = new RipeHours();
        other.join();
        due("members of another object", x.count(0), 0);
    }

    private static void joining() {
        due("join()", x.join(), 0);
        dueMember(0, 1, 120, 120, 0, 0, 0, 0, 0, 0, 0, 0, 0);
        due("the common account", x.count(2), -120);
        x.set(1, 0);
        due("join()", x.join(), 1);
        dueMember(1, 1, 0, 0, 0);
        due("the common account", x.count(2), -120);
        x.set(1, 999);
        due("join()", x.join(), 2);
        dueMember(2, 1, 999, 999);
        due("the common account", x.count(2), -1119);
        for (int i = 0; i < 5; i++) {
            due("practice", x.skill(2, i, 0), 0);
        }
        x.leave(1);
        for (int i = 3; i < 8; i++) {
            due("join()", x.join(), i);
        }
        due("saved states", x.count(13), 6);
        dueThrow("join() of a ninth", STATE, () -> x.join());
        x.leave(7);
        dueThrow("join() where one has left", STATE, () -> x.join());
    }

    private static void leaving() {
        dueThrow("leave(0) of nobody", INDEX, () -> x.leave(0));
        join(3);
        x.give(0, 1, 2, 90);
        dueThrow("leave(-1)", INDEX, () -> x.leave(-1));
        dueThrow("leave(3)", INDEX, () -> x.leave(3));
        due("leave(0)", x.leave(0), 165);
        dueMember(0, 0, 0, 0, 0, 1, 90, 0, 90, 0, 0, 0, 0);
        due("the practice stays", x.skill(0, 2, 0), 90);
        due("the common account", x.count(2), -360 + 45 + 165);
        due("loans", x.count(8), 240);
        dueThrow("leave(0) again", STATE, () -> x.leave(0));
        x.give(2, 1, 0, 31);
        due("balance", x.member(1, 1), -1);
        dueThrow("leave(1) with a debt", STATE, () -> x.leave(1));
        x.give(1, 2, 0, 1);
        due("leave(1) with 0", x.leave(1), 0);
        due("who are there", x.count(1), 1);
        due("who came", x.count(0), 3);
        x.pass(1);
        dueMember(0, 0, 0, 0, 0, 1);
    }

    private static void leavingVoters() {
        joinBare(6);
        x.give(1, 0, 0, 100);
        x.move(0, 100);
        due("vote(1, true)", x.vote(1, true) , 0);
        due("vote(2, true)", x.vote(2, true), 0);
        due("vote(3, false)", x.vote(3, false), 0);
        x.leave(1);
        dueMotion(0, 100, 1, 1);
        due("votesNeeded()", x.votesNeeded(), 2);
        x.leave(3);
        dueMotion(0, 100, 1, 0);
        due("member(4, 11)", x.member(4, 11), 1);
        due("leave(4) answers the balance", x.leave(4), 0);
        dueMotion(0, 100, 1, 0);
        x.leave(5);
        dueMotion(NONE, 0, 0, 0);
        due("carried by leaving", x.member(0, 10), 100);
        due("balance", x.member(0, 1), 0);
        due("forgiven", x.count(3), 100);

        x = new RipeHours();
        joinBare(4);
        x.give(1, 0, 0, 10);
        x.move(0, 10);
        x.vote(1, false);
        dueMotion(0, 10, 0, 1);
        x.leave(3);
        dueMotion(NONE, 0, 0, 0);
        due("failed by leaving", x.member(0, 1), -10);

        x = new RipeHours();
        joinBare(2);
        x.give(1, 0, 0, 10);
        x.move(0, 10);
        x.leave(1);
        dueMotion(0, 10, 0, 0);
        due("votesNeeded() without others", x.votesNeeded(), 1);
        joinBare(1);
        x.give(0, 2, 0, 10);
        x.leave(0);
        dueMotion(NONE, 0, 0, 0);
        due("nothing is forgiven", x.count(3), 0);
    }

    private static void giving() {
        joinBare(3);
        dueThrow("give(3, 0, 0, 1)", INDEX, () -> x.give(3, 0, 0, 1));
        dueThrow("give(0, 3, 0, 1)", INDEX, () -> x.give(0, 3, 0, 1));
        dueThrow("give(-1, 0, 0, 1)", INDEX, () -> x.give(-1, 0, 0, 1));
        dueThrow("give(0, -1, 0, 1)", INDEX, () -> x.give(0, -1, 0, 1));
        dueThrow("give(0, 1, 5, 1)", INDEX, () -> x.give(0, 1, 5, 1));
        dueThrow("give(0, 1, -1, 1)", INDEX, () -> x.give(0, 1, -1, 1));
        dueThrow("give(0, 0, 5, 0)", INDEX, () -> x.give(0, 0, 5, 0));
        dueThrow("give(0, 0, 0, 1)", ARGUMENT, () -> x.give(0, 0, 0, 1));
        dueThrow("give(0, 1, 0, 0)", ARGUMENT, () -> x.give(0, 1, 0, 0));
        dueThrow("give(0, 1, 0, 601)", ARGUMENT, () -> x.give(0, 1, 0, 601));
        due("give(0, 1, 4, 299)", x.give(0, 1, 4, 299), 299);
        due("give(0, 1, 4, 1)", x.give(0, 1, 4, 1), 1);
        dueMember(0, 1, 300, 0, 0, 1, 300, 0, 300, 0, 0, 0, 0);
        dueMember(1, 1, -300, 0, 0, 1, 0, 300, 0, 300, 0, 0, 0);
        dueMember(2, 1, 0, 0, 0, 0, 0, 0, 0, 0, 0, 0, 0);
        due("practice of the giver", x.skill(0, 4, 0), 300);
        due("practice of the taker", x.skill(1, 4, 0), 0);
        due("practice of another skill", x.skill(0, 3, 0), 0);
        due("rounded down", x.give(0, 1, 4, 19), 20);
        due("another skill", x.give(0, 1, 3, 19), 19);
        due("deals", x.count(5), 4);
        x.leave(2);
        dueThrow("give(2, 1, 0, 1) by one who has left", STATE, () -> x.give(2, 1, 0, 1));
        dueThrow("give(0, 2, 0, 1) to one who has left", STATE, () -> x.give(0, 2, 0, 1));
        dueThrow("give(2, 2, 0, 1)", ARGUMENT, () -> x.give(2, 2, 0, 1));
        dueThrow("give(2, 1, 0, 601)", ARGUMENT, () -> x.give(2, 1, 0, 601));
    }

    private static void givingWithLoans() {
        join(2);
        x.give(0, 1, 0, 31);
        dueMember(0, 1, 120 + 16, 105, 0, 1, 31, 0, 31);
        dueMember(1, 1, 120 - 31, 120);
        due("the common account", x.count(2), -240 + 15);
        x.give(0, 1, 0, 1);
        due("half of 1", x.member(0, 2), 105);
        x.give(0, 1, 0, 300);
        dueMember(0, 1, 137 + 195, 0, 0, 1, 332, 0, 332);
        due("the common account", x.count(2), -120);
        x.give(0, 1, 1, 100);
        dueMember(0, 1, 432, 0);
        due("loans", x.count(8), 120);
    }

    private static void givingAtTheLimits() {
        joinBare(2);
        due("up to the limit", x.give(0, 1, 0, 600), 600);
        dueThrow("above the limit", STATE, () -> x.give(0, 1, 1, 1));
        x.set(0, 601);
        due("up to the new limit", x.give(0, 1, 1, 1), 1);
        x.set(0, 9);
        dueThrow("deep below the limit", STATE, () -> x.give(0, 1, 1, 1));
        due("who owes can give", x.give(1, 0, 0, 600), 600);
        x.set(0, 9999);
        for (int i = 0; i < 16; i++) {
            x.give(0, 1, 2, 600);
            x.move(1, -x.member(1, 1));
            x.vote(0, true);
        }
        due("practice", x.skill(0, 2, 0), 9600);
        x.give(0, 1, 2, 399);
        due("practice", x.skill(0, 2, 0), 9999);
        due("19 tenths", x.give(0, 1, 2, 600), 1140);
        due("practice", x.skill(0, 2, 0), 9999);
        due("minutes given", x.member(0, 5), 601 + 16 * 600 + 399 + 600);
    }

    private static void donating() {
        dueThrow("donate(0, 0) of nobody", INDEX, () -> x.donate(0, 0));
        join(2);
        dueThrow("donate(2, 1)", INDEX, () -> x.donate(2, 1));
        dueThrow("donate(-1, 1)", INDEX, () -> x.donate(-1, 1));
        dueThrow("donate(0, 0)", ARGUMENT, () -> x.donate(0, 0));
        dueThrow("donate(0, 1000)", ARGUMENT, () -> x.donate(0, 1000));
        dueThrow("donate(0, 121)", STATE, () -> x.donate(0, 121));
        due("donate(0, 1)", x.donate(0, 1), 119);
        due("donate(0, 119)", x.donate(0, 119), 0);
        dueMember(0, 1, 0, 120, 0, 0, 0, 0, 0, 0, 0, 0, 0);
        due("the common account", x.count(2), -120);
        x.leave(0);
        dueThrow("donate(0, 1) of one who has left", STATE, () -> x.donate(0, 1));
        dueThrow("donate(0, 1000)", ARGUMENT, () -> x.donate(0, 1000));
        x.set(1, 999);
        x.join();
        due("donate(2, 999)", x.donate(2, 999), 0);
        due("saved states", x.count(13), 6);
    }

    private static void passing() {
        dueThrow("pass(0)", ARGUMENT, () -> x.pass(0));
        dueThrow("pass(-1)", ARGUMENT, () -> x.pass(-1));
        dueThrow("pass(51)", ARGUMENT, () -> x.pass(51));
        joinBare(4);
        x.give(0, 1, 0, 155);
        x.give(0, 1, 1, 30);
        x.leave(3);
        due("the busy week", x.pass(1), 0);
        dueMember(0, 1, 185, 0, 0, 0);
        dueMember(2, 1, 0, 0, 1, 0);
        due("the harmless weeks", x.pass(4), 0);
        dueMember(0, 1, 185, 0, 4, 0);
        due("practice", x.skill(0, 0, 0), 155);
        due("the week of decay", x.pass(1), 18);
        dueMember(0, 1, 167, 0, 5, 0, 185, 0, 185, 0, 18);
        dueMember(1, 1, -185, 0, 5, 0, 0, 185, 0, 185, 0);
        dueMember(3, 0, 0, 0, 0);
        due("practice", x.skill(0, 0, 0), 125);
        due("practice", x.skill(0, 1, 0), 0);
        due("the common account", x.count(2), 18);
        due("two weeks", x.pass(2), 16 + 15);
        due("decayed", x.member(0, 9), 49);
        due("practice", x.skill(0, 0, 0), 65);
        x.give(2, 0, 0, 1);
        due("busy again", x.pass(4), 0);
        dueMember(0, 1, 135, 0, 3);
        due("number of the week", x.count(4), 12);
        x.pass(50);
        due("practice at 0", x.skill(0, 0, 0), 0);
        due("what is too little to decay", x.member(0, 1), 9);
        x.set(3, 100);
        x.donate(0, 8);
        due("the last minute decays", x.decayIn(0, 1), 1);
        due("the last minutes of two decay", x.pass(1), 2);
        due("saved states", x.count(13), 6);

        x = new RipeHours();
        join(8);
        due("all of eight members", x.pass(5), 96);
        dueMember(7, 1, 108, 120, 5);
    }

    private static void passingAtTheLimits() {
        joinBare(2);
        x.give(0, 1, 0, 500);
        x.set(2, 0);
        x.set(3, 100);
        x.set(4, 300);
        due("busy", x.pass(1), 0);
        due("idle at once", x.pass(1), 500);
        due("practice", x.skill(0, 0, 0), 200);
        x.set(2, 20);
        x.give(1, 0, 0, 1);
        x.pass(21);
        due("idle weeks", x.member(1, 3), 20);
        due("practice", x.skill(0, 0, 0), 200);
        x.pass(1);
        due("practice", x.skill(0, 0, 0), 0);
        passWeeks(1950 - x.count(4));
        due("pass(49)", x.pass(49), 0);
        dueThrow("pass(2) above 2000", STATE, () -> x.pass(2));
        dueThrow("pass(50) above 2000", STATE, () -> x.pass(50));
        dueThrow("pass(51) above 2000", ARGUMENT, () -> x.pass(51));
        due("pass(1) to 2000", x.pass(1), 0);
        due("number of the week", x.count(4), 2000);
        dueThrow("pass(1) above 2000", STATE, () -> x.pass(1));
    }

    private static void setting() {
        int[] first = {600, 120, 4, 10, 30};
        int[] most = {9999, 999, 20, 100, 300};
        dueThrow("set(-1, 0)", INDEX, () -> x.set(-1, 0));
        dueThrow("set(5, 0)", INDEX, () -> x.set(5, 0));
        dueThrow("set(5, -1)", INDEX, () -> x.set(5, -1));
        for (int i = 0; i < 5; i++) {
            int number = i;
            int above = most[i] + 1;
            dueThrow("set(" + i + ", -1)", ARGUMENT, () -> x.set(number, -1));
            dueThrow("set(" + i + ", " + above + ")", ARGUMENT, () -> x.set(number, above));
            due("set(" + i + ", 0)", x.set(i, 0), first[i]);
            due("set(" + i + ", the most)", x.set(i, most[i]), 0);
            due("setting(" + i + ")", x.setting(i), most[i]);
        }
        due("saved states", x.count(13), 6);
        due("set(2, 20) again", x.set(2, 20), 20);
    }

    private static void moving() {
        dueThrow("move(0, 0) of nobody", INDEX, () -> x.move(0, 0));
        joinBare(4);
        x.give(1, 0, 0, 50);
        dueThrow("move(-1, 1)", INDEX, () -> x.move(-1, 1));
        dueThrow("move(4, 1)", INDEX, () -> x.move(4, 1));
        dueThrow("move(0, 0)", ARGUMENT, () -> x.move(0, 0));
        dueThrow("move(0, least)", ARGUMENT, () -> x.move(0, Integer.MIN_VALUE));
        dueThrow("move(0, 51)", STATE, () -> x.move(0, 51));
        dueThrow("move(0, most)", STATE, () -> x.move(0, Integer.MAX_VALUE));
        dueThrow("move(1, 1) with a credit", STATE, () -> x.move(1, 1));
        dueThrow("move(2, 1) with 0", STATE, () -> x.move(2, 1));
        x.leave(3);
        dueThrow("move(3, 1) of one who has left", STATE, () -> x.move(3, 1));
        due("move(0, 50)", x.move(0, 50), 2);
        dueMotion(0, 50, 0, 0);
        due("balance", x.member(0, 1), -50);
        dueThrow("move(0, 1) with a motion", STATE, () -> x.move(0, 1));
        dueThrow("move(0, 0) with a motion", ARGUMENT, () -> x.move(0, 0));

        x = new RipeHours();
        joinBare(2);
        x.give(1, 0, 0, 50);
        x.leave(1);
        due("move(0, 1) without others", x.move(0, 1), 0);
        dueMotion(0, 1, 0, 0);
        x.pass(50);
        dueMotion(0, 1, 0, 0);
        dueThrow("vote(0, true)", STATE, () -> x.vote(0, true));
        x.join();
        due("vote of one who came later", x.vote(2, true), 1);
        due("balance", x.member(0, 1), -49);
    }

    private static void voting() {
        dueThrow("vote(0, true) of nobody", INDEX, () -> x.vote(0, true));
        joinBare(6);
        x.give(1, 0, 0, 50);
        dueThrow("vote(-1, true)", INDEX, () -> x.vote(-1, true));
        dueThrow("vote(6, true)", INDEX, () -> x.vote(6, true));
        dueThrow("vote(1, true) without a motion", STATE, () -> x.vote(1, true));
        x.leave(5);
        x.move(0, 20);
        dueThrow("vote(0, true) of the one", STATE, () -> x.vote(0, true));
        dueThrow("vote(5, true) of one who has left", STATE, () -> x.vote(5, true));
        due("vote(1, true)", x.vote(1, true), 0);
        dueThrow("vote(1, false) again", STATE, () -> x.vote(1, false));
        due("vote(2, true)", x.vote(2, true), 0);
        dueMotion(0, 20, 2, 0);
        due("vote(3, false)", x.vote(3, false), 0);
        due("vote(4, true)", x.vote(4, true), 1);
        dueMotion(NONE, 0, 0, 0);
        dueMember(0, 1, -30, 0, 0, 1, 0, 50, 0, 50, 0, 20, 0);
        due("the sum that was forgiven", x.count(3), 20);
        due("the common account", x.count(2), 0);
        dueThrow("vote(2, true) when it is gone", STATE, () -> x.vote(2, true));

        x.move(0, 30);
        due("vote(1, false) in a new motion", x.vote(1, false), 0);
        due("vote(2, false), half of 4", x.vote(2, false), 2);
        dueMotion(NONE, 0, 0, 0);
        due("balance", x.member(0, 1), -30);
        x.leave(4);
        x.move(0, 30);
        due("vote(1, false), one of 3", x.vote(1, false), 0);
        due("vote(2, true), one of 3", x.vote(2, true), 0);
        due("vote(3, true), two of 3", x.vote(3, true), 1);
        due("forgiven", x.member(0, 10), 50);
        due("the sum that was forgiven", x.count(3), 50);
        due("saved states", x.count(13), 6);

        x = new RipeHours();
        joinBare(2);
        x.give(0, 1, 0, 50);
        x.move(1, 50);
        due("saved states", x.count(13), 5);
        due("vote(0, false), the only other one", x.vote(0, false), 2);
        due("saved states", x.count(13), 6);
        dueMotion(NONE, 0, 0, 0);
        x.move(1, 50);
        due("vote(0, true), the only other one", x.vote(0, true), 1);
        due("balance", x.member(1, 1), 0);
    }

    private static void votingAfterAGift() {
        joinBare(2);
        x.give(1, 0, 0, 50);
        x.move(0, 50);
        x.give(0, 1, 0, 80);
        due("not a debt any more", x.member(0, 1), 30);
        due("vote(1, true)", x.vote(1, true), 1);
        due("forgiven whatever the balance is", x.member(0, 1), 80);
        due("votes of one", x.member(0, 10), 50);
    }

    private static void takingBack() {
        dueThrow("takeBack()", STATE, () -> x.takeBack());
        joinBare(6);
        x.give(1, 0, 0, 50);
        x.move(0, 50);
        due("takeBack() of nobody's votes", x.takeBack(), 0);
        dueMotion(NONE, 0, 0, 0);
        dueThrow("takeBack()", STATE, () -> x.takeBack());
        x.move(0, 50);
        x.vote(1, true);
        x.vote(2, false);
        x.vote(3, true);
        x.leave(2);
        due("takeBack()", x.takeBack(), 2);
        dueMotion(NONE, 0, 0, 0);
        due("balance", x.member(0, 1), -50);
        x.move(0, 50);
        due("member(1, 11)", x.member(1, 11), 1);
        x.vote(1, false);
        x.vote(3, true);
        due("takeBack() of one vote for it and one against it", x.takeBack(), 2);
        x.move(0, 50);
        due("takeBack() again", x.takeBack(), 0);
        due("saved states", x.count(13), 6);
        x.undo();
        dueMotion(0, 50, 0, 0);
    }

    private static void appending() {
        dueThrow("append(32)", ARGUMENT, () -> x.append(32));
        dueThrow("append(127)", ARGUMENT, () -> x.append(127));
        dueThrow("append(-1)", ARGUMENT, () -> x.append(-1));
        dueThrow("append(65536 + 97)", ARGUMENT, () -> x.append(65536 + 97));
        due("append(33)", x.append(33), 1);
        due("append(126)", x.append(126), 2);
        for (int i = 3; i <= 60; i++) {
            due("append(97)", x.append(97), i);
        }
        dueThrow("append(97) to 60", STATE, () -> x.append(97));
        dueThrow("append(127) to 60", ARGUMENT, () -> x.append(127));
        due("not undoable", x.count(13), 0);
        due("clearBuffer()", x.clearBuffer(), 60);
        due("append(97) after that", x.append(97), 1);
    }

    private static void clearing() {
        due("clearBuffer()", x.clearBuffer(), 0);
        type("a>b");
        due("clearBuffer()", x.clearBuffer(), 3);
        due("clearBuffer()", x.clearBuffer(), 0);
        due("not undoable", x.count(13), 0);
        type("b>a0:1");
        due("firstError()", x.firstError(), 6);
    }

    private static void findingErrors() {
        due("nothing", errorOf(""), 0);
        String[] good = {"a", "a>", "a>b", "a>b0", "a>b0:", "a>b0:1", "a>b0:6", "h>g4:60", "h>g4:600", "b>a4:69",
            "a>b0:99", "a>b0:599", "a>b0:100", "a>b0:1;", "a>b0:1;c", "a>b0:1;b>a1:2;c>d2:30;e>f3:400;g>h4:5"};
        for (String signs : good) {
            due("firstError() of " + signs, errorOf(signs), signs.length());
        }
        String[] bad = {"i", "A", "`", ">", ";", "1", "ab", "a>a", "h>h", "a>i", "a>`", "a>1", "a>b5", "a>b/", "a>bb",
            "a>b0;", "a>b01", "a>b0:0", "a>b0:;", "a>b0::", "a>b0:a", "a>b0:601", "a>b0:61" + "0", "a>b0:700",
            "a>b0:6000", "a>b0:1000", "a>b0:1:", "a>b0:1/", "a>b0:1>", "a>b0:1;;", "a>b0:1;b>b", "a>b0:1;b>a0:0",
            "a>b0:600;a>b0:601", "a>b0:1;1"};
        for (String signs : bad) {
            due("firstError() of " + signs, errorOf(signs), signs.length() - 1);
            if (signs.length() < 40) {
                due("firstError() of " + signs + "a>b", errorOf(signs + "a>b"), signs.length() - 1);
            }
        }
        String sixty = "a>b0:100;a>b0:100;a>b0:100;a>b0:100;a>b0:100;a>b0:100;a>b0:1";
        due("firstError() of 60 signs", errorOf(sixty), 60);
        due("firstError() of 60 signs, the last one wrong", errorOf(sixty.substring(0, 59) + "x"), 59);
        due("the buffer stays", x.clearBuffer(), 60);
        due("not undoable", x.count(13), 0);
    }

    private static void running() {
        joinBare(3);
        String[] incomplete = {"", "a", "a>", "a>b", "a>b0", "a>b0:", "a>b0:1;", "a>b0:1;b", "x", "a>b0:0", "a>b0:1x",
            "a>b0:601"};
        for (String signs : incomplete) {
            x.clearBuffer();
            type(signs);
            dueThrow("run() of " + signs, ARGUMENT, () -> x.run());
        }
        x.clearBuffer();
        type("a>b0:300;a>b0:10;c>a4:7");
        int saved = x.count(13);
        due("run()", x.run(), 3);
        due("saved as one call", x.count(13), saved + 1);
        due("the buffer is clear", x.clearBuffer(), 0);
        dueMember(0, 1, 304, 0, 0, 1, 310, 7, 311, 7);
        dueMember(1, 1, -311, 0, 0, 1, 0, 310, 0, 311);
        dueMember(2, 1, 7, 0, 0, 1, 7, 0, 7, 0);
        due("practice", x.skill(0, 0, 0), 310);
        due("practice", x.skill(2, 4, 0), 7);
        due("deals", x.count(5), 3);
        type("a>b0:1");
        x.undo();
        due("deals after undo()", x.count(5), 0);
        due("balance after undo()", x.member(0, 1), 0);
        due("undo() lets the buffer be", x.clearBuffer(), 6);
        type("a>b0:100;a>b0:100;a>b0:100;b>a0:100;b>a0:100;b>c0:10;c>a0:12");
        due("firstError()", x.firstError(), 60);
        due("run() of 60 signs", x.run(), 7);
        due("balance", x.member(0, 1), 300 - 200 - 12);
        due("balance", x.member(1, 1), 200 + 10 - 300);
        due("balance", x.member(2, 1), 12 - 10);
    }

    private static void runningWhatIsRefused() {
        type("a>b0:1");
        due("run() without members", x.run(), 0);
        due("undoable, also if none is made", x.count(13), 1);
        joinBare(3);
        type("a>b0:600;b>a1:1;a>b0:3;a>c0:1");
        due("run() up to the limit", x.run(), 2);
        due("balance", x.member(1, 1), -599);
        due("the one behind is not made", x.member(2, 6), 0);
        due("the buffer is clear", x.clearBuffer(), 0);
        type("c>a0:5;a>d0:1;c>a0:5");
        due("run() up to one who never came", x.run(), 1);
        type("h>a0:5");
        due("run() of one who never came", x.run(), 0);
        due("balance", x.member(2, 1), 5);
        x.leave(2);
        type("c>a0:5");
        due("run() of one who has left", x.run(), 0);
        x.set(0, 9999);
        type("a>b2:1;c>a0:5;a>b2:1");
        due("run() up to one who has left", x.run(), 1);
        type("a>c2:1");
        due("run() for one who has left", x.run(), 0);
    }

    private static void undoing() {
        dueThrow("undo()", STATE, () -> x.undo());
        long[] digests = new long[9];
        for (int i = 0; i < 9; i++) {
            digests[i] = digestWithoutSaved();
            x.set(0, i);
            due("saved states", x.count(13), Math.min(6, i + 1));
        }
        for (int left = 5; left >= 0; left--) {
            due("undo()", x.undo(), left);
            due("the state before", digestWithoutSaved(), digests[3 + left]);
        }
        due("the oldest that was kept", x.setting(0), 2);
        dueThrow("undo()", STATE, () -> x.undo());
        x.set(0, 2);
        due("saved, also if nothing changes", x.count(13), 1);
        due("undo()", x.undo(), 0);
        type("a>b");
        x.join();
        type("0");
        x.undo();
        due("the buffer stays", x.clearBuffer(), 4);
        for (int i = 0; i < 4; i++) {
            x.join();
        }
        due("undo()", x.undo(), 3);
        due("undo()", x.undo(), 2);
        x.set(3, 7);
        due("saved states", x.count(13), 3);
        due("undo()", x.undo(), 2);
        due("members", x.count(0), 2);
        due("setting(3)", x.setting(3), 10);
    }

    /** What one can see of the state but the number of the saved states, which undo doesn't bring back. */
    private static long digestWithoutSaved() {
        long hash = 0;
        for (int i = 0; i < 13; i++) {
            hash = hash * 31 + x.count(i);
        }
        for (int i = 0; i < 5; i++) {
            hash = hash * 31 + x.setting(i);
        }
        for (int m = 0; m < x.count(0); m++) {
            for (int i = 0; i < 12; i++) {
                hash = hash * 31 + x.member(m, i);
            }
            for (int i = 0; i < 5; i++) {
                hash = hash * 31 + x.skill(m, i, 0);
            }
        }
        return hash;
    }

    private static void voteOfFour() {
        x = new RipeHours();
        join(4);
        x.give(0, 1, 0, 310);
        x.give(2, 1, 1, 10);
        x.pass(2);
        x.move(1, 200);
        x.vote(0, true);
    }

    private static void undoingWhatIsCounted() {
        Runnable[] calls = {() -> x.vote(2, true), () -> x.vote(2, false), () -> x.takeBack(), () -> x.leave(0),
            () -> x.leave(2), () -> x.donate(2, 3), () -> x.pass(9), () -> x.give(3, 0, 2, 77), () -> x.join(),
            () -> x.set(4, 5), () -> x.set(0, 5), () -> runText("a>c0:5;b>a1:9")};
        for (int i = 0; i < calls.length; i++) {
            voteOfFour();
            long before = digestWithoutSaved();
            calls[i].run();
            x.undo();
            due("undo() of call " + i, digestWithoutSaved(), before);
            calls[i].run();
            x.undo();
            due("undo() of call " + i + ", twice", digestWithoutSaved(), before);
            due("vote after undo()", x.vote(2, true), 1);
        }
    }

    private static void runText(String signs) {
        type(signs);
        x.run();
    }

    private static void memberProperties() {
        dueThrow("member(0, 12) of nobody", INDEX, () -> x.member(0, 12));
        join(3);
        dueThrow("member(-1, 0)", INDEX, () -> x.member(-1, 0));
        dueThrow("member(3, 0)", INDEX, () -> x.member(3, 0));
        dueThrow("member(3, -1)", INDEX, () -> x.member(3, -1));
        dueThrow("member(0, -1)", ARGUMENT, () -> x.member(0, -1));
        dueThrow("member(0, 12)", ARGUMENT, () -> x.member(0, 12));
        x.give(0, 1, 0, 200);
        x.pass(7);
        x.move(1, 80);
        x.give(2, 0, 0, 11);
        dueMember(0, 1, 220 - 22 - 19 - 11, 20, 6, 1, 200, 11, 200, 11, 41, 0, 1);
        dueMember(1, 1, -80, 120, 6, 0, 0, 200, 0, 200, 0, 0, 0);
        dueMember(2, 1, 120 - 12 - 10 - 9 + 6, 115, 7, 1, 11, 0, 11, 0, 31, 0, 1);
    }

    private static void skills() {
        dueThrow("skill(0, 0, 2) of nobody", INDEX, () -> x.skill(0, 0, 2));
        joinBare(2);
        dueThrow("skill(2, 0, 0)", INDEX, () -> x.skill(2, 0, 0));
        dueThrow("skill(-1, 0, 0)", INDEX, () -> x.skill(-1, 0, 0));
        dueThrow("skill(0, -1, 0)", INDEX, () -> x.skill(0, -1, 0));
        dueThrow("skill(0, 5, 0)", INDEX, () -> x.skill(0, 5, 0));
        dueThrow("skill(0, 5, 2)", INDEX, () -> x.skill(0, 5, 2));
        dueThrow("skill(0, 0, -1)", ARGUMENT, () -> x.skill(0, 0, -1));
        dueThrow("skill(0, 0, 2)", ARGUMENT, () -> x.skill(0, 0, 2));
        x.set(0, 9999);
        x.give(0, 1, 3, 299);
        due("ripeness at 299", x.skill(0, 3, 1), 0);
        x.give(0, 1, 3, 1);
        due("ripeness at 300", x.skill(0, 3, 1), 1);
        for (int i = 0; i < 4; i++) {
            x.give(0, 1, 3, 600);
        }
        due("practice", x.skill(0, 3, 0), 2700);
        due("ripeness at 2700", x.skill(0, 3, 1), 9);
        x.give(0, 1, 3, 600);
        due("practice", x.skill(0, 3, 0), 3300);
        due("ripeness at 3300", x.skill(0, 3, 1), 9);
        due("ripeness of another skill", x.skill(0, 2, 1), 0);
        due("ripeness of another member", x.skill(1, 3, 1), 0);
    }

    private static void counts() {
        dueThrow("count(-1)", ARGUMENT, () -> x.count(-1));
        dueThrow("count(14)", ARGUMENT, () -> x.count(14));
        join(5);
        dueCounts(5, 5, -600, 0, 0, 0, 600, 0, 600, NONE, 0, 0, 0, 5);
        x.give(0, 1, 0, 300);
        x.give(2, 3, 1, 150);
        x.donate(4, 20);
        x.leave(4);
        x.pass(3);
        x.move(1, 170);
        x.vote(0, true);
        x.vote(2, false);
        dueCounts(5, 4, -600 + 120 + 75 + 20 + 100, 0, 3, 2, 300 + 195, -180 - 30, 0 + 120 + 45 + 120, 1, 170, 1, 1, 6);
        x.vote(3, true);
        dueCounts(5, 4, -285, 170, 3, 2, 495, -40, 285, NONE, 0, 0, 0, 6);
        x.give(3, 0, 1, 400);
        due("the sum of those above 0", x.count(6), 195 + 250);
        x.give(3, 0, 1, 100);
        due("the sum of those below 0", x.count(7), -210 - 10);
    }

    private static void settings() {
        dueThrow("setting(-1)", INDEX, () -> x.setting(-1));
        dueThrow("setting(5)", INDEX, () -> x.setting(5));
        for (int i = 0; i < 5; i++) {
            x.set(i, 11 + i);
        }
        for (int i = 0; i < 5; i++) {
            due("setting(" + i + ")", x.setting(i), 11 + i);
        }
    }

    private static void worths() {
        dueThrow("worth(0, 0, 0) of nobody", INDEX, () -> x.worth(0, 0, 0));
        joinBare(2);
        dueThrow("worth(2, 0, 1)", INDEX, () -> x.worth(2, 0, 1));
        dueThrow("worth(-1, 0, 1)", INDEX, () -> x.worth(-1, 0, 1));
        dueThrow("worth(0, 5, 0)", INDEX, () -> x.worth(0, 5, 0));
        dueThrow("worth(0, -1, 1)", INDEX, () -> x.worth(0, -1, 1));
        dueThrow("worth(0, 0, 0)", ARGUMENT, () -> x.worth(0, 0, 0));
        dueThrow("worth(0, 0, 601)", ARGUMENT, () -> x.worth(0, 0, 601));
        due("worth(0, 0, 600)", x.worth(0, 0, 600), 600);
        due("worth(0, 0, 1)", x.worth(0, 0, 1), 1);
        long before = x.digest();
        x.worth(0, 0, 600);
        due("nothing is changed", x.digest(), before);
        x.give(0, 1, 0, 600);
        due("worth(0, 0, 600)", x.worth(0, 0, 600), 720);
        due("worth(0, 0, 9)", x.worth(0, 0, 9), 10);
        due("worth(0, 1, 9)", x.worth(0, 1, 9), 9);
        x.leave(0);
        due("worth of one who has left", x.worth(0, 0, 9), 10);
    }

    private static void longestDeals() {
        dueThrow("longest(0, 0, 0) of nobody", INDEX, () -> x.longest(0, 0, 0));
        joinBare(3);
        dueThrow("longest(3, 0, 0)", INDEX, () -> x.longest(3, 0, 0));
        dueThrow("longest(0, 3, 0)", INDEX, () -> x.longest(0, 3, 0));
        dueThrow("longest(-1, 0, 0)", INDEX, () -> x.longest(-1, 0, 0));
        dueThrow("longest(0, -1, 0)", INDEX, () -> x.longest(0, -1, 0));
        dueThrow("longest(0, 0, 5)", INDEX, () -> x.longest(0, 0, 5));
        dueThrow("longest(0, 1, -1)", INDEX, () -> x.longest(0, 1, -1));
        due("longest(0, 0, 0)", x.longest(0, 0, 0), NONE);
        due("longest(0, 1, 0)", x.longest(0, 1, 0), 600);
        x.set(0, 599);
        due("longest(0, 1, 0)", x.longest(0, 1, 0), 599);
        x.set(0, 0);
        due("longest(0, 1, 0) with no room", x.longest(0, 1, 0), NONE);
        x.set(0, 1);
        due("longest(0, 1, 0) with room for 1", x.longest(0, 1, 0), 1);
        x.set(0, 9999);
        for (int i = 0; i < 9; i++) {
            x.give(0, 1, 0, 300);
        }
        due("ripeness", x.skill(0, 0, 1), 9);
        int debt = -x.member(1, 1);
        for (int room = -2; room <= 30; room++) {
            x.set(0, debt + room);
            int most = x.longest(0, 1, 0);
            due("room " + room, most, room < 1 ? NONE : (10 * room + 9) / 19);
            if (most > 0) {
                due("fits in", x.worth(0, 0, most) <= room ? 1 : 0, 1);
                due("one more doesn't", x.worth(0, 0, most + 1) > room ? 1 : 0, 1);
            }
        }
        x.set(0, 9999);
        due("longest(0, 1, 0)", x.longest(0, 1, 0), 600);
        x.leave(2);
        due("longest(2, 1, 0) by one who has left", x.longest(2, 1, 0), NONE);
        due("longest(0, 2, 0) for one who has left", x.longest(0, 2, 0), NONE);
    }

    private static void cheapestGivers() {
        dueThrow("cheapest(0, 0, 0) of nobody", INDEX, () -> x.cheapest(0, 0, 0));
        joinBare(4);
        dueThrow("cheapest(4, 0, 1)", INDEX, () -> x.cheapest(4, 0, 1));
        dueThrow("cheapest(-1, 0, 1)", INDEX, () -> x.cheapest(-1, 0, 1));
        dueThrow("cheapest(0, 5, 0)", INDEX, () -> x.cheapest(0, 5, 0));
        dueThrow("cheapest(0, -1, 1)", INDEX, () -> x.cheapest(0, -1, 1));
        dueThrow("cheapest(0, 0, 0)", ARGUMENT, () -> x.cheapest(0, 0, 0));
        dueThrow("cheapest(0, 0, 601)", ARGUMENT, () -> x.cheapest(0, 0, 601));
        due("the lowest number", x.cheapest(0, 0, 60), 1);
        due("the lowest number", x.cheapest(1, 0, 60), 0);
        x.give(1, 2, 0, 300);
        due("the least balance", x.cheapest(0, 0, 60), 2);
        due("the least balance of the other skill", x.cheapest(0, 1, 60), 2);
        due("the least value", x.cheapest(2, 0, 60), 0);
        x.give(0, 2, 1, 10);
        due("of equal values the least balance", x.cheapest(2, 0, 60), 3);
        due("where the values are equal by rounding", x.cheapest(3, 0, 9), 2);
        x.give(2, 1, 2, 310);
        x.give(2, 1, 2, 100);
        due("of equal values the one who owes", x.cheapest(3, 0, 9), 1);
        due("of greater values not the one who owes", x.cheapest(3, 0, 10), 0);
        x.set(0, 40);
        due("refused to all", x.cheapest(3, 0, 41), NONE);
        due("up to the limit", x.cheapest(3, 0, 40), 0);
        x.leave(3);
        due("for one who has left", x.cheapest(3, 0, 1), NONE);
        x.leave(2);
        x.leave(0);
        due("without others", x.cheapest(1, 0, 1), NONE);

        x = new RipeHours();
        joinBare(8);
        for (int i = 0; i < 7; i++) {
            x.give(i, 7, 0, 20);
            x.give(7, i, 1, 19);
        }
        due("of eight", x.cheapest(6, 0, 60), 7);
        due("of eight", x.cheapest(7, 0, 60), 0);
    }

    private static void decays() {
        dueThrow("decayIn(0, 101) of nobody", INDEX, () -> x.decayIn(0, 101));
        joinBare(3);
        dueThrow("decayIn(3, 0)", INDEX, () -> x.decayIn(3, 0));
        dueThrow("decayIn(-1, 0)", INDEX, () -> x.decayIn(-1, 0));
        dueThrow("decayIn(0, -1)", ARGUMENT, () -> x.decayIn(0, -1));
        dueThrow("decayIn(0, 101)", ARGUMENT, () -> x.decayIn(0, 101));
        x.give(0, 1, 0, 205);
        due("decayIn(0, 0)", x.decayIn(0, 0), 0);
        due("decayIn(0, 5)", x.decayIn(0, 5), 0);
        due("decayIn(0, 6)", x.decayIn(0, 6), 20);
        due("decayIn(0, 8)", x.decayIn(0, 8), 20 + 18 + 16);
        due("decayIn(1, 100) of a debt", x.decayIn(1, 100), 0);
        due("decayIn(0, 100)", x.decayIn(0, 100), 205 - 9);
        x.pass(6);
        due("decayIn(0, 1)", x.decayIn(0, 1), 18);
        due("decayIn(0, 2)", x.decayIn(0, 2), 34);
        long before = x.digest();
        x.decayIn(0, 100);
        due("nothing is changed", x.digest(), before);
        x.set(2, 0);
        x.set(3, 100);
        due("decayIn(0, 1)", x.decayIn(0, 1), 185);
        due("decayIn(0, 2)", x.decayIn(0, 2), 185);
        x.give(0, 2, 0, 1);
        due("decayIn(0, 1) of one who is busy", x.decayIn(0, 1), 0);
        passWeeks(2000 - 6);
        x.set(3, 10);
        x.give(0, 2, 0, 100);
        due("beyond the last week", x.decayIn(0, 100), 100 - 9);
        x.leave(0);
        due("of one who has left", x.decayIn(0, 100), 0);
    }

    private static void neededVotes() {
        due("votesNeeded()", x.votesNeeded(), NONE);
        joinBare(8);
        x.give(1, 0, 0, 50);
        x.move(0, 50);
        due("of 7 others", x.votesNeeded(), 4);
        x.vote(1, true);
        due("one is there", x.votesNeeded(), 3);
        x.vote(2, false);
        due("one against", x.votesNeeded(), 3);
        x.leave(3);
        due("of 6 others", x.votesNeeded(), 3);
        x.leave(1);
        due("of 5 others, without that vote", x.votesNeeded(), 3);
        x.vote(4, true);
        x.vote(5, true);
        due("one more", x.votesNeeded(), 1);
        due("vote(6, true)", x.vote(6, true), 1);
        due("votesNeeded()", x.votesNeeded(), NONE);

        x = new RipeHours();
        joinBare(2);
        x.give(1, 0, 0, 50);
        x.leave(1);
        x.move(0, 50);
        due("without others", x.votesNeeded(), 1);
        x.join();
        due("of 1 other", x.votesNeeded(), 1);
        x.join();
        due("of 2 others", x.votesNeeded(), 2);
    }

    private static void ripestMembers() {
        dueThrow("ripest(-1)", INDEX, () -> x.ripest(-1));
        dueThrow("ripest(5)", INDEX, () -> x.ripest(5));
        due("ripest(0) of nobody", x.ripest(0), NONE);
        joinBare(4);
        due("the lowest number", x.ripest(4), 0);
        x.give(2, 1, 4, 2);
        x.give(3, 1, 4, 2);
        x.give(1, 0, 4, 1);
        due("the most practice, the lowest number", x.ripest(4), 2);
        due("another skill", x.ripest(3), 0);
        x.give(3, 1, 4, 1);
        due("the most practice", x.ripest(4), 3);
        x.leave(3);
        due("one who is there", x.ripest(4), 2);
        x.leave(2);
        due("one who is there", x.ripest(4), 1);
        x.give(0, 1, 0, 1);
        x.leave(0);
        due("one who is there", x.ripest(0), 1);

        x = new RipeHours();
        joinBare(1);
        x.leave(0);
        due("nobody is there", x.ripest(0), NONE);
    }

    private static void dueDouble(String call, double got, double want) {
        due(call, Double.doubleToRawLongBits(got), Double.doubleToRawLongBits(want));
    }

    private static void worthOfMinutes() {
        dueDouble("minuteWorth()", x.minuteWorth(), 1.0);
        join(3);
        dueDouble("minuteWorth()", x.minuteWorth(), 1.0);
        x.give(0, 1, 0, 300);
        dueDouble("minuteWorth()", x.minuteWorth(), 1.0);
        x.give(0, 1, 0, 19);
        dueDouble("minuteWorth()", x.minuteWorth(), 320.0 / 319.0);
        x.give(2, 1, 0, 7);
        dueDouble("minuteWorth()", x.minuteWorth(), 327.0 / 326.0);
        x.leave(0);
        dueDouble("with one who has left", x.minuteWorth(), 327.0 / 326.0);
    }

    private static long due31(long hash, long value) {
        return 31 * hash + value;
    }

    private static long digestByCalls() {
        long hash = 2539;
        for (int i = 0; i <= 13; i++) {
            hash = due31(hash, x.count(i));
        }
        for (int i = 0; i <= 4; i++) {
            hash = due31(hash, x.setting(i));
        }
        for (int m = 0; m < x.count(0); m++) {
            for (int i = 0; i <= 11; i++) {
                hash = due31(hash, x.member(m, i));
            }
            for (int i = 0; i <= 4; i++) {
                hash = due31(hash, x.skill(m, i, 0));
                hash = due31(hash, x.skill(m, i, 1));
            }
            hash = due31(hash, x.longest(m, 0, 1));
            hash = due31(hash, x.cheapest(m, 1, 60));
            hash = due31(hash, x.decayIn(m, 10));
        }
        for (int i = 0; i <= 4; i++) {
            hash = due31(hash, x.ripest(i));
        }
        hash = due31(hash, x.votesNeeded());
        return due31(hash, Double.doubleToLongBits(x.minuteWorth()));
    }

    /** A new object with four members, and so many pairs of deals in the skill 1. */
    private static void dealsOf(int many) {
        int[] minutes = {300, 19, 7, 33, 111, 1, 600};
        x = new RipeHours();
        join(4);
        x.set(0, 9999);
        for (int i = 0; i < many && i < minutes.length; i++) {
            x.give(i % 3, 3, 1, minutes[i]);
            x.give(1, 3, 1, minutes[i]);
        }
    }

    private static void dealsAndMotion() {
        dealsOf(7);
        x.set(0, 40);
        x.move(3, 200);
        x.vote(0, true);
        x.leave(2);
    }

    private static void dealsAndDecay() {
        dealsAndMotion();
        x.set(3, 50);
        x.pass(7);
    }

    private static void dueDigest(String when) {
        due("digest() " + when, x.digest(), due31(digestByCalls(), 0));
    }

    private static void digests() {
        dueDigest("of a new object");
        type("a>");
        due("digest()", x.digest(), due31(due31(due31(digestByCalls(), 2), 'a'), '>'));
        for (int many = 1; many <= 7; many++) {
            dealsOf(many);
            dueDigest("with deals");
        }
        dealsAndMotion();
        dueDigest("with a motion");
        dealsAndDecay();
        dueDigest("with a decay");
        for (int room = 58; room <= 120; room++) {
            dealsAndDecay();
            joinBare(1);
            x.set(0, room);
            dueDigest("where " + room + " are the limit");
        }
        join(3);
        long before = x.digest();
        dueDigest("of eight");
        due("nothing is changed", x.digest(), before);
    }
}
