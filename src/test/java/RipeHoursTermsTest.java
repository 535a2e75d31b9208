/** Each sentence of the document's "Terms" that names a boundary, in a test of its own. */
public final class RipeHoursTermsTest extends SentenceChecks {
    private static final int[] FIRST_SETTINGS = {600, 120, 4, 10, 30};
    private static final int[] GREATEST_SETTINGS = {9999, 999, 20, 100, 300};
    /** How many of 0 to 7 other members are more than half of them, and how many are at least half. */
    private static final int[] MORE_THAN_HALF = {1, 1, 2, 2, 3, 3, 4, 4};
    private static final int[] AT_LEAST_HALF = {0, 1, 1, 2, 2, 3, 3, 4};

    public static void main(String[] args) {
        membersAndSkills();
        newcomers();
        deals();
        weeks();
        forgiving();
        forgivingWhenSomeoneLeaves();
        settings();
        inputText();
        undo();
        end();
    }

    // ---- Members, skills

    private static void membersAndSkills() {
        holds("There are at most 8 members", () -> atMostEightMembers());
        holds("numbered from 0 in the order in which they came", () -> membersAreNumberedAsTheyCame());
        holds("one that has left keeps the number", () -> whoHasLeftKeepsTheNumber());
        holds("There are 5 skills, numbered from 0", () -> fiveSkills());
        holds("a balance in minutes (it can be below 0)", () -> balanceCanBeBelowZero());
        holds("for each skill a practice in minutes, 0 to 9999, at first 0", () -> practiceIsZeroAtFirst());
        holds("a practice in minutes, 0 to 9999 (each skill has its own)", () -> eachSkillHasItsOwnPractice());
        holds("the ripeness of a skill is its practice divided by 300", () -> ripenessIsRoundedDown());
        holds("but at most 9", () -> ripenessIsAtMostNine());
        holds("There is a common account, at first 0", () -> due("it", x.count(2), 0));
        holds("which can be below 0", () -> commonAccountCanBeBelowZero());
        holds("a sum of all that was forgiven so far, at first 0", () -> due("it", x.count(3), 0));
        holds("The balances of all members and the common account together are always the sum that was forgiven",
            () -> accountsAreAlwaysTheForgiven());
    }

    private static void atMostEightMembers() {
        join(x, 8);
        due("members", x.count(0), 8);
        due("the last one is there", x.member(7, 0), 1);
        dueThrow("a ninth", STATE, bank -> bank.join());
        due("members", x.count(0), 8);
    }

    private static void membersAreNumberedAsTheyCame() {
        for (int i = 0; i < 8; i++) {
            x.set(1, 100 + i);
            due("join()", x.join(), i);
        }
        for (int i = 0; i < 8; i++) {
            due("the loan of " + i, loan(i), 100 + i);
        }
    }

    private static void whoHasLeftKeepsTheNumber() {
        join(x, 2);
        x.leave(1);
        due("the next one", x.join(), 2);
        x.leave(2);
        x.leave(0);
        due("the next one", x.join(), 3);
        due("0 is there", x.member(0, 0), 0);
        due("1 is there", x.member(1, 0), 0);
        due("2 is there", x.member(2, 0), 0);
        due("3 is there", x.member(3, 0), 1);
    }

    private static void fiveSkills() {
        joinBare(x, 2);
        for (int skill = 0; skill < 5; skill++) {
            due("give() in " + skill, x.give(0, 1, skill, 10 + skill), 10 + skill);
            due("practice in " + skill, practice(0, skill), 10 + skill);
        }
        dueThrow("skill 5", INDEX, bank -> bank.skill(0, 5, 0));
        dueThrow("skill -1", INDEX, bank -> bank.skill(0, -1, 0));
    }

    private static void balanceCanBeBelowZero() {
        joinBare(x, 2);
        x.give(0, 1, 0, 1);
        due("balance", balance(1), -1);
        x.give(0, 1, 0, 599);
        due("balance", balance(1), -600);
    }

    private static void practiceIsZeroAtFirst() {
        join(x, 2);
        for (int skill = 0; skill < 5; skill++) {
            due("practice in " + skill, practice(1, skill), 0);
        }
    }

    private static void eachSkillHasItsOwnPractice() {
        joinBare(x, 3);
        x.give(0, 1, 0, 7);
        x.give(0, 1, 4, 9);
        x.give(1, 2, 2, 3);
        int[][] want = {{7, 0, 0, 0, 9}, {0, 0, 3, 0, 0}, {0, 0, 0, 0, 0}};
        for (int m = 0; m < 3; m++) {
            for (int skill = 0; skill < 5; skill++) {
                due("practice of " + m + " in " + skill, practice(m, skill), want[m][skill]);
            }
        }
    }

    private static void ripenessIsRoundedDown() {
        joinBare(x, 3);
        x.set(0, 9999);
        int[] steps = {1, 298, 1, 299, 1, 300, 299, 1};
        int[] want = {0, 0, 1, 1, 2, 3, 3, 4};
        for (int i = 0; i < steps.length; i++) {
            x.give(0, 1, 3, steps[i]);
            due("ripeness at " + practice(0, 3), x.skill(0, 3, 1), want[i]);
        }
    }

    private static void ripenessIsAtMostNine() {
        joinBare(x, 3);
        x.set(0, 9999);
        practise(x, 3, 2699);
        due("ripeness at 2699", x.skill(0, 3, 1), 8);
        practise(x, 3, 1);
        due("ripeness at 2700", x.skill(0, 3, 1), 9);
        practise(x, 3, 299);
        due("ripeness at 2999", x.skill(0, 3, 1), 9);
        practise(x, 3, 1);
        due("ripeness at 3000", x.skill(0, 3, 1), 9);
        practise(x, 3, 6999);
        due("practice", practice(0, 3), 9999);
        due("ripeness at 9999", x.skill(0, 3, 1), 9);
    }

    private static void commonAccountCanBeBelowZero() {
        x.set(1, 1);
        x.join();
        due("the common account", x.count(2), -1);
        x.donate(0, 1);
        due("the common account", x.count(2), 0);
        x.set(1, 999);
        join(x, 7);
        due("the common account", x.count(2), -6993);
    }

    private static void dueBalanced(String after) {
        int sum = x.count(2);
        for (int m = 0; m < x.count(0); m++) {
            sum += balance(m);
        }
        due("all together after " + after, sum, x.count(3));
    }

    private static void accountsAreAlwaysTheForgiven() {
        dueBalanced("nothing");
        join(x, 5);
        dueBalanced("join()");
        x.give(0, 1, 0, 301);
        x.give(0, 1, 0, 31);
        dueBalanced("give()");
        x.donate(2, 7);
        dueBalanced("donate()");
        x.pass(6);
        dueBalanced("pass()");
        x.move(1, 11);
        dueBalanced("move()");
        x.vote(0, true);
        x.vote(2, true);
        dueBalanced("a vote");
        due("open yet", x.count(3), 0);
        x.vote(3, true);
        due("forgiven", x.count(3), 11);
        dueBalanced("forgiving");
        x.leave(3);
        dueBalanced("leave()");
        type(x, "a>c0:5;e>b1:9");
        due("run()", x.run(), 2);
        dueBalanced("run()");
        x.undo();
        dueBalanced("undo()");
    }

    // ---- Newcomers

    private static void newcomers() {
        holds("Who joins gets setting 1 minutes out of the common account as the first balance; that is a loan",
            () -> newcomersGetTheLoan());
        holds("Of each value that a member with a loan earns, half (rounded down) goes to the common account",
            () -> halfOfWhatIsEarned());
        holds("but at most what is left of the loan", () -> atMostWhatIsLeft());
        holds("Of each value that a member with a loan earns (without one, nothing)", () -> nothingWithoutALoan());
        holds("and the loan is less by it (of who earns, by earning alone)", () -> loanIsPaidByEarningAlone());
        holds("Of each value that a member with a loan earns (of the value, not of the minutes)",
            () -> halfOfTheValue());
    }

    private static void newcomersGetTheLoan() {
        int[] loans = {0, 1, 999, 120};
        int common = 0;
        for (int i = 0; i < loans.length; i++) {
            x.set(1, loans[i]);
            x.join();
            common -= loans[i];
            due("balance", balance(i), loans[i]);
            due("loan", loan(i), loans[i]);
            due("the common account", x.count(2), common);
        }
    }

    private static void halfOfWhatIsEarned() {
        join(x, 2);
        int[] minutes = {1, 2, 3, 4, 5};
        int[] halves = {0, 1, 1, 2, 2};
        int left = 120;
        int credit = 120;
        for (int i = 0; i < minutes.length; i++) {
            x.give(0, 1, i, minutes[i]);
            left -= halves[i];
            credit += minutes[i] - halves[i];
            due("loan after " + minutes[i], loan(0), left);
            due("balance after " + minutes[i], balance(0), credit);
            due("the common account after " + minutes[i], x.count(2), -240 + 120 - left);
        }
    }

    private static void atMostWhatIsLeft() {
        int[] earned = {238, 239, 240, 241, 242, 600};
        int[] left = {1, 1, 0, 0, 0, 0};
        for (int i = 0; i < earned.length; i++) {
            x = new RipeHours();
            join(x, 2);
            x.set(0, 9999);
            x.give(0, 1, 0, earned[i]);
            due("loan after " + earned[i], loan(0), left[i]);
            due("balance after " + earned[i], balance(0), 120 + earned[i] - (120 - left[i]));
            due("the common account after " + earned[i], x.count(2), -120 - left[i]);
        }
    }

    private static void nothingWithoutALoan() {
        join(x, 2);
        x.give(0, 1, 0, 240);
        due("loan", loan(0), 0);
        int common = x.count(2);
        x.give(0, 1, 1, 100);
        due("balance", balance(0), 240 + 100);
        due("loan", loan(0), 0);
        due("the common account", x.count(2), common);
    }

    private static void loanIsPaidByEarningAlone() {
        join(x, 2);
        x.give(0, 1, 0, 10);
        due("loan of the taker", loan(1), 120);
        x.donate(1, 50);
        due("loan after donate()", loan(1), 120);
        x.pass(6);
        due("loan after a decay", loan(1), 120);
        due("loan of the giver", loan(0), 115);
    }

    private static void halfOfTheValue() {
        x.set(1, 999);
        join(x, 3);
        x.give(2, 1, 0, 600);
        due("loan after a value of 600", loan(2), 999 - 300);
        x.give(2, 0, 0, 100);
        due("loan after a value of 120", loan(2), 999 - 300 - 60);
        due("balance", balance(2), 999 + 300 + 60);
        due("the common account", x.count(2), -2997 + 360);
        due("loan of the member 0", loan(0), 999);
        due("balance of the member 0", balance(0), 999 - 120);
    }

    // ---- Deals

    private static void deals() {
        holds("Its value is the minutes times a rate, divided by 10", () -> valuesAreRoundedDown());
        holds("with the rate as 10 plus the ripeness of that skill of the giver", () -> ratesAreThoseOfTheGiver());
        holds("(ahead of the deal)", () -> ripenessAheadOfTheDeal());
        holds("The value goes from the balance of the taker to that of the giver", () -> valueGoesToTheGiver());
        holds("the practice of the giver in that skill grows by the minutes", () -> practiceGrowsByTheMinutes());
        holds("(at most to 9999)", () -> practiceGrowsAtMostTo9999());
        holds("Both are busy in this week", () -> bothAreBusy());
        holds("A deal is refused, if the balance of the taker would be below -setting 0 then",
            () -> refusedBelowTheLimit());
        holds("would be below -setting 0 (the value counts, not the minutes)", () -> theValueCountsForTheLimit());
        holds("the balance of the taker (that of the giver may be below)", () -> whoOwesTooMuchCanGive());
    }

    private static void valuesAreRoundedDown() {
        joinBare(x, 3);
        x.set(0, 9999);
        practise(x, 0, 300);
        int[] minutes = {1, 9, 10, 11, 19, 20};
        int[] values = {1, 9, 11, 12, 20, 22};
        for (int i = 0; i < minutes.length; i++) {
            due("value of " + minutes[i], x.give(0, 1, 0, minutes[i]), values[i]);
        }
        practise(x, 0, 2400);
        due("value of 1 at 19", x.give(0, 1, 0, 1), 1);
        due("value of 9 at 19", x.give(0, 1, 0, 9), 17);
        due("value of 600 at 19", x.give(0, 1, 0, 600), 1140);
    }

    private static void ratesAreThoseOfTheGiver() {
        joinBare(x, 3);
        x.set(0, 9999);
        practise(x, 2, 600);
        due("that skill of the giver", x.give(0, 1, 2, 10), 12);
        due("another skill", x.give(0, 1, 3, 10), 10);
        due("another giver", x.give(1, 0, 2, 10), 10);
        practise(x, 2, 2090);
        due("the greatest rate", x.give(0, 1, 2, 10), 19);
    }

    private static void ripenessAheadOfTheDeal() {
        joinBare(x, 2);
        x.set(0, 9999);
        due("from 0 to 600", x.give(0, 1, 0, 600), 600);
        due("from 600 to 1200", x.give(0, 1, 0, 600), 720);
        due("from 0 to 299", x.give(0, 1, 1, 299), 299);
        due("from 299 to 319", x.give(0, 1, 1, 20), 20);
        due("from 319", x.give(0, 1, 1, 20), 22);
    }

    private static void valueGoesToTheGiver() {
        joinBare(x, 3);
        x.give(0, 1, 0, 400);
        due("value", x.give(0, 1, 0, 19), 20);
        due("balance of the giver", balance(0), 420);
        due("balance of the taker", balance(1), -420);
        due("balance of another one", balance(2), 0);
        due("the common account", x.count(2), 0);
    }

    private static void practiceGrowsByTheMinutes() {
        joinBare(x, 2);
        x.give(0, 1, 4, 400);
        due("practice", practice(0, 4), 400);
        due("value", x.give(0, 1, 4, 100), 110);
        due("practice", practice(0, 4), 500);
        due("practice of the taker", practice(1, 4), 0);
        due("practice in another skill", practice(0, 3), 0);
    }

    private static void practiceGrowsAtMostTo9999() {
        joinBare(x, 3);
        x.set(0, 9999);
        practise(x, 1, 9998);
        due("practice", practice(0, 1), 9998);
        x.give(0, 1, 1, 1);
        due("practice", practice(0, 1), 9999);
        x.give(0, 1, 1, 1);
        due("practice", practice(0, 1), 9999);
        x.undo();
        x.undo();
        x.give(0, 1, 1, 2);
        due("practice from 9998 by 2", practice(0, 1), 9999);
        x.undo();
        x.set(4, 300);
        x.pass(7);
        due("practice", practice(0, 1), 9998 - 600);
        x.give(0, 2, 1, 600);
        due("practice", practice(0, 1), 9998);
    }

    private static void bothAreBusy() {
        joinBare(x, 3);
        x.give(0, 1, 0, 1);
        due("the giver is busy", x.member(0, 4), 1);
        due("the taker is busy", x.member(1, 4), 1);
        due("another one is busy", x.member(2, 4), 0);
        x.pass(1);
        due("the giver is busy in the next week", x.member(0, 4), 0);
        due("the taker is busy in the next week", x.member(1, 4), 0);
    }

    private static void refusedBelowTheLimit() {
        int[] limits = {0, 1, 600, 9999};
        for (int limit : limits) {
            x = new RipeHours();
            x.set(0, limit);
            owe(limit);
            due("balance at the limit", balance(0), -limit);
            dueThrow("below the limit " + limit, STATE, bank -> bank.give(1, 0, 0, 1));
            if (limit < 9999) {
                x.set(0, limit + 1);
                due("up to the limit " + limit + " and 1", x.give(1, 0, 0, 1), 1);
            }
        }
    }

    /** Eight members; the member 0 takes so many minutes at the least rate, each skill of each giver but once. */
    private static void owe(int debt) {
        joinBare(x, 8);
        int deal = 0;
        for (int left = debt; left > 0; left -= 290) {
            x.give(1 + deal % 7, 0, deal / 7, Math.min(290, left));
            deal++;
        }
    }

    private static void theValueCountsForTheLimit() {
        joinBare(x, 3);
        x.give(0, 2, 0, 600);
        x.give(2, 0, 1, 600);
        due("value of 500", x.worth(0, 0, 500), 600);
        dueThrow("501 minutes are worth 601", STATE, bank -> bank.give(0, 1, 0, 501));
        due("500 minutes are worth 600", x.give(0, 1, 0, 500), 600);
    }

    private static void whoOwesTooMuchCanGive() {
        joinBare(x, 3);
        x.give(0, 1, 0, 500);
        x.set(0, 100);
        dueThrow("to who owes more than the limit", STATE, bank -> bank.give(2, 1, 0, 1));
        due("by who owes more than the limit", x.give(1, 0, 0, 1), 1);
        due("balance", balance(1), -499);
    }

    // ---- Weeks

    private static void weeks() {
        holds("There is a number of the week, at first 0", () -> due("it", x.count(4), 0));
        holds("When a week passes, its number becomes 1 more", () -> numberOfTheWeek());
        holds("for each member who is there", () -> whoHasLeftHasNoWeeks());
        holds("if the member was not busy, the idle weeks become 1 more", () -> idleWeeksGrow());
        holds("otherwise they are 0 (and the member is not busy any more)", () -> busyWeeksEndIdleness());
        holds("If the idle weeks are more than setting 2, two things happen (otherwise none of both)",
            () -> harmlessIdleWeeks());
        holds("If the idle weeks are more than setting 2 (0, the least)", () -> noHarmlessWeek());
        holds("If the idle weeks are more than setting 2 (20, the greatest)", () -> twentyHarmlessWeeks());
        holds("of a balance above 0 a part goes to the common account", () -> balancesAboveZeroDecay());
        holds("the balance times setting 3 divided by 100", () -> decayIsRoundedDown());
        holds("the balance times setting 3 divided by 100 (0 and 100)", () -> leastAndGreatestDecay());
        holds("the practice in each skill becomes less by setting 4", () -> rustInEachSkill());
        holds("(at least 0)", () -> practiceIsAtLeastZero());
        holds("the practice becomes less by setting 4 (0 and 300)", () -> leastAndGreatestRust());
        holds("two things happen (the practice of who owes rusts too)", () -> whoOwesRustsToo());
    }

    private static void numberOfTheWeek() {
        x.pass(1);
        due("it", x.count(4), 1);
        x.pass(50);
        due("it", x.count(4), 51);
    }

    private static void whoHasLeftHasNoWeeks() {
        joinBare(x, 3);
        x.give(0, 1, 0, 50);
        x.give(1, 0, 1, 50);
        x.give(1, 2, 1, 50);
        x.give(2, 1, 2, 50);
        x.pass(2);
        x.give(2, 1, 2, 1);
        x.give(1, 2, 3, 1);
        x.leave(0);
        x.leave(2);
        x.pass(50);
        due("idle weeks", x.member(0, 3), 1);
        due("busy as before", x.member(2, 4), 1);
        due("idle weeks", x.member(2, 3), 1);
        due("practice", practice(0, 0), 50);
        due("idle weeks of who is there", x.member(1, 3), 49);
    }

    private static void idleWeeksGrow() {
        joinBare(x, 1);
        due("idle weeks", x.member(0, 3), 0);
        x.pass(1);
        due("idle weeks", x.member(0, 3), 1);
        x.pass(1);
        due("idle weeks", x.member(0, 3), 2);
        x.pass(50);
        due("idle weeks", x.member(0, 3), 52);
    }

    private static void busyWeeksEndIdleness() {
        joinBare(x, 3);
        x.pass(3);
        x.give(0, 1, 0, 1);
        due("idle weeks before it passes", x.member(0, 3), 3);
        x.pass(1);
        due("idle weeks of the giver", x.member(0, 3), 0);
        due("idle weeks of the taker", x.member(1, 3), 0);
        due("idle weeks of another one", x.member(2, 3), 4);
        due("busy", x.member(0, 4), 0);
        x.pass(1);
        due("idle weeks of the giver", x.member(0, 3), 1);
    }

    private static void harmlessIdleWeeks() {
        joinBare(x, 2);
        x.give(0, 1, 0, 100);
        due("the busy week", x.pass(1), 0);
        due("four idle weeks", x.pass(4), 0);
        due("idle weeks", x.member(0, 3), 4);
        due("balance", balance(0), 100);
        due("practice", practice(0, 0), 100);
        due("the fifth", x.pass(1), 10);
        due("balance", balance(0), 90);
        due("practice", practice(0, 0), 70);
        due("the common account", x.count(2), 10);
    }

    private static void noHarmlessWeek() {
        joinBare(x, 2);
        x.set(2, 0);
        x.give(0, 1, 0, 100);
        due("the busy week", x.pass(1), 0);
        due("practice", practice(0, 0), 100);
        due("the first idle week", x.pass(1), 10);
        due("practice", practice(0, 0), 70);
    }

    private static void twentyHarmlessWeeks() {
        joinBare(x, 2);
        x.set(2, 20);
        x.give(0, 1, 0, 100);
        due("the busy week and twenty idle ones", x.pass(21), 0);
        due("practice", practice(0, 0), 100);
        due("one more", x.pass(1), 10);
        due("practice", practice(0, 0), 70);
    }

    private static void balancesAboveZeroDecay() {
        joinBare(x, 3);
        x.set(3, 100);
        x.give(0, 1, 0, 1);
        due("decayed", x.pass(6), 1);
        due("balance of 1", balance(0), 0);
        due("balance of -1", balance(1), -1);
        due("balance of 0", balance(2), 0);
        due("the common account", x.count(2), 1);
        due("decayed of -1", x.member(1, 9), 0);
        due("decayed of 0", x.member(2, 9), 0);
    }

    private static void decayIsRoundedDown() {
        int[] balances = {9, 10, 19, 20, 99, 100};
        int[] parts = {0, 1, 1, 2, 9, 10};
        for (int i = 0; i < balances.length; i++) {
            x = new RipeHours();
            x.set(1, balances[i]);
            x.join();
            due("a tenth of " + balances[i], x.pass(5), parts[i]);
            due("the rest of " + balances[i], balance(0), balances[i] - parts[i]);
        }
        x = new RipeHours();
        x.set(1, 101);
        x.set(3, 1);
        x.set(2, 0);
        x.join();
        due("a hundredth of 101", x.pass(1), 1);
        due("a hundredth of 100", x.pass(1), 1);
        due("a hundredth of 99", x.pass(1), 0);
    }

    private static void leastAndGreatestDecay() {
        x.set(2, 0);
        x.set(3, 0);
        x.join();
        due("0 in a hundred", x.pass(50), 0);
        x.set(3, 99);
        due("99 in a hundred of 120", x.pass(1), 118);
        x.set(3, 100);
        due("100 in a hundred of 2", x.pass(1), 2);
        due("balance", balance(0), 0);
    }

    private static void rustInEachSkill() {
        joinBare(x, 2);
        for (int skill = 0; skill < 5; skill++) {
            x.give(0, 1, skill, 100 + skill);
        }
        x.pass(6);
        for (int skill = 0; skill < 5; skill++) {
            due("practice in " + skill, practice(0, skill), 70 + skill);
        }
        x.pass(2);
        for (int skill = 0; skill < 5; skill++) {
            due("practice in " + skill, practice(0, skill), 10 + skill);
        }
    }

    private static void practiceIsAtLeastZero() {
        joinBare(x, 2);
        int[] minutes = {29, 30, 31, 1, 60};
        int[] rest = {0, 0, 1, 0, 30};
        for (int skill = 0; skill < 5; skill++) {
            x.give(0, 1, skill, minutes[skill]);
        }
        x.pass(6);
        for (int skill = 0; skill < 5; skill++) {
            due("practice of " + minutes[skill], practice(0, skill), rest[skill]);
        }
        x.pass(1);
        for (int skill = 0; skill < 5; skill++) {
            due("practice of " + minutes[skill], practice(0, skill), 0);
        }
    }

    private static void leastAndGreatestRust() {
        joinBare(x, 2);
        x.set(2, 0);
        x.set(4, 0);
        x.give(0, 1, 0, 301);
        x.pass(50);
        due("practice", practice(0, 0), 301);
        x.set(4, 1);
        x.pass(1);
        due("practice", practice(0, 0), 300);
        x.set(4, 299);
        x.pass(1);
        due("practice", practice(0, 0), 1);
        x.give(0, 1, 0, 299);
        x.set(4, 300);
        x.pass(2);
        due("practice", practice(0, 0), 0);
    }

    private static void whoOwesRustsToo() {
        joinBare(x, 2);
        x.give(1, 0, 0, 40);
        x.give(0, 1, 0, 400);
        x.pass(6);
        due("balance", balance(1), -360);
        due("practice", practice(1, 0), 10);
    }

    // ---- Forgiving

    /** So many other members, and the member 0 with a debt of 50 that is moved to be forgiven. */
    private static void motionWithOthers(int others) {
        x = new RipeHours();
        joinBare(x, others + 1);
        x.give(1, 0, 0, 50);
        x.move(0, 50);
    }

    /** The member 0 with a debt of 50, and nobody else. */
    private static void debtorAlone() {
        joinBare(x, 2);
        x.give(1, 0, 0, 50);
        x.leave(1);
    }

    private static void forgiving() {
        holds("There can be one motion", () -> oneMotion());
        holds("that some minutes of the debt of a member are forgiven", () -> someMinutesOfTheDebt());
        holds("Each other member who is there can vote once", () -> othersCanVoteOnce());
        holds("Each other member who is there (who comes later, too)", () -> whoComesLaterCanVote());
        holds("As soon as more than half of these other members have voted for it, it is carried",
            () -> carriedByMoreThanHalf());
        holds("the balance becomes greater by the minutes, the sum that was forgiven, too, and the motion is gone",
            () -> minutesAreForgiven());
        holds("As soon as at least half of them have voted against it, it has failed, and is gone",
            () -> failedByAtLeastHalf());
        holds("it has failed, and is gone (nothing is forgiven)", () -> nothingIsForgiven());
        holds("Where there are no other members, it is neither", () -> neitherWithoutOthers());
        holds("the motion is gone (its votes, too)", () -> votesGoWithTheMotion());
        holds("the motion is gone (the votes of the first and the last member, too)",
            () -> votesOfAllGoWithTheMotion());
    }

    private static void oneMotion() {
        joinBare(x, 4);
        x.give(1, 0, 0, 50);
        x.give(1, 2, 0, 50);
        x.move(0, 50);
        dueThrow("another one", STATE, bank -> bank.move(2, 50));
        dueMotion(0, 50, 0, 0);
        x.takeBack();
        x.move(2, 50);
        dueMotion(2, 50, 0, 0);
    }

    private static void someMinutesOfTheDebt() {
        joinBare(x, 2);
        x.give(1, 0, 0, 50);
        dueThrow("51 of 50", STATE, bank -> bank.move(0, 51));
        x.move(0, 1);
        x.vote(1, true);
        due("balance", balance(0), -49);
        x.move(0, 49);
        x.vote(1, true);
        due("balance", balance(0), 0);
    }

    private static void othersCanVoteOnce() {
        motionWithOthers(5);
        x.leave(5);
        for (int m = 0; m < 6; m++) {
            due(m + " can vote", x.member(m, 11), m > 0 && m < 5 ? 1 : 0);
        }
        x.vote(1, true);
        x.vote(2, false);
        for (int m = 0; m < 6; m++) {
            int voter = m;
            due(m + " can vote", x.member(m, 11), m > 2 && m < 5 ? 1 : 0);
            if (m < 3 || m == 5) {
                dueThrow("vote of " + m, STATE, bank -> bank.vote(voter, true));
            }
        }
        dueMotion(0, 50, 1, 1);
    }

    private static void whoComesLaterCanVote() {
        motionWithOthers(2);
        x.vote(1, true);
        x.join();
        due("who came can vote", x.member(3, 11), 1);
        due("vote", x.vote(3, true), 1);
        motionWithOthers(2);
        x.vote(1, true);
        x.join();
        x.join();
        due("two of four", x.vote(2, true), 0);
        due("three of four", x.vote(3, true), 1);
    }

    private static void carriedByMoreThanHalf() {
        for (int others = 1; others <= 7; others++) {
            motionWithOthers(others);
            for (int voted = 1; voted <= MORE_THAN_HALF[others]; voted++) {
                due("vote " + voted + " of " + others, x.vote(voted, true), voted == MORE_THAN_HALF[others] ? 1 : 0);
                due("balance", balance(0), voted == MORE_THAN_HALF[others] ? 0 : -50);
            }
        }
    }

    private static void minutesAreForgiven() {
        motionWithOthers(3);
        x.takeBack();
        x.move(0, 30);
        x.vote(1, true);
        due("balance", balance(0), -50);
        due("the sum that was forgiven", x.count(3), 0);
        x.vote(2, true);
        due("balance", balance(0), -20);
        due("the sum that was forgiven", x.count(3), 30);
        due("forgiven to the member", x.member(0, 10), 30);
        due("the common account", x.count(2), 0);
        dueNoMotion();
        x.move(0, 20);
        x.vote(1, true);
        x.vote(2, true);
        due("the sum that was forgiven", x.count(3), 50);
        due("forgiven to the member", x.member(0, 10), 50);
    }

    private static void failedByAtLeastHalf() {
        for (int others = 1; others <= 7; others++) {
            motionWithOthers(others);
            for (int voted = 1; voted <= AT_LEAST_HALF[others]; voted++) {
                due("vote " + voted + " of " + others, x.vote(voted, false), voted == AT_LEAST_HALF[others] ? 2 : 0);
                due("the motion", x.count(9), voted == AT_LEAST_HALF[others] ? NONE : 0);
            }
        }
    }

    private static void nothingIsForgiven() {
        motionWithOthers(2);
        x.vote(2, false);
        dueNoMotion();
        due("balance", balance(0), -50);
        due("the sum that was forgiven", x.count(3), 0);
        due("forgiven to the member", x.member(0, 10), 0);
    }

    private static void neitherWithoutOthers() {
        debtorAlone();
        x.move(0, 50);
        dueMotion(0, 50, 0, 0);
        x.pass(1);
        dueMotion(0, 50, 0, 0);
        due("balance", balance(0), -50);
    }

    private static void votesGoWithTheMotion() {
        motionWithOthers(4);
        x.vote(1, true);
        x.vote(2, true);
        x.vote(3, false);
        x.vote(4, false);
        dueNoMotion();
        x.move(0, 50);
        dueMotion(0, 50, 0, 0);
        for (int m = 1; m < 5; m++) {
            due(m + " can vote", x.member(m, 11), 1);
        }
        x.vote(3, true);
        x.vote(1, true);
        due("the third", x.vote(2, true), 1);
        x.give(1, 0, 0, 1);
        x.move(0, 1);
        dueMotion(0, 1, 0, 0);
    }

    /** The first and the last member vote, and the motion goes each way it can. */
    private static void votesOfAllGoWithTheMotion() {
        Call[] ends = {bank -> bank.takeBack(), bank -> bank.vote(4, false), bank -> bank.vote(3, true),
            bank -> bank.give(1, 2, 0, 50) - bank.leave(1)};
        for (int i = 0; i < ends.length; i++) {
            x = new RipeHours();
            joinBare(x, 8);
            x.give(0, 1, 0, 50);
            x.move(1, 50);
            x.vote(0, true);
            x.vote(7, true);
            x.vote(6, false);
            x.vote(5, false);
            x.vote(2, i != 1);
            ends[i].on(x);
            dueNoMotion();
            x.give(3, 4, 0, 1);
            x.move(4, 1);
            dueMotion(4, 1, 0, 0);
            due("0 can vote", x.member(0, 11), 1);
            due("7 can vote", x.member(7, 11), 1);
        }
    }

    private static void forgivingWhenSomeoneLeaves() {
        holds("A member who leaves does not count any more", () -> whoLeavesDoesNotCount());
        holds("nor does the vote (for it)", () -> voteForItLeaves());
        holds("nor does the vote (against it)", () -> voteAgainstItLeaves());
        holds("a motion on that member is gone", () -> motionOnWhoLeavesIsGone());
        holds("It is looked at once more then (and is carried)", () -> carriedAsSomeoneLeaves());
        holds("for being carried first (by the votes of the others)", () -> carriedAsAnOpponentLeaves());
        holds("It is looked at once more then (and has failed)", () -> failedAsSomeoneLeaves());
        holds("It is looked at once more then (and is neither)", () -> neitherAsTheLastOneLeaves());
    }

    private static void whoLeavesDoesNotCount() {
        motionWithOthers(4);
        due("needed of 4", x.votesNeeded(), 3);
        x.leave(4);
        due("needed of 3", x.votesNeeded(), 2);
        x.leave(3);
        due("needed of 2", x.votesNeeded(), 2);
        x.leave(2);
        due("needed of 1", x.votesNeeded(), 1);
        dueMotion(0, 50, 0, 0);
    }

    private static void voteForItLeaves() {
        motionWithOthers(5);
        x.vote(1, true);
        x.vote(2, true);
        x.leave(1);
        dueMotion(0, 50, 1, 0);
        due("two of four", x.vote(3, true), 0);
        due("three of four", x.vote(4, true), 1);
    }

    private static void voteAgainstItLeaves() {
        motionWithOthers(6);
        x.vote(1, false);
        x.vote(2, false);
        x.leave(1);
        dueMotion(0, 50, 0, 1);
        due("two of five", x.vote(3, false), 0);
        due("three of five", x.vote(4, false), 2);
    }

    private static void motionOnWhoLeavesIsGone() {
        motionWithOthers(5);
        x.vote(1, true);
        x.vote(2, false);
        x.give(0, 1, 0, 50);
        due("leave()", x.leave(0), 0);
        dueNoMotion();
        due("the sum that was forgiven", x.count(3), 0);
        due("forgiven to the member", x.member(0, 10), 0);
        due("balance", balance(0), 0);
        x.give(2, 3, 0, 5);
        x.move(3, 5);
        due("who voted can vote on another one", x.member(1, 11), 1);
        due("who has left can vote", x.member(0, 11), 0);
    }

    private static void carriedAsSomeoneLeaves() {
        motionWithOthers(4);
        x.vote(1, true);
        x.vote(2, true);
        dueMotion(0, 50, 2, 0);
        due("leave() answers the balance", x.leave(3), 0);
        dueNoMotion();
        due("balance", balance(0), 0);
        due("forgiven", x.count(3), 50);
    }

    private static void carriedAsAnOpponentLeaves() {
        motionWithOthers(4);
        x.vote(1, true);
        x.vote(2, true);
        x.vote(3, false);
        dueMotion(0, 50, 2, 1);
        x.leave(3);
        dueNoMotion();
        due("balance", balance(0), 0);
        due("forgiven", x.member(0, 10), 50);
    }

    private static void failedAsSomeoneLeaves() {
        motionWithOthers(3);
        x.vote(1, true);
        x.vote(2, false);
        dueMotion(0, 50, 1, 1);
        x.leave(3);
        dueNoMotion();
        due("balance", balance(0), -50);
        motionWithOthers(5);
        x.vote(1, true);
        x.vote(2, false);
        x.vote(3, false);
        x.leave(1);
        dueNoMotion();
        due("forgiven", x.count(3), 0);
    }

    private static void neitherAsTheLastOneLeaves() {
        motionWithOthers(1);
        x.leave(1);
        dueMotion(0, 50, 0, 0);
        due("balance", balance(0), -50);
    }

    // ---- Settings

    private static void settings() {
        holds("0: the limit of debts, 0 to 9999, at first 600", () -> dueSetting(0));
        holds("1: the loan, 0 to 999, at first 120", () -> dueSetting(1));
        holds("2: the idle weeks that do no harm, 0 to 20, at first 4", () -> dueSetting(2));
        holds("3: the decay in percent, 0 to 100, at first 10", () -> dueSetting(3));
        holds("4: the rust, 0 to 300, at first 30", () -> dueSetting(4));
    }

    private static void dueSetting(int setting) {
        int most = GREATEST_SETTINGS[setting];
        due("at first", x.setting(setting), FIRST_SETTINGS[setting]);
        due("set to 0", x.set(setting, 0), FIRST_SETTINGS[setting]);
        due("it", x.setting(setting), 0);
        due("set to the most", x.set(setting, most), 0);
        due("it", x.setting(setting), most);
        dueThrow("-1", ARGUMENT, bank -> bank.set(setting, -1));
        dueThrow("above the most", ARGUMENT, bank -> bank.set(setting, most + 1));
        due("it", x.setting(setting), most);
        for (int other = 0; other < 5; other++) {
            if (other != setting) {
                due("setting " + other, x.setting(other), FIRST_SETTINGS[other]);
            }
        }
    }

    // ---- Input text

    private static void inputText() {
        holds("The buffer has at most 60 characters", () -> atMostSixtyCharacters());
        holds("each the letter \"a\" to \"h\" of the giver", () -> dueNext("", "abcdefgh"));
        holds("\">\"", () -> dueNext("c", ">"));
        holds("that of the taker (another one)", () -> takersAreOthers());
        holds("the digit of a skill, 0 to 4", () -> dueNext("a>b", "01234"));
        holds("\":\"", () -> dueNext("a>b4", ":"));
        holds("minutes, 1 to 600, without leading zeros (the first digit)", () -> dueNext("a>b0:", "123456789"));
        holds("minutes, 1 to 600 (the second digit)", () -> secondDigits());
        holds("minutes, 1 to 600 (the third digit)", () -> thirdDigits());
        holds("minutes, 1 to 600 (no fourth digit)", () -> noFourthDigit());
        holds("one or more deals with \";\" between them", () -> moreDeals());
        holds("The buffer is read from left to right", () -> theFirstErrorCounts());
        holds("if no row of deals, of any length, begins with the characters before it and this character",
            () -> rowsOfAnyLength());
    }

    private static void atMostSixtyCharacters() {
        for (int i = 1; i <= 60; i++) {
            due("append()", x.append('a'), i);
        }
        dueThrow("one more", STATE, bank -> bank.append('a'));
        due("its length", x.clearBuffer(), 60);
    }

    /** Behind the good signs just these are no error. */
    private static void dueNext(String signs, String good) {
        for (char next = 33; next <= 126; next++) {
            x = new RipeHours();
            type(x, signs);
            due("firstError() of " + signs, x.firstError(), signs.length());
            x.append(next);
            int want = signs.length() + (good.indexOf(next) >= 0 ? 1 : 0);
            due("firstError() of " + signs + next, x.firstError(), want);
        }
    }

    private static void takersAreOthers() {
        String letters = "abcdefgh";
        for (int giver = 0; giver < 8; giver++) {
            char letter = letters.charAt(giver);
            dueNext(letter + ">", letters.replace(String.valueOf(letter), ""));
        }
        dueNext("a>b0:1;b>", "acdefgh");
    }

    private static void secondDigits() {
        for (char first = '1'; first <= '9'; first++) {
            dueNext("a>b0:" + first, "0123456789;");
        }
    }

    private static void thirdDigits() {
        String[] any = {"10", "19", "50", "59"};
        for (String two : any) {
            dueNext("a>b0:" + two, "0123456789;");
        }
        dueNext("a>b0:60", "0;");
        String[] none = {"61", "69", "70", "90", "99"};
        for (String two : none) {
            dueNext("a>b0:" + two, ";");
        }
    }

    private static void noFourthDigit() {
        String[] all = {"100", "109", "599", "600"};
        for (String three : all) {
            dueNext("a>b0:" + three, ";");
        }
    }

    private static void moreDeals() {
        dueNext("a>b0:1;", "abcdefgh");
        dueNext("a>b0:1;c", ">");
        dueNext("a>b0:1;c>d", "01234");
        dueNext("a>b0:1;c>d4", ":");
        dueNext("a>b0:60;c>d4:", "123456789");
        dueNext("a>b0:600;c>d4:6", "0123456789;");
        dueNext("a>b0:6;c>d4:60", "0;");
        dueNext("a>b0:600;b>a1:600;a>b0:600", ";");
    }

    private static void theFirstErrorCounts() {
        type(x, "a>a0:0;;?");
        due("the first of some errors", x.firstError(), 2);
        x.clearBuffer();
        type(x, "?a>b0:1");
        due("good signs behind an error", x.firstError(), 0);
        x.clearBuffer();
        type(x, "a>b0:1;a>b0:601;a>b0:1");
        due("an error between", x.firstError(), 14);
        due("its length", x.clearBuffer(), 22);
    }

    private static void rowsOfAnyLength() {
        type(x, "a>b0:100;a>b0:100;a>b0:100;a>b0:100;a>b0:100;a>b0:100;");
        String[] ends = {"a>b0:1", "a>b0:6", "aa", "a>b", "a"};
        int[] errors = {60, 60, 55, 57, 55};
        type(x, ends[0]);
        due("a row of 60", x.firstError(), errors[0]);
        for (int i = 1; i < ends.length; i++) {
            x.clearBuffer();
            type(x, "a>b0:100;a>b0:100;a>b0:100;a>b0:100;a>b0:100;a>b0:100;" + ends[i]);
            due("with " + ends[i] + " at the end", x.firstError(), errors[i]);
        }
        x.clearBuffer();
        type(x, "a>b0:100;a>b0:100;a>b0:100;a>b0:100;a>b0:100;a>b0:100;h>g4:");
        due("what 60 signs can't hold whole", x.firstError(), 59);
        type(x, "0");
        due("with an error at the end", x.firstError(), 59);
    }

    // ---- Undo

    private static void undo() {
        holds("Each method that is marked \"undoable\" saves the state from before it", () -> undoableCallsSave());
        holds("and does not throw an exception", () -> throwingCallsDoNotSave());
        holds("Each method that is marked (the others save nothing)", () -> otherCallsDoNotSave());
        holds("(also if it changes nothing)", () -> savesWhereNothingChanges());
        holds("all, also what is counted so far", () -> allIsRestored());
        holds("all (of each member and skill)", () -> allOfEachMemberIsRestored());
        holds("but the buffer", () -> bufferIsNotRestored());
        holds("and the saved states", () -> savedStatesAreNotRestored());
        holds("At most 6 states are saved", () -> atMostSixStates());
        holds("the oldest one is dropped first", () -> theOldestIsDropped());
        holds("the oldest one is dropped first (again and again)", () -> savedStatesGoRound());
        holds("A call that throws an exception changes nothing (the saved states, too)",
            () -> throwingKeepsTheSavedStates());
    }

    /** Four members, 1 with a debt, a motion on it with a vote for it, and room for two more saved states. */
    private static void town(RipeHours bank) {
        join(bank, 4);
        bank.give(0, 1, 0, 310);
        bank.give(2, 1, 1, 10);
        bank.pass(2);
        bank.move(1, 200);
        bank.vote(0, true);
        bank.set(0, 1);
        bank.set(0, 2);
        bank.undo();
        bank.undo();
    }

    private static Call[] undoables() {
        return new Call[] {bank -> bank.join(), bank -> bank.leave(0), bank -> bank.leave(2), bank -> bank.leave(3),
            bank -> bank.give(3, 0, 2, 77), bank -> bank.give(0, 1, 0, 33), bank -> bank.donate(2, 3),
            bank -> bank.pass(1), bank -> bank.pass(9), bank -> bank.set(0, 5), bank -> bank.set(1, 5),
            bank -> bank.set(2, 5), bank -> bank.set(3, 5), bank -> bank.set(4, 5), bank -> bank.vote(2, true),
            bank -> bank.vote(2, false), bank -> bank.vote(3, true), bank -> bank.takeBack()};
    }

    private static void undoableCallsSave() {
        Call[] all = undoables();
        for (int i = 0; i < all.length; i++) {
            RipeHours bank = new RipeHours();
            town(bank);
            RipeHours twin = new RipeHours();
            town(twin);
            int saved = bank.count(13);
            all[i].on(bank);
            due("saved states after call " + i, bank.count(13), saved + 1);
            due("undo() of call " + i, bank.undo(), saved);
            dueSame("undo() of call " + i, bank, twin);
        }
        joinBare(x, 2);
        x.give(0, 1, 0, 5);
        due("saved states", x.count(13), 4);
        x.move(1, 5);
        due("saved states after move()", x.count(13), 5);
        x.undo();
        dueNoMotion();
        type(x, "a>b0:1;b>a0:1");
        x.run();
        due("saved states after run()", x.count(13), 5);
        x.undo();
        due("deals", x.count(5), 1);
    }

    private static void throwingCallsDoNotSave() {
        joinBare(x, 2);
        Call[] all = {bank -> bank.leave(2), bank -> bank.give(0, 0, 0, 1), bank -> bank.donate(0, 1),
            bank -> bank.pass(0), bank -> bank.set(0, -1), bank -> bank.move(0, 1), bank -> bank.vote(0, true),
            bank -> bank.takeBack(), bank -> bank.run()};
        for (int i = 0; i < all.length; i++) {
            due("call " + i + " throws", outcome(x, all[i]).endsWith("Exception") ? 1 : 0, 1);
            due("saved states after call " + i, x.count(13), 3);
        }
    }

    private static void otherCallsDoNotSave() {
        joinBare(x, 2);
        x.append('a');
        x.firstError();
        x.clearBuffer();
        x.clearBuffer();
        x.member(0, 1);
        x.skill(0, 1, 0);
        x.count(13);
        x.setting(4);
        x.worth(0, 1, 60);
        x.longest(0, 1, 2);
        x.cheapest(0, 1, 60);
        x.decayIn(0, 100);
        x.votesNeeded();
        x.ripest(0);
        x.minuteWorth();
        x.digest();
        due("saved states", x.count(13), 3);
    }

    private static void savesWhereNothingChanges() {
        due("set() to what it was", x.set(0, 600), 600);
        due("saved states", x.count(13), 1);
        type(x, "a>b0:1");
        due("run() of nothing", x.run(), 0);
        due("saved states", x.count(13), 2);
        due("undo()", x.undo(), 1);
        due("undo()", x.undo(), 0);
    }

    private static void allIsRestored() {
        join(x, 3);
        long before = x.digest();
        x.give(0, 1, 0, 310);
        x.undo();
        due("digest after give() and undo()", x.digest(), before);
        x.set(0, 9999);
        x.give(0, 1, 0, 310);
        before = x.digest();
        x.pass(50);
        x.undo();
        due("digest after pass() and undo()", x.digest(), before);
        due("weeks", x.count(4), 0);
        due("deals", x.count(5), 1);
        x.undo();
        due("deals", x.count(5), 0);
        due("minutes given", x.member(0, 5), 0);
        due("minutes taken", x.member(1, 6), 0);
        due("values earned", x.member(0, 7), 0);
        due("values paid", x.member(1, 8), 0);
    }

    private static void allOfEachMemberIsRestored() {
        join(x, 8);
        for (int m = 0; m < 8; m++) {
            for (int skill = 0; skill < 5; skill++) {
                x.give(m, (m + 1 + skill % 2) % 8, skill, 31 + 10 * m + skill);
            }
        }
        x.pass(3);
        x.give(0, 7, 0, 600);
        x.give(2, 3, 0, 200);
        x.pass(6);
        x.move(7, 2);
        for (int m = 0; m < 4; m++) {
            x.vote(m, true);
        }
        x.give(6, 5, 1, 3);
        x.give(4, 5, 1, 3);
        due("the sum that was forgiven", x.count(3), 2);
        due("the decayed minutes", x.member(0, 9) > 0 ? 1 : 0, 1);
        long before = hashOfMembers();
        x.pass(9);
        x.undo();
        due("the members after pass() and undo()", hashOfMembers(), before);
    }

    private static long hashOfMembers() {
        long hash = 0;
        for (int m = 0; m < 8; m++) {
            for (int what = 0; what < 12; what++) {
                hash = 31 * hash + x.member(m, what);
            }
            for (int skill = 0; skill < 5; skill++) {
                hash = 31 * hash + practice(m, skill);
            }
        }
        return hash;
    }

    private static void bufferIsNotRestored() {
        type(x, "a>b");
        x.join();
        type(x, "0:");
        x.undo();
        due("the length of the buffer", x.clearBuffer(), 5);
        x.join();
        type(x, "b>a1:5");
        x.run();
        x.undo();
        due("the length of the buffer after run() and undo()", x.clearBuffer(), 0);
    }

    private static void savedStatesAreNotRestored() {
        x.set(0, 1);
        x.set(0, 2);
        x.set(0, 3);
        due("undo()", x.undo(), 2);
        due("undo()", x.undo(), 1);
        due("saved states", x.count(13), 1);
        due("undo()", x.undo(), 0);
        due("the limit", x.setting(0), 600);
    }

    private static void atMostSixStates() {
        for (int i = 1; i <= 8; i++) {
            x.set(0, i);
            due("saved states after " + i, x.count(13), Math.min(i, 6));
        }
    }

    private static void theOldestIsDropped() {
        for (int i = 1; i <= 6; i++) {
            x.set(0, i);
        }
        for (int left = 5; left >= 0; left--) {
            due("undo()", x.undo(), left);
            due("the limit", x.setting(0), left == 0 ? 600 : left);
        }
        for (int i = 1; i <= 7; i++) {
            x.set(0, i);
        }
        for (int left = 5; left >= 0; left--) {
            due("undo()", x.undo(), left);
            due("the limit", x.setting(0), left + 1);
        }
        dueThrow("one more undo()", STATE, bank -> bank.undo());
    }

    private static void savedStatesGoRound() {
        int value = 0;
        for (int round = 0; round < 20; round++) {
            for (int i = 0; i < 9; i++) {
                value++;
                x.set(0, value);
            }
            for (int left = 5; left >= 2; left--) {
                due("undo()", x.undo(), left);
                value--;
                due("the limit", x.setting(0), value);
            }
        }
    }

    private static void throwingKeepsTheSavedStates() {
        for (int i = 1; i <= 6; i++) {
            x.set(0, i);
        }
        dueThrow("a call that throws", ARGUMENT, bank -> bank.set(0, -1));
        dueThrow("a call that throws", INDEX, bank -> bank.leave(0));
        dueThrow("a call that throws", STATE, bank -> bank.takeBack());
        for (int left = 5; left >= 0; left--) {
            due("undo()", x.undo(), left);
            due("the limit", x.setting(0), left == 0 ? 600 : left);
        }
    }
}
