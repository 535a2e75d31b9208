/** Each sentence of the promises that names a boundary of what is done or answered, in a test of its own. */
public final class RipeHoursAnswersTest extends SentenceChecks {
    /** How many votes carry a motion, of 0 to 7 other members. */
    private static final int[] VOTES_NEEDED = {1, 1, 2, 2, 3, 3, 4, 4};

    public static void main(String[] args) {
        newObjects();
        members();
        weeksAndSettings();
        forgiving();
        texts();
        undo();
        memberProperties();
        numbers();
        worths();
        longestDeals();
        cheapestGivers();
        decays();
        votes();
        ripest();
        worthOfMinutes();
        digests();
        nothingIsChanged();
        end();
    }

    // ---- Promise 1

    private static void newObjects() {
        holds("Creates a bank without members", () -> {
            due("who came", x.count(0), 0);
            due("who are there", x.count(1), 0);
            dueThrow("member(0, 0)", INDEX, bank -> bank.member(0, 0));
            due("loans", x.count(8), 0);
        });
        holds("in the week 0", () -> due("it", x.count(4), 0));
        holds("with an empty buffer", () -> {
            due("firstError()", x.firstError(), 0);
            due("clearBuffer()", x.clearBuffer(), 0);
        });
        holds("NONE = -1: There is nothing to return", () -> due("it", RipeHours.NONE, -1));
        holds("Creates a bank (apart from all others)", () -> {
            RipeHours other = new RipeHours();
            other.join();
            other.set(0, 5);
            other.append('a');
            due("digest()", x.digest(), new RipeHours().digest());
        });
    }

    // ---- Promises 2 to 5

    private static void members() {
        holds("join: Returns the number of the member", () -> {
            due("the first", x.join(), 0);
            join(x, 6);
            due("the eighth", x.join(), 7);
        });
        holds("leave: the balance goes to the common account", () -> {
            joinBare(x, 3);
            x.give(0, 1, 0, 50);
            x.leave(0);
            due("balance", balance(0), 0);
            due("the common account", x.count(2), 50);
            x.leave(2);
            due("the common account after 0", x.count(2), 50);
        });
        holds("leave: and the loan is gone", () -> {
            join(x, 2);
            x.leave(0);
            due("loan", loan(0), 0);
            due("loans", x.count(8), 120);
            due("the common account", x.count(2), -120);
        });
        holds("leave: Returns the balance", () -> {
            join(x, 2);
            x.donate(1, 120);
            due("leave() with 120", x.leave(0), 120);
            due("leave() with 0", x.leave(1), 0);
        });
        holds("give: Returns its value", () -> {
            join(x, 2);
            due("of 1", x.give(0, 1, 0, 1), 1);
            due("of 600", x.give(0, 1, 0, 600), 600);
            due("of 11 at 12", x.give(0, 1, 0, 11), 13);
        });
        holds("donate: A member gives minutes to the common account", () -> {
            join(x, 2);
            x.donate(0, 119);
            due("balance", balance(0), 1);
            due("the common account", x.count(2), -121);
            due("busy", x.member(0, 4), 0);
            due("loan", loan(0), 120);
        });
        holds("donate: Returns the balance then", () -> {
            x.set(1, 999);
            x.join();
            due("after 1", x.donate(0, 1), 998);
            due("after all", x.donate(0, 998), 0);
        });
        holds("donate: member: the number of the member (when others have left)", () -> {
            join(x, 3);
            x.leave(0);
            due("of the last one", x.donate(2, 20), 100);
            due("of the one between", x.donate(1, 120), 0);
            due("the common account", x.count(2), -100);
        });
    }

    // ---- Promises 6 and 7

    private static void weeksAndSettings() {
        holds("pass: Returns the minutes that decay in them (of each week)", () -> {
            x.join();
            due("five weeks", x.pass(5), 12);
            due("two weeks", x.pass(2), 10 + 9);
            due("decayed", x.member(0, 9), 31);
        });
        holds("pass: Returns the minutes that decay in them (of each member)", () -> {
            join(x, 8);
            x.leave(3);
            due("five weeks", x.pass(5), 7 * 12);
        });
        holds("pass: Returns the minutes that decay in them (none without members)",
            () -> due("50 weeks", x.pass(50), 0));
        holds("pass: Lets weeks pass (50)", () -> {
            x.join();
            x.set(3, 1);
            due("50 weeks", x.pass(50), 120 - 99);
            due("number of the week", x.count(4), 50);
            due("idle weeks", x.member(0, 3), 50);
        });
        holds("pass: Undoable, as one call", () -> {
            x.join();
            x.pass(50);
            due("saved states", x.count(13), 2);
            x.undo();
            due("number of the week", x.count(4), 0);
            due("balance", balance(0), 120);
        });
        holds("set: Returns the previous value", () -> {
            due("the first", x.set(4, 300), 30);
            due("the most", x.set(4, 0), 300);
            due("the least", x.set(4, 0), 0);
        });
        holds("set: Changes a setting (from now on, for who is there)", () -> {
            join(x, 2);
            x.set(1, 5);
            due("loan of before", loan(0), 120);
            x.pass(4);
            x.set(2, 3);
            due("fewer harmless weeks", x.pass(1), 24);
            x.set(2, 6);
            due("more harmless weeks", x.pass(1), 0);
            due("the seventh", x.pass(1), 20);
        });
    }

    // ---- Promises 8 to 10

    private static void debtWithOthers(int others) {
        x = new RipeHours();
        joinBare(x, Math.max(2, others + 1));
        x.give(1, 0, 0, 50);
        if (others == 0) {
            x.leave(1);
        }
    }

    private static void forgiving() {
        holds("move: Returns how many other members there are", () -> {
            for (int others = 0; others <= 7; others++) {
                debtWithOthers(others);
                due("move()", x.move(0, 1), others);
            }
            debtWithOthers(5);
            x.leave(3);
            due("move() when one has left", x.move(0, 50), 4);
        });
        holds("move: (Without other members it stays.)", () -> {
            debtWithOthers(0);
            x.move(0, 50);
            x.pass(50);
            x.set(0, 0);
            dueMotion(0, 50, 0, 0);
            x.join();
            dueMotion(0, 50, 0, 0);
            due("the vote of who came", x.vote(2, true), 1);
        });
        holds("vote: (When it is carried, the minutes are forgiven whatever the balance is then.)", () -> {
            int[] paidBack = {0, 1, 49, 50, 51, 600};
            for (int minutes : paidBack) {
                debtWithOthers(1);
                x.move(0, 50);
                if (minutes > 0) {
                    x.give(0, 1, 1, minutes);
                }
                x.vote(1, true);
                due("balance when " + minutes + " are paid back", balance(0), minutes);
                due("the sum that was forgiven", x.count(3), 50);
            }
            debtWithOthers(1);
            x.move(0, 50);
            x.give(1, 0, 1, 100);
            x.vote(1, true);
            due("balance when the debt is greater", balance(0), -100);
        });
        holds("vote: Returns 0 if the motion is open then", () -> {
            debtWithOthers(3);
            x.move(0, 50);
            due("for it", x.vote(1, true), 0);
            due("against it", x.vote(2, false), 0);
            dueMotion(0, 50, 1, 1);
        });
        holds("vote: 1 if it is carried", () -> {
            debtWithOthers(3);
            x.move(0, 50);
            x.vote(1, true);
            x.vote(2, false);
            due("it", x.vote(3, true), 1);
            dueNoMotion();
        });
        holds("vote: 2 if it has failed", () -> {
            debtWithOthers(3);
            x.move(0, 50);
            x.vote(1, true);
            x.vote(2, false);
            due("it", x.vote(3, false), 2);
            dueNoMotion();
        });
        holds("vote: isFor: whether for it, otherwise against it", () -> {
            debtWithOthers(7);
            x.move(0, 50);
            x.vote(1, true);
            dueMotion(0, 50, 1, 0);
            x.vote(2, false);
            dueMotion(0, 50, 1, 1);
        });
        holds("takeBack: Returns how many have voted", () -> {
            debtWithOthers(7);
            x.move(0, 50);
            due("nobody", x.takeBack(), 0);
            x.move(0, 50);
            x.vote(1, true);
            x.vote(2, true);
            x.vote(3, true);
            x.vote(4, false);
            x.vote(5, false);
            due("three for it, two against it", x.takeBack(), 5);
            x.move(0, 50);
            x.vote(7, false);
            x.vote(6, true);
            x.leave(7);
            due("one has left", x.takeBack(), 1);
        });
        holds("takeBack: Takes the motion back", () -> {
            debtWithOthers(3);
            x.move(0, 50);
            x.vote(1, true);
            x.takeBack();
            dueNoMotion();
            due("balance", balance(0), -50);
            due("who voted can vote", x.member(1, 11), 0);
            x.move(0, 20);
            dueMotion(0, 20, 0, 0);
            due("who voted can vote on the next one", x.member(1, 11), 1);
        });
    }

    // ---- Promises 11 to 14

    private static void texts() {
        holds("append: Returns the new length of the buffer", () -> {
            due("the first", x.append(33), 1);
            for (int i = 2; i < 60; i++) {
                x.append(126);
            }
            due("the last", x.append(33), 60);
        });
        holds("append: Appends a character (33 and 126)", () -> {
            long hash = x.digest();
            x.append(33);
            x.append(126);
            long two = x.digest();
            due("the digest", two, ((hash + 2) * 31 + 33) * 31 + 126);
        });
        holds("clearBuffer: Returns the length that it had", () -> {
            due("of an empty one", x.clearBuffer(), 0);
            x.append(97);
            due("of 1", x.clearBuffer(), 1);
            for (int i = 0; i < 60; i++) {
                x.append(97);
            }
            due("of 60", x.clearBuffer(), 60);
            due("again", x.clearBuffer(), 0);
        });
        holds("clearBuffer: Clears the buffer", () -> {
            type(x, "zzz");
            x.clearBuffer();
            type(x, "b>a0:1");
            due("firstError()", x.firstError(), 6);
        });
        holds("firstError: Returns the index of the first character that is a syntax error", () -> {
            String[] signs = {"z", "az", "a>a", "a>bz", "a>b0z", "a>b0:0", "a>b0:601", "a>b0:1;;", "a>b0:1;a>bz"};
            for (String one : signs) {
                x.clearBuffer();
                type(x, one);
                due("in " + one, x.firstError(), one.length() - 1);
                type(x, "zz");
                due("in " + one + "zz", x.firstError(), one.length() - 1);
            }
        });
        holds("firstError: the length of the buffer if there is none", () -> {
            String signs = "a>b0:12;c>d4:600";
            due("of an empty one", x.firstError(), 0);
            for (int i = 0; i < signs.length(); i++) {
                x.append(signs.charAt(i));
                due("of " + signs.substring(0, i + 1), x.firstError(), i + 1);
            }
        });
        holds("firstError: Finds the first syntax error of the buffer (which stays)", () -> {
            type(x, "a>b0:1x");
            x.firstError();
            x.firstError();
            due("its length", x.clearBuffer(), 7);
        });
        runs();
    }

    private static void runs() {
        holds("run: Makes the deals in the buffer, one after the other", () -> {
            joinBare(x, 3);
            type(x, "a>b0:300;a>b0:10;b>c4:600;c>a2:600");
            due("run()", x.run(), 4);
            due("balance", balance(0), 311 - 600);
            due("balance", balance(1), -311 + 600);
            due("balance", balance(2), 0);
            due("practice", practice(0, 0), 310);
            due("practice", practice(1, 4), 600);
            due("practice", practice(2, 2), 600);
            due("deals", x.count(5), 4);
        });
        holds("run: one after the other (an earlier deal makes a later one possible)", () -> {
            joinBare(x, 3);
            x.set(0, 0);
            type(x, "b>a0:1;a>b0:1");
            due("the other way round", x.run(), 0);
            x.set(0, 1);
            type(x, "a>b0:1;b>c0:1;b>a0:1;a>b0:1");
            due("run()", x.run(), 4);
        });
        holds("run: up to the first one for which give() would throw (no such member)", () -> {
            joinBare(x, 3);
            dueRun("a>b0:1;d>a0:1;a>b0:1", 1);
            dueRun("a>b0:1;b>a0:1;a>d0:1;a>b0:1", 2);
            dueRun("h>g0:1;a>b0:1", 0);
        });
        holds("run: up to the first one for which give() would throw (who has left)", () -> {
            joinBare(x, 3);
            x.leave(2);
            dueRun("a>b0:1;c>a0:1;a>b0:1", 1);
            dueRun("a>b0:1;b>a0:1;a>c0:1;a>b0:1", 2);
        });
        holds("run: up to the first one for which give() would throw (a deal that is refused)", () -> {
            joinBare(x, 3);
            dueRun("a>b0:600;b>c0:1;a>b1:2;a>c0:1", 2);
            due("balance", balance(1), -599);
            due("balance", balance(2), -1);
            dueRun("a>b2:1;a>b3:1", 1);
        });
        holds("run: a deal that is refused (by its value in its skill)", () -> {
            joinBare(x, 2);
            x.give(0, 1, 3, 300);
            x.set(0, 310);
            dueRun("a>b3:10", 0);
            dueRun("a>b4:10", 1);
            x.set(0, 321);
            dueRun("a>b3:10;a>b0:1", 1);
        });
        holds("run: and clears the buffer", () -> {
            joinBare(x, 2);
            dueRun("a>b0:1", 1);
            dueRun("a>c0:1", 0);
            dueThrow("run() again", ARGUMENT, bank -> bank.run());
        });
        holds("run: Undoable, as one call", () -> {
            joinBare(x, 2);
            long before = x.digest();
            dueRun("a>b0:1;a>b0:1;a>b0:1", 3);
            due("saved states", x.count(13), 4);
            x.undo();
            due("digest", x.digest(), before);
        });
        holds("run: also if none is made", () -> {
            joinBare(x, 2);
            dueRun("a>c0:1", 0);
            due("saved states", x.count(13), 4);
            due("undo()", x.undo(), 3);
            due("who are there", x.count(1), 2);
        });
        holds("run: Returns how many are made", () -> {
            joinBare(x, 2);
            dueRun("a>b0:1", 1);
            dueRun("a>b0:1;a>b0:1;a>b0:1;a>b0:1;a>b0:1;a>b0:1;a>b0:1;a>b0:1", 8);
            dueRun("a>b0:100;a>b0:100;a>b0:100;b>a0:100;b>a0:100;b>a0:100;a>b1:9", 7);
            due("deals", x.count(5), 16);
        });
    }

    private static void dueRun(String signs, int made) {
        type(x, signs);
        due("run() of " + signs, x.run(), made);
        due("the buffer after " + signs, x.clearBuffer(), 0);
    }

    // ---- Promise 15

    private static void undo() {
        holds("undo: Restores the latest saved state, and drops it", () -> {
            x.join();
            x.set(0, 1);
            x.set(0, 2);
            x.undo();
            due("the limit", x.setting(0), 1);
            x.undo();
            due("the limit", x.setting(0), 600);
            x.set(0, 3);
            x.undo();
            due("the limit", x.setting(0), 600);
            x.undo();
            due("who came", x.count(0), 0);
        });
        holds("undo: Returns how many saved states are left", () -> {
            for (int i = 0; i < 8; i++) {
                x.join();
            }
            for (int left = 5; left >= 0; left--) {
                due("undo()", x.undo(), left);
                due("saved states", x.count(13), left);
            }
            due("who came", x.count(0), 2);
        });
        holds("undo: Restores the latest saved state (a member who joined comes anew)", () -> {
            join(x, 2);
            x.give(1, 0, 3, 310);
            x.pass(1);
            for (int i = 0; i < 3; i++) {
                x.undo();
            }
            x.set(1, 7);
            due("join()", x.join(), 1);
            due("balance", balance(1), 7);
            due("practice", practice(1, 3), 0);
            due("minutes given", x.member(1, 5), 0);
            due("idle weeks", x.member(1, 3), 0);
            due("busy", x.member(1, 4), 0);
        });
        holds("undo: Restores the latest saved state (with the votes)", () -> {
            debtWithOthers(5);
            x.move(0, 50);
            x.vote(1, true);
            x.vote(2, false);
            x.vote(3, false);
            x.takeBack();
            due("undo()", x.undo(), 5);
            dueMotion(0, 50, 1, 2);
            due("who voted can vote", x.member(2, 11), 0);
            x.leave(2);
            dueMotion(0, 50, 1, 1);
            x.undo();
            dueMotion(0, 50, 1, 2);
            due("vote", x.vote(4, false), 2);
        });
    }

    // ---- Promises 16 and 17

    private static void dueMember(int number, int... properties) {
        for (int i = 0; i < properties.length; i++) {
            due("property " + i + " of " + number, x.member(number, i), properties[i]);
        }
    }

    private static void memberProperties() {
        holds("member: 0: 1 if there, 0 if the member has left", () -> {
            join(x, 2);
            x.leave(0);
            due("who has left", x.member(0, 0), 0);
            due("who is there", x.member(1, 0), 1);
        });
        holds("member: 4: 1 if busy, otherwise 0", () -> {
            join(x, 2);
            due("at first", x.member(0, 4), 0);
            x.give(0, 1, 0, 1);
            due("after a deal", x.member(0, 4), 1);
            x.give(0, 1, 0, 1);
            due("after two", x.member(0, 4), 1);
            x.pass(1);
            due("in the next week", x.member(0, 4), 0);
        });
        holds("member: 5: minutes given so far; 6: minutes taken so far", () -> {
            joinBare(x, 3);
            x.give(0, 1, 0, 300);
            x.give(0, 2, 0, 100);
            x.give(1, 0, 0, 7);
            dueMember(0, 1, 403, 0, 0, 1, 400, 7);
            dueMember(1, 1, -293, 0, 0, 1, 7, 300);
            dueMember(2, 1, -110, 0, 0, 1, 0, 100);
        });
        holds("member: 7: values earned so far (with what went to the loan); 8: values paid so far", () -> {
            join(x, 2);
            x.give(0, 1, 0, 300);
            x.give(0, 1, 0, 100);
            due("earned", x.member(0, 7), 410);
            due("balance", balance(0), 120 + 410 - 120);
            due("paid", x.member(1, 8), 410);
            due("earned by the taker", x.member(1, 7), 0);
            due("paid by the giver", x.member(0, 8), 0);
        });
        holds("member: 9: minutes that decayed so far", () -> {
            join(x, 2);
            x.pass(7);
            due("decayed", x.member(0, 9), 12 + 10 + 9);
            x.donate(0, 5);
            due("after donate()", x.member(0, 9), 31);
        });
        holds("member: 10: minutes that were forgiven so far", () -> {
            debtWithOthers(1);
            x.move(0, 20);
            due("while it is open", x.member(0, 10), 0);
            x.vote(1, true);
            x.move(0, 30);
            x.vote(1, true);
            due("of the member", x.member(0, 10), 50);
            due("of another one", x.member(1, 10), 0);
        });
        holds("member: 11: 1 if the member could vote now, otherwise 0", () -> {
            debtWithOthers(4);
            x.leave(4);
            due("without a motion", x.member(1, 11), 0);
            x.move(0, 50);
            x.vote(1, true);
            due("whose debt it is", x.member(0, 11), 0);
            due("who has voted", x.member(1, 11), 0);
            due("who has not", x.member(2, 11), 1);
            due("who has left", x.member(4, 11), 0);
            x.vote(2, true);
            due("when it is carried", x.member(3, 11), 0);
        });
        holds("member: so far (of who has left, too)", () -> {
            joinBare(x, 3);
            x.give(0, 1, 0, 300);
            x.give(1, 0, 0, 100);
            x.pass(7);
            x.leave(0);
            dueMember(0, 0, 0, 0, 6, 0, 300, 100, 300, 100, 38, 0, 0);
        });
        holds("skill: 0: practice; 1: ripeness", () -> {
            joinBare(x, 2);
            x.give(0, 1, 4, 599);
            due("practice", x.skill(0, 4, 0), 599);
            due("ripeness", x.skill(0, 4, 1), 1);
            due("practice of another one", x.skill(1, 4, 0), 0);
            due("ripeness of another one", x.skill(1, 4, 1), 0);
        });
    }

    // ---- Promises 18 and 19

    private static void numbers() {
        holds("count: 0: members who came so far; 1: those who are there", () -> {
            join(x, 8);
            x.leave(0);
            x.leave(7);
            due("who came", x.count(0), 8);
            due("who are there", x.count(1), 6);
        });
        holds("count: 5: deals so far", () -> {
            joinBare(x, 2);
            x.give(0, 1, 0, 1);
            x.give(0, 1, 0, 1);
            dueRun("a>b0:1;b>a0:1", 2);
            due("deals", x.count(5), 4);
            x.leave(0);
            due("when one has left", x.count(5), 4);
        });
        holds("count: 6: the sum of the balances above 0; 7: the sum of those below 0 (0 or below)", () -> {
            joinBare(x, 4);
            due("above 0", x.count(6), 0);
            due("below 0", x.count(7), 0);
            x.give(0, 1, 0, 1);
            due("above 0", x.count(6), 1);
            due("below 0", x.count(7), -1);
            x.give(2, 3, 0, 50);
            due("above 0", x.count(6), 51);
            due("below 0", x.count(7), -51);
            x.give(1, 0, 0, 3);
            x.give(3, 2, 0, 100);
            due("above 0", x.count(6), 2 + 50);
            due("below 0", x.count(7), -2 - 50);
        });
        holds("count: 8: the sum of what is left of the loans", () -> {
            join(x, 3);
            x.give(0, 1, 0, 100);
            due("loans", x.count(8), 70 + 120 + 120);
            x.donate(1, 5);
            due("loans after donate()", x.count(8), 70 + 120 + 120);
            x.leave(2);
            due("loans when one has left", x.count(8), 70 + 120);
        });
        holds("count: 9: the member of the motion, NONE without one; 10: the minutes of the motion, 0 without one",
            () -> {
                due("member", x.count(9), NONE);
                due("minutes", x.count(10), 0);
                debtWithOthers(3);
                x.move(0, 7);
                due("member", x.count(9), 0);
                due("minutes", x.count(10), 7);
                x.takeBack();
                due("member", x.count(9), NONE);
                due("minutes", x.count(10), 0);
            });
        holds("count: 11: votes for it; 12: votes against it", () -> {
            debtWithOthers(7);
            x.move(0, 7);
            x.vote(1, true);
            x.vote(2, false);
            x.vote(3, false);
            due("for it", x.count(11), 1);
            due("against it", x.count(12), 2);
            x.takeBack();
            due("for it", x.count(11), 0);
            due("against it", x.count(12), 0);
        });
        holds("count: 13: saved states", () -> {
            due("at first", x.count(13), 0);
            join(x, 6);
            due("after six", x.count(13), 6);
            x.join();
            due("after seven", x.count(13), 6);
            x.undo();
            due("after undo()", x.count(13), 5);
        });
        holds("setting: Returns its value", () -> {
            for (int i = 0; i < 5; i++) {
                x.set(i, 20 - i);
            }
            for (int i = 0; i < 5; i++) {
                due("setting " + i, x.setting(i), 20 - i);
            }
        });
    }

    // ---- Promise 20

    private static void worths() {
        holds("worth: Tells what a deal would be worth", () -> {
            joinBare(x, 3);
            x.set(0, 9999);
            for (int done = 0; done < 11; done++) {
                for (int minutes = 1; minutes <= 19; minutes += 9) {
                    due("of " + minutes, x.worth(0, 1, minutes), minutes * (10 + Math.min(9, done)) / 10);
                }
                due("of 600", x.worth(0, 1, 600), 60 * (10 + Math.min(9, done)));
                practise(x, 1, 300);
            }
        });
        holds("worth: Returns its value (whatever a taker could pay)", () -> {
            x.set(0, 0);
            x.join();
            due("of 600", x.worth(0, 0, 600), 600);
        });
        holds("worth: the number of the giver (also one who has left)", () -> {
            joinBare(x, 2);
            x.give(0, 1, 2, 300);
            x.leave(0);
            due("of 10", x.worth(0, 2, 10), 11);
        });
    }

    // ---- Promise 21

    /** Member 0 gives with the rate 10 + ripeness in the skill 1, and the member 1 has so much room. */
    private static int longestWithRoom(int ripeness, int room) {
        x = new RipeHours();
        joinBare(x, 3);
        x.set(0, 9999);
        for (int left = ripeness * 300; left > 0; left -= 300) {
            x.give(0, 1, 1, 300);
        }
        x.set(0, room - balance(1));
        return x.longest(0, 1, 1);
    }

    private static void longestDeals() {
        holds("longest: Returns the most minutes", () -> {
            int[] ripe = {0, 1, 5, 9};
            for (int ripeness : ripe) {
                for (int room = 1; room <= 40; room++) {
                    int most = longestWithRoom(ripeness, room);
                    due("worth with room " + room, x.worth(0, 1, most) <= room ? 1 : 0, 1);
                    due("worth of one more with room " + room, x.worth(0, 1, most + 1) > room ? 1 : 0, 1);
                    due("value of the longest", x.give(0, 1, 1, most), most * (10 + ripeness) / 10);
                }
            }
        });
        holds("longest: up to 600", () -> {
            due("room for 599", longestWithRoom(0, 599), 599);
            due("room for 600", longestWithRoom(0, 600), 600);
            due("room for 601", longestWithRoom(0, 601), 600);
            due("room for 1138 at 19", longestWithRoom(9, 1138), 599);
            due("room for 1139 at 19", longestWithRoom(9, 1139), 599);
            due("room for 1140 at 19", longestWithRoom(9, 1140), 600);
            due("room for 5000 at 19", longestWithRoom(9, 5000), 600);
        });
        holds("longest: of a deal that would not be refused; NONE if there is none", () -> {
            due("room for 1", longestWithRoom(0, 1), 1);
            due("room for 0", longestWithRoom(0, 0), NONE);
            due("room for 1 at 19", longestWithRoom(9, 1), 1);
            due("room for 0 at 19", longestWithRoom(9, 0), NONE);
            due("less than no room", longestWithRoom(9, -1), NONE);
            due("far less than no room", longestWithRoom(9, -500), NONE);
        });
        holds("longest: NONE if one of both has left", () -> {
            joinBare(x, 3);
            due("while both are there", x.longest(1, 0, 0), 600);
            x.leave(1);
            due("the giver has left", x.longest(1, 0, 0), NONE);
            due("the taker has left", x.longest(0, 1, 0), NONE);
            due("others", x.longest(0, 2, 0), 600);
        });
        holds("longest: or both are the same", () -> {
            joinBare(x, 2);
            due("the member 0", x.longest(0, 0, 0), NONE);
            due("the member 1", x.longest(1, 1, 4), NONE);
            x.leave(1);
            due("who has left", x.longest(1, 1, 4), NONE);
        });
    }

    // ---- Promise 22

    private static void cheapestGivers() {
        holds("cheapest: the one whose value is least", () -> {
            joinBare(x, 4);
            x.give(1, 0, 2, 300);
            x.give(0, 1, 3, 600);
            due("of 10 minutes at 11 and 10", x.cheapest(0, 2, 10), 2);
            due("of 10 minutes in a skill of nobody", x.cheapest(0, 4, 10), 1);
            due("of 10 minutes at 12 and 10", x.cheapest(2, 3, 10), 1);
        });
        holds("cheapest: the one whose value is least (each skill of each member has its own)", () -> {
            joinBare(x, 5);
            x.set(0, 9999);
            x.give(1, 0, 2, 300);
            x.give(3, 0, 2, 600);
            x.give(1, 0, 3, 600);
            x.give(3, 0, 3, 300);
            due("of 10, 11, 10, 12 and 10 for 1", x.cheapest(1, 2, 10), 0);
            due("of 10, 11, 10, 12 and 10 for 0", x.cheapest(0, 2, 10), 2);
            x.leave(2);
            due("of 11, 12 and 10", x.cheapest(0, 2, 10), 4);
            x.leave(4);
            due("of 11 and 12", x.cheapest(0, 2, 10), 1);
            due("of 12 and 11", x.cheapest(0, 3, 10), 3);
        });
        holds("cheapest: the one whose value is least (though another one has the least balance)", () -> {
            joinBare(x, 3);
            x.give(2, 1, 0, 300);
            x.give(1, 2, 3, 600);
            due("of 10 at 300 and 11 at -300", x.cheapest(0, 0, 10), 1);
            due("of 10 and 10", x.cheapest(0, 1, 10), 2);
        });
        holds("cheapest: of several the one with the least balance (at a rate above 10)", () -> {
            joinBare(x, 3);
            x.give(1, 0, 0, 300);
            x.give(2, 0, 0, 300);
            x.set(0, 9999);
            due("of 11 at 300 and 11 at 300", x.cheapest(0, 0, 10), 1);
            x.give(1, 2, 1, 1);
            due("of 11 at 301 and 11 at 299", x.cheapest(0, 0, 10), 2);
        });
        holds("cheapest: of several the one with the least balance", () -> {
            joinBare(x, 4);
            x.give(3, 1, 0, 2);
            x.give(3, 2, 0, 1);
            due("of -2, -1 and 3", x.cheapest(0, 1, 10), 1);
            x.give(1, 2, 1, 2);
            due("of 0, -3 and 3", x.cheapest(0, 4, 10), 2);
            due("of 0, -3 and 0", x.cheapest(3, 4, 10), 2);
            due("of 0, 0 and 3", x.cheapest(2, 4, 10), 0);
        });
        holds("cheapest: of several (values that are equal by rounding)", () -> {
            joinBare(x, 4);
            x.give(1, 0, 0, 300);
            x.give(0, 1, 1, 400);
            due("of 9 minutes at 11 and 10", x.cheapest(2, 0, 9), 1);
            due("of 10 minutes at 11 and 10", x.cheapest(2, 0, 10), 3);
        });
        holds("cheapest: of these the lowest number", () -> {
            joinBare(x, 8);
            due("for 0", x.cheapest(0, 0, 600), 1);
            due("for 1", x.cheapest(1, 0, 600), 0);
            due("for 7", x.cheapest(7, 0, 600), 0);
            x.leave(0);
            due("when 0 has left", x.cheapest(7, 0, 600), 1);
        });
        holds("cheapest: of the other members who are there", () -> {
            joinBare(x, 3);
            x.give(2, 1, 0, 5);
            due("with the least balance", x.cheapest(0, 1, 10), 1);
            due("of the others", x.cheapest(1, 1, 10), 0);
            x.give(1, 2, 2, 5);
            x.leave(1);
            due("who are there", x.cheapest(0, 1, 10), 2);
        });
        holds("cheapest: and whose deal would not be refused", () -> {
            joinBare(x, 3);
            x.give(1, 0, 0, 300);
            x.give(0, 1, 1, 300);
            x.set(0, 10);
            due("up to the limit", x.cheapest(2, 4, 10), 0);
            due("above the limit", x.cheapest(2, 4, 11), NONE);
            x.leave(0);
            due("up to the limit by its value", x.cheapest(2, 0, 9), 1);
            due("above the limit by its value", x.cheapest(2, 0, 10), NONE);
        });
        holds("cheapest: and whose deal would not be refused (in another skill)", () -> {
            joinBare(x, 2);
            x.give(1, 0, 3, 300);
            x.set(0, 310);
            due("up to the limit by its value", x.cheapest(0, 3, 9), 1);
            due("above the limit by its value", x.cheapest(0, 3, 10), NONE);
            due("up to the limit in a skill without practice", x.cheapest(0, 0, 10), 1);
        });
        holds("cheapest: NONE if there is none", () -> {
            joinBare(x, 3);
            x.leave(1);
            x.leave(2);
            due("without others", x.cheapest(0, 0, 1), NONE);
            x.join();
            due("with another one", x.cheapest(0, 0, 1), 3);
            x.set(0, 0);
            due("all refused", x.cheapest(0, 0, 1), NONE);
        });
        holds("cheapest: or the taker has left", () -> {
            joinBare(x, 3);
            x.leave(0);
            due("for who has left", x.cheapest(0, 0, 1), NONE);
            due("for who is there", x.cheapest(1, 0, 1), 2);
        });
    }

    // ---- Promise 23

    private static void decays() {
        holds("decayIn: weeks: 0 to 100", () -> {
            x.set(3, 1);
            x.set(2, 0);
            x.set(1, 999);
            x.join();
            due("0 weeks", x.decayIn(0, 0), 0);
            due("1 week", x.decayIn(0, 1), 9);
            int foreseen = x.decayIn(0, 100);
            due("50 weeks and 50", x.pass(50) + x.pass(50), foreseen);
        });
        holds("decayIn: if nothing else was done (idle weeks go on)", () -> {
            x.join();
            due("4 weeks", x.decayIn(0, 4), 0);
            due("5 weeks", x.decayIn(0, 5), 12);
            x.pass(3);
            due("1 week", x.decayIn(0, 1), 0);
            due("2 weeks", x.decayIn(0, 2), 12);
            x.pass(1);
            due("1 week", x.decayIn(0, 1), 12);
            x.pass(1);
            due("1 week", x.decayIn(0, 1), 10);
        });
        holds("decayIn: if nothing else was done (who is busy is idle later)", () -> {
            join(x, 2);
            x.pass(20);
            int left = balance(0);
            x.give(1, 0, 0, 1);
            due("5 weeks", x.decayIn(0, 5), 0);
            due("6 weeks", x.decayIn(0, 6), (left - 1) / 10);
            due("as in pass()", x.decayIn(0, 50) + x.decayIn(1, 50), x.pass(50));
        });
        holds("decayIn: the minutes of the member (above 0)", () -> {
            joinBare(x, 3);
            x.set(3, 100);
            x.give(0, 1, 0, 1);
            due("of 1", x.decayIn(0, 100), 1);
            due("of -1", x.decayIn(1, 100), 0);
            due("of 0", x.decayIn(2, 100), 0);
        });
        holds("decayIn: would decay (with the settings of now)", () -> {
            x.join();
            x.set(3, 0);
            due("0 in a hundred", x.decayIn(0, 100), 0);
            x.set(3, 100);
            x.set(2, 20);
            due("20 weeks", x.decayIn(0, 20), 0);
            due("21 weeks", x.decayIn(0, 21), 120);
            x.set(2, 0);
            due("1 week", x.decayIn(0, 1), 120);
            due("2 weeks", x.decayIn(0, 2), 120);
        });
        holds("decayIn: in so many weeks (beyond the last week, too)", () -> {
            x.set(3, 0);
            x.join();
            passWeeks(x, 2000);
            x.set(3, 100);
            due("0 weeks", x.decayIn(0, 0), 0);
            due("1 week", x.decayIn(0, 1), 120);
        });
        holds("decayIn: 0 if the member has left", () -> {
            join(x, 2);
            x.pass(10);
            due("before", x.decayIn(0, 100) > 0 ? 1 : 0, 1);
            x.leave(0);
            due("then", x.decayIn(0, 100), 0);
        });
    }

    // ---- Promise 24

    private static void votes() {
        holds("votesNeeded: how many more votes for the motion would carry it", () -> {
            for (int others = 1; others <= 7; others++) {
                debtWithOthers(others);
                x.move(0, 50);
                for (int voted = 0; voted < VOTES_NEEDED[others]; voted++) {
                    due("of " + others, x.votesNeeded(), VOTES_NEEDED[others] - voted);
                    x.vote(voted + 1, true);
                }
                due("when it is carried", x.votesNeeded(), NONE);
            }
        });
        holds("votesNeeded: (votes against it don't count)", () -> {
            debtWithOthers(7);
            x.move(0, 50);
            x.vote(1, false);
            x.vote(2, false);
            x.vote(3, false);
            due("of 7", x.votesNeeded(), 4);
            x.vote(4, false);
            due("when it has failed", x.votesNeeded(), NONE);
        });
        holds("votesNeeded: (1 without other members)", () -> {
            debtWithOthers(0);
            x.move(0, 50);
            due("it", x.votesNeeded(), 1);
            debtWithOthers(1);
            x.move(0, 50);
            x.leave(1);
            due("when the last one has left", x.votesNeeded(), 1);
        });
        holds("votesNeeded: NONE without a motion", () -> {
            due("on a new object", x.votesNeeded(), NONE);
            debtWithOthers(3);
            due("with a debt", x.votesNeeded(), NONE);
            x.move(0, 50);
            x.takeBack();
            due("when it is taken back", x.votesNeeded(), NONE);
        });
        holds("votesNeeded: (who joins counts)", () -> {
            debtWithOthers(3);
            x.move(0, 50);
            x.vote(1, true);
            due("of 3", x.votesNeeded(), 1);
            x.join();
            due("of 4", x.votesNeeded(), 2);
        });
    }

    // ---- Promise 25

    private static void ripest() {
        holds("ripest: the one with the most practice in it", () -> {
            joinBare(x, 3);
            x.give(1, 0, 4, 5);
            x.give(2, 0, 4, 6);
            x.give(1, 0, 3, 6);
            x.give(2, 0, 3, 5);
            due("in 4", x.ripest(4), 2);
            due("in 3", x.ripest(3), 1);
            x.give(0, 1, 4, 7);
            due("in 4", x.ripest(4), 0);
        });
        holds("ripest: the most practice (not the greatest ripeness)", () -> {
            joinBare(x, 3);
            x.give(1, 0, 0, 300);
            x.give(2, 0, 0, 299);
            due("of 300 and 299", x.ripest(0), 1);
            x.give(2, 1, 0, 2);
            due("of 300 and 301", x.ripest(0), 2);
        });
        holds("ripest: of several the lowest number", () -> {
            joinBare(x, 8);
            due("of nobody's practice", x.ripest(0), 0);
            x.give(7, 0, 0, 5);
            x.give(3, 0, 0, 5);
            due("of 3 and 7", x.ripest(0), 3);
        });
        holds("ripest: of the members who are there", () -> {
            joinBare(x, 3);
            x.give(1, 2, 0, 5);
            x.leave(1);
            due("when 1 has left", x.ripest(0), 0);
            x.leave(0);
            due("when 0 has left", x.ripest(0), 2);
        });
        holds("ripest: NONE if there is none", () -> {
            due("on a new object", x.ripest(0), NONE);
            x.join();
            x.leave(0);
            due("when all have left", x.ripest(4), NONE);
        });
    }

    // ---- Promise 26

    private static void dueWorth(String what, double want) {
        due(what, Double.doubleToRawLongBits(x.minuteWorth()), Double.doubleToRawLongBits(want));
    }

    private static void worthOfMinutes() {
        holds("minuteWorth: 1.0 if that is 0", () -> {
            dueWorth("on a new object", 1.0);
            join(x, 2);
            dueWorth("without deals", 1.0);
            x.give(0, 1, 0, 300);
            x.give(0, 1, 0, 10);
            x.undo();
            x.undo();
            dueWorth("when they are undone", 1.0);
        });
        holds("minuteWorth: the sum of all values, as a double, divided by the sum of all minutes", () -> {
            joinBare(x, 3);
            x.give(0, 1, 0, 300);
            dueWorth("of 300 for 300", 1.0);
            x.give(0, 1, 0, 10);
            dueWorth("of 311 for 310", 311.0 / 310.0);
            x.give(2, 0, 0, 7);
            dueWorth("of 318 for 317", 318.0 / 317.0);
        });
        holds("minuteWorth: so far (with who has left)", () -> {
            joinBare(x, 3);
            x.give(0, 1, 0, 300);
            x.give(0, 1, 0, 10);
            x.leave(0);
            dueWorth("of 311 for 310", 311.0 / 310.0);
        });
        holds("minuteWorth: values earned (with what went to the loan)", () -> {
            join(x, 3);
            x.give(0, 1, 0, 200);
            dueWorth("of 200 for 200", 1.0);
        });
    }

    // ---- Promise 27

    private static long hashWith(long hash, long value) {
        return 31 * hash + value;
    }

    /** What the document says, by the other calls, but for the codes of the buffer. */
    private static long hashByCalls(int bufferLength) {
        long hash = 2539;
        for (int i = 0; i <= 13; i++) {
            hash = hashWith(hash, x.count(i));
        }
        for (int i = 0; i <= 4; i++) {
            hash = hashWith(hash, x.setting(i));
        }
        for (int m = 0; m < x.count(0); m++) {
            for (int i = 0; i <= 11; i++) {
                hash = hashWith(hash, x.member(m, i));
            }
            for (int i = 0; i <= 4; i++) {
                hash = hashWith(hash, x.skill(m, i, 0));
                hash = hashWith(hash, x.skill(m, i, 1));
            }
            hash = hashWith(hash, x.longest(m, 0, 1));
            hash = hashWith(hash, x.cheapest(m, 1, 60));
            hash = hashWith(hash, x.decayIn(m, 10));
        }
        for (int i = 0; i <= 4; i++) {
            hash = hashWith(hash, x.ripest(i));
        }
        hash = hashWith(hash, x.votesNeeded());
        hash = hashWith(hash, Double.doubleToLongBits(x.minuteWorth()));
        return hashWith(hash, bufferLength);
    }

    private static void digests() {
        holds("digest: The hash starts at 2539 (without members)", () -> {
            int[] values = {0, 0, 0, 0, 0, 0, 0, 0, 0, -1, 0, 0, 0, 0, 600, 120, 4, 10, 30, -1, -1, -1, -1, -1, -1};
            long hash = 2539;
            for (int value : values) {
                hash = hashWith(hash, value);
            }
            hash = hashWith(hash, 4607182418800017408L);
            due("of a new object", x.digest(), hashWith(hash, 0));
        });
        holds("digest: for each member (eight, also who has left)", () -> {
            join(x, 8);
            x.give(7, 0, 1, 400);
            x.give(0, 7, 2, 20);
            x.leave(3);
            due("it", x.digest(), hashByCalls(0));
        });
        holds("digest: longest, cheapest and decayIn where each of them is NONE or 0", () -> {
            joinBare(x, 3);
            x.set(0, 60);
            x.give(1, 0, 1, 1);
            due("a room of 59", x.digest(), hashByCalls(0));
            x.set(0, 61);
            due("a room of 60", x.digest(), hashByCalls(0));
            x.set(0, 1);
            due("no room", x.digest(), hashByCalls(0));
        });
        holds("digest: decayIn with 10 weeks", () -> {
            join(x, 2);
            x.set(2, 8);
            due("9 harmful weeks", x.digest(), hashByCalls(0));
            x.set(2, 9);
            due("one harmful week", x.digest(), hashByCalls(0));
            x.set(2, 10);
            due("no harmful week", x.digest(), hashByCalls(0));
        });
        holds("digest: votesNeeded", () -> {
            debtWithOthers(7);
            x.move(0, 50);
            x.vote(1, true);
            x.vote(2, false);
            due("with a motion", x.digest(), hashByCalls(0));
        });
        holds("digest: the bits of minuteWorth (as Double.doubleToLongBits)", () -> {
            joinBare(x, 2);
            x.set(0, 9999);
            int[] minutes = {600, 1, 7, 13, 99, 333};
            for (int one : minutes) {
                x.give(0, 1, 0, one);
                due("after " + one, x.digest(), hashByCalls(0));
            }
        });
        holds("digest: the length of the buffer and each of its character codes", () -> {
            String signs = "!~a>b0:1;";
            for (int length = 1; length <= signs.length(); length++) {
                x.append(signs.charAt(length - 1));
                long hash = hashByCalls(length);
                for (int i = 0; i < length; i++) {
                    hash = hashWith(hash, signs.charAt(i));
                }
                due("of " + length, x.digest(), hash);
            }
            x.clearBuffer();
            due("of an empty one", x.digest(), hashByCalls(0));
        });
    }

    // ---- what would be; nothing is changed

    private static void busyTown(RipeHours bank) {
        joinBare(bank, 5);
        bank.give(0, 1, 1, 310);
        bank.give(2, 0, 1, 50);
        bank.leave(3);
        bank.pass(6);
        bank.give(0, 4, 1, 5);
        bank.move(1, 100);
        bank.vote(2, true);
        type(bank, "a>b0:1;b");
    }

    private static void nothingIsChanged() {
        holds("what there is (the calls only tell)", () -> {
            onlyTells(bank -> busyTown(bank), "member()", bank -> bank.member(0, 11));
            onlyTells(bank -> busyTown(bank), "skill()", bank -> bank.skill(0, 1, 1));
            onlyTells(bank -> busyTown(bank), "count()", bank -> bank.count(13));
            onlyTells(bank -> busyTown(bank), "setting()", bank -> bank.setting(4));
            onlyTells(bank -> busyTown(bank), "firstError()", bank -> bank.firstError());
        });
        holds("what would be; nothing is changed", () -> {
            onlyTells(bank -> busyTown(bank), "worth()", bank -> bank.worth(0, 1, 600));
            onlyTells(bank -> busyTown(bank), "longest()", bank -> bank.longest(0, 2, 1));
            onlyTells(bank -> busyTown(bank), "cheapest()", bank -> bank.cheapest(0, 1, 60));
            onlyTells(bank -> busyTown(bank), "decayIn()", bank -> bank.decayIn(2, 100));
            onlyTells(bank -> busyTown(bank), "votesNeeded()", bank -> bank.votesNeeded());
            onlyTells(bank -> busyTown(bank), "ripest()", bank -> bank.ripest(1));
            onlyTells(bank -> busyTown(bank), "minuteWorth()", bank -> (long) bank.minuteWorth());
            onlyTells(bank -> busyTown(bank), "digest()", bank -> bank.digest());
        });
    }
}
