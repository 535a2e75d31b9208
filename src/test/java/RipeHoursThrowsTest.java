/**
 * Each throws clause of the document: the nearest input that throws and the nearest that doesn't, which
 * exception is thrown where several apply, and that a call that throws changes nothing.
 */
public final class RipeHoursThrowsTest extends SentenceChecks {
    public static void main(String[] args) {
        joining();
        leaving();
        giving();
        donating();
        passing();
        setting();
        moving();
        voting();
        takingBack();
        appending();
        running();
        undoing();
        telling();
        foretelling();
        end();
    }

    // ---- ways to where a call is looked at

    /** Four members who are there, with 300, -400, 0 and 100, and a text in the buffer. */
    private static void village(RipeHours bank) {
        joinBare(bank, 4);
        bank.give(0, 1, 2, 300);
        bank.give(3, 1, 2, 100);
        type(bank, "a>b0:1");
    }

    /** As the village, but the member 3 has left. */
    private static void town(RipeHours bank) {
        village(bank);
        bank.leave(3);
    }

    /** As the town, with a motion on the member 1. */
    private static void townWithMotion(RipeHours bank) {
        town(bank);
        bank.move(1, 400);
    }

    /** As the village, with a motion on the member 1, and the vote of the member 0 for it. */
    private static void villageWithVote(RipeHours bank) {
        village(bank);
        bank.move(1, 400);
        bank.vote(0, true);
    }

    /** Four members; 0 and 3 have debts of 50. */
    private static void debtors(RipeHours bank) {
        joinBare(bank, 4);
        bank.give(1, 0, 0, 50);
        bank.give(2, 3, 0, 50);
    }

    private static void eightMembers(RipeHours bank) {
        join(bank, 8);
    }

    private static void week(RipeHours bank, int number) {
        join(bank, 2);
        passWeeks(bank, number);
    }

    // ---- members

    private static void joining() {
        holds("join: if 8 members came so far", () -> {
            answers(7, bank -> join(bank, 7), "the eighth", bank -> bank.join());
            refused(STATE, bank -> eightMembers(bank), "the ninth", bank -> bank.join());
        });
        holds("join: if 8 members came so far (though some have left)", () -> {
            refused(STATE, bank -> {
                eightMembers(bank);
                bank.leave(7);
                bank.leave(0);
            }, "a ninth", bank -> bank.join());
            answers(7, bank -> {
                eightMembers(bank);
                bank.undo();
            }, "the eighth again", bank -> bank.join());
        });
    }

    private static void leaving() {
        holds("leave: if there is no such member", () -> {
            range(INDEX, 0, 3, bank -> village(bank), "leave()", (bank, n) -> bank.leave(n));
            refused(INDEX, bank -> nothingBefore(bank), "leave(0) of nobody", bank -> bank.leave(0));
        });
        holds("leave: if the member has left", () -> {
            refused(STATE, bank -> town(bank), "leave(3) again", bank -> bank.leave(3));
            answers(100, bank -> village(bank), "leave(3)", bank -> bank.leave(3));
        });
        holds("leave: or the balance is below 0", () -> {
            answers(0, bank -> village(bank), "leave(2) with 0", bank -> bank.leave(2));
            refused(STATE, bank -> {
                village(bank);
                bank.give(0, 2, 0, 1);
            }, "leave(2) with -1", bank -> bank.leave(2));
            refused(STATE, bank -> village(bank), "leave(1) with -400", bank -> bank.leave(1));
        });
    }

    private static void giving() {
        holds("give: if there is no such member", () -> {
            range(INDEX, 0, 3, bank -> village(bank), "giver", (bank, n) -> bank.give(n, 1, 0, 1));
            range(INDEX, 0, 3, bank -> village(bank), "taker", (bank, n) -> bank.give(1, n, 0, 1));
        });
        holds("give: if there is no such skill",
            () -> range(INDEX, 0, 4, bank -> village(bank), "skill", (bank, n) -> bank.give(0, 2, n, 1)));
        holds("give: if both are the same", () -> {
            refused(ARGUMENT, bank -> village(bank), "give(0, 0)", bank -> bank.give(0, 0, 0, 1));
            refused(ARGUMENT, bank -> village(bank), "give(3, 3)", bank -> bank.give(3, 3, 4, 600));
            answers(1, bank -> village(bank), "give(0, 2)", bank -> bank.give(0, 2, 0, 1));
        });
        holds("give: or minutes is out of range",
            () -> range(ARGUMENT, 1, 600, bank -> village(bank), "minutes", (bank, n) -> bank.give(0, 2, 0, n)));
        holds("give: if one of both has left", () -> {
            refused(STATE, bank -> town(bank), "the giver has left", bank -> bank.give(3, 0, 0, 1));
            refused(STATE, bank -> town(bank), "the taker has left", bank -> bank.give(0, 3, 0, 1));
            answers(1, bank -> village(bank), "the giver is there", bank -> bank.give(3, 0, 0, 1));
            answers(1, bank -> village(bank), "the taker is there", bank -> bank.give(0, 3, 0, 1));
        });
        holds("give: or the deal is refused", () -> {
            answers(200, bank -> village(bank), "to -600", bank -> bank.give(0, 1, 0, 200));
            refused(STATE, bank -> village(bank), "to -601", bank -> bank.give(0, 1, 0, 201));
            answers(200, bank -> village(bank), "182 at 11", bank -> bank.give(0, 1, 2, 182));
            refused(STATE, bank -> village(bank), "183 at 11", bank -> bank.give(0, 1, 2, 183));
        });
        holds("give: the exception that is named first is thrown", () -> {
            refused(INDEX, bank -> village(bank), "no member and the same", bank -> bank.give(4, 4, 0, 1));
            refused(INDEX, bank -> village(bank), "no skill and the same", bank -> bank.give(0, 0, 5, 1));
            refused(INDEX, bank -> village(bank), "no giver and no minutes", bank -> bank.give(-1, 0, 0, 0));
            refused(INDEX, bank -> village(bank), "no taker and 601 minutes", bank -> bank.give(0, 4, 0, 601));
            refused(INDEX, bank -> town(bank), "no skill and left", bank -> bank.give(0, 3, -1, 1));
            refused(INDEX, bank -> town(bank), "no taker and left", bank -> bank.give(3, 4, 0, 1));
            refused(INDEX, bank -> town(bank), "no giver and left", bank -> bank.give(4, 3, 0, 1));
            refused(INDEX, bank -> village(bank), "no skill and refused", bank -> bank.give(0, 1, 5, 600));
            refused(INDEX, bank -> town(bank), "all three", bank -> bank.give(3, 3, 5, 0));
            refused(ARGUMENT, bank -> town(bank), "the same and left", bank -> bank.give(3, 3, 0, 1));
            refused(ARGUMENT, bank -> village(bank), "the same and refused", bank -> bank.give(1, 1, 0, 600));
            refused(ARGUMENT, bank -> town(bank), "no minutes and left", bank -> bank.give(3, 0, 0, 0));
            refused(ARGUMENT, bank -> town(bank), "601 minutes and left", bank -> bank.give(0, 3, 0, 601));
            refused(ARGUMENT, bank -> village(bank), "601 minutes and refused", bank -> bank.give(0, 1, 0, 601));
        });
    }

    private static void donating() {
        holds("donate: if there is no such member", () -> {
            range(INDEX, 0, 3, bank -> village(bank), "member", (bank, n) -> bank.donate(n, 1));
            refused(INDEX, bank -> nothingBefore(bank), "donate() of nobody", bank -> bank.donate(0, 1));
        });
        holds("donate: if minutes is out of range", () -> range(ARGUMENT, 1, 999, bank -> {
            bank.set(1, 999);
            bank.join();
        }, "minutes", (bank, n) -> bank.donate(0, n)));
        holds("donate: if the member has left",
            () -> refused(STATE, bank -> town(bank), "donate(3, 1)", bank -> bank.donate(3, 1)));
        holds("donate: or the balance is less than that", () -> {
            answers(0, bank -> village(bank), "300 of 300", bank -> bank.donate(0, 300));
            refused(STATE, bank -> village(bank), "301 of 300", bank -> bank.donate(0, 301));
            refused(STATE, bank -> village(bank), "1 of 0", bank -> bank.donate(2, 1));
            refused(STATE, bank -> village(bank), "1 of -400", bank -> bank.donate(1, 1));
        });
        holds("donate: the exception that is named first is thrown", () -> {
            refused(INDEX, bank -> village(bank), "no member and no minutes", bank -> bank.donate(4, 0));
            refused(INDEX, bank -> village(bank), "no member and 1000 minutes", bank -> bank.donate(-1, 1000));
            refused(ARGUMENT, bank -> town(bank), "no minutes and left", bank -> bank.donate(3, 0));
            refused(ARGUMENT, bank -> village(bank), "1000 minutes of less", bank -> bank.donate(0, 1000));
            refused(ARGUMENT, bank -> village(bank), "no minutes of a debt", bank -> bank.donate(1, 0));
        });
    }

    private static void passing() {
        holds("pass: if weeks is out of range",
            () -> range(ARGUMENT, 1, 50, bank -> village(bank), "weeks", (bank, n) -> bank.pass(n)));
        holds("pass: if the number of the week would be above 2000", () -> {
            allowed(bank -> week(bank, 1950), "from 1950 to 2000", bank -> bank.pass(50));
            refused(STATE, bank -> week(bank, 1951), "from 1951 to 2001", bank -> bank.pass(50));
            allowed(bank -> week(bank, 1951), "from 1951 to 2000", bank -> bank.pass(49));
            allowed(bank -> week(bank, 1999), "from 1999 to 2000", bank -> bank.pass(1));
            refused(STATE, bank -> week(bank, 1999), "from 1999 to 2001", bank -> bank.pass(2));
            refused(STATE, bank -> week(bank, 2000), "from 2000 to 2001", bank -> bank.pass(1));
        });
        holds("pass: the exception that is named first is thrown", () -> {
            refused(ARGUMENT, bank -> week(bank, 2000), "51 weeks", bank -> bank.pass(51));
            refused(ARGUMENT, bank -> week(bank, 2000), "the most weeks", bank -> bank.pass(MOST));
            refused(ARGUMENT, bank -> week(bank, 2000), "no weeks", bank -> bank.pass(0));
        });
    }

    private static void setting() {
        int[] most = {9999, 999, 20, 100, 300};
        holds("set: if there is no such setting",
            () -> range(INDEX, 0, 4, bank -> village(bank), "setting", (bank, n) -> bank.set(n, 0)));
        for (int i = 0; i < most.length; i++) {
            int setting = i;
            holds("set: if value is out of range (of setting " + i + ")", () ->
                range(ARGUMENT, 0, most[setting], bank -> village(bank), "value", (bank, n) -> bank.set(setting, n)));
        }
        holds("set: the exception that is named first is thrown", () -> {
            refused(INDEX, bank -> village(bank), "no setting 5 and -1", bank -> bank.set(5, -1));
            refused(INDEX, bank -> village(bank), "no setting -1 and 10000", bank -> bank.set(-1, 10000));
        });
    }

    // ---- forgiving

    private static void moving() {
        holds("move: if there is no such member", () -> {
            range(INDEX, 0, 3, bank -> debtors(bank), "member", (bank, n) -> bank.move(n, 1));
            refused(INDEX, bank -> nothingBefore(bank), "move() of nobody", bank -> bank.move(0, 1));
        });
        holds("move: if minutes is below 1", () -> {
            refused(ARGUMENT, bank -> village(bank), "0", bank -> bank.move(1, 0));
            refused(ARGUMENT, bank -> village(bank), "-1", bank -> bank.move(1, -1));
            refused(ARGUMENT, bank -> village(bank), "-400", bank -> bank.move(1, -400));
            refused(ARGUMENT, bank -> village(bank), "the least", bank -> bank.move(1, LEAST));
            answers(3, bank -> village(bank), "1", bank -> bank.move(1, 1));
        });
        holds("move: if the member has left", () ->
            refused(STATE, bank -> town(bank), "move(3, 1)", bank -> bank.move(3, 1)));
        holds("move: there is a motion", () -> {
            refused(STATE, bank -> townWithMotion(bank), "on the same one", bank -> bank.move(1, 1));
            refused(STATE, bank -> {
                debtors(bank);
                bank.move(0, 1);
            }, "on another one", bank -> bank.move(3, 1));
            answers(3, bank -> {
                debtors(bank);
                bank.move(0, 1);
                bank.takeBack();
            }, "taken back", bank -> bank.move(3, 1));
        });
        holds("move: or the debt (what the balance is below 0) is less than that", () -> {
            answers(3, bank -> village(bank), "400 of 400", bank -> bank.move(1, 400));
            refused(STATE, bank -> village(bank), "401 of 400", bank -> bank.move(1, 401));
            refused(STATE, bank -> village(bank), "the most of 400", bank -> bank.move(1, MOST));
            refused(STATE, bank -> village(bank), "1 of a balance of 0", bank -> bank.move(2, 1));
            refused(STATE, bank -> village(bank), "1 of a balance of 300", bank -> bank.move(0, 1));
            refused(STATE, bank -> village(bank), "300 of a balance of 300", bank -> bank.move(0, 300));
        });
        holds("move: the exception that is named first is thrown", () -> {
            refused(INDEX, bank -> village(bank), "no member and 0", bank -> bank.move(4, 0));
            refused(INDEX, bank -> townWithMotion(bank), "no member and a motion", bank -> bank.move(-1, 1));
            refused(ARGUMENT, bank -> town(bank), "0 and left", bank -> bank.move(3, 0));
            refused(ARGUMENT, bank -> townWithMotion(bank), "0 and a motion", bank -> bank.move(1, 0));
            refused(ARGUMENT, bank -> village(bank), "0 and no debt", bank -> bank.move(0, 0));
        });
    }

    private static void voting() {
        holds("vote: if there is no such member", () -> {
            range(INDEX, 0, 3, bank -> {
                village(bank);
                bank.move(1, 400);
            }, "for it", (bank, n) -> bank.vote(n, true));
            range(INDEX, 0, 3, bank -> {
                village(bank);
                bank.move(1, 400);
            }, "against it", (bank, n) -> bank.vote(n, false));
        });
        holds("vote: if there is no motion", () -> {
            refused(STATE, bank -> village(bank), "vote(0, true)", bank -> bank.vote(0, true));
            refused(STATE, bank -> village(bank), "vote(0, false)", bank -> bank.vote(0, false));
            refused(STATE, bank -> {
                townWithMotion(bank);
                bank.takeBack();
            }, "when it is taken back", bank -> bank.vote(0, true));
            refused(STATE, bank -> {
                townWithMotion(bank);
                bank.vote(0, true);
                bank.vote(2, true);
            }, "when it is carried", bank -> bank.vote(0, true));
            refused(STATE, bank -> {
                townWithMotion(bank);
                bank.vote(0, false);
            }, "when it has failed", bank -> bank.vote(2, true));
            answers(0, bank -> townWithMotion(bank), "with one", bank -> bank.vote(0, true));
        });
        holds("vote: the member has left", () -> {
            refused(STATE, bank -> townWithMotion(bank), "vote(3, true)", bank -> bank.vote(3, true));
            refused(STATE, bank -> townWithMotion(bank), "vote(3, false)", bank -> bank.vote(3, false));
        });
        holds("vote: has voted", () -> {
            refused(STATE, bank -> villageWithVote(bank), "for it again", bank -> bank.vote(0, true));
            refused(STATE, bank -> villageWithVote(bank), "now against it", bank -> bank.vote(0, false));
            refused(STATE, bank -> {
                villageWithVote(bank);
                bank.vote(2, false);
            }, "against it, now for it", bank -> bank.vote(2, true));
            answers(1, bank -> villageWithVote(bank), "another one", bank -> bank.vote(2, true));
            answers(0, bank -> {
                villageWithVote(bank);
                bank.undo();
            }, "after undo()", bank -> bank.vote(0, true));
        });
        holds("vote: or is the one whose debt it is", () -> {
            refused(STATE, bank -> townWithMotion(bank), "vote(1, true)", bank -> bank.vote(1, true));
            refused(STATE, bank -> townWithMotion(bank), "vote(1, false)", bank -> bank.vote(1, false));
        });
        holds("vote: the exception that is named first is thrown", () -> {
            refused(INDEX, bank -> village(bank), "no member and no motion", bank -> bank.vote(4, true));
            refused(INDEX, bank -> village(bank), "no member and no motion", bank -> bank.vote(-1, false));
            refused(INDEX, bank -> nothingBefore(bank), "nobody and no motion", bank -> bank.vote(0, true));
        });
    }

    private static void takingBack() {
        holds("takeBack: if there is none", () -> {
            refused(STATE, bank -> nothingBefore(bank), "on a new object", bank -> bank.takeBack());
            refused(STATE, bank -> {
                townWithMotion(bank);
                bank.takeBack();
            }, "again", bank -> bank.takeBack());
            refused(STATE, bank -> {
                townWithMotion(bank);
                bank.vote(0, true);
                bank.vote(2, true);
            }, "when it is carried", bank -> bank.takeBack());
            refused(STATE, bank -> {
                townWithMotion(bank);
                bank.vote(0, false);
            }, "when it has failed", bank -> bank.takeBack());
            refused(STATE, bank -> {
                townWithMotion(bank);
                bank.give(1, 0, 0, 400);
                bank.leave(1);
            }, "when the member has left", bank -> bank.takeBack());
            answers(0, bank -> townWithMotion(bank), "with one", bank -> bank.takeBack());
        });
    }

    // ---- texts

    private static void appending() {
        holds("append: if code is not 33 to 126", () -> {
            range(ARGUMENT, 33, 126, bank -> village(bank), "code", (bank, n) -> bank.append(n));
            int[] others = {0, 10, 128 + 97, 256 + 97, 65536 + 97, -97, -65536 + 97};
            for (int code : others) {
                refused(ARGUMENT, bank -> village(bank), "append(" + code + ")", bank -> bank.append(code));
            }
        });
        holds("append: if the buffer has 60 characters", () -> {
            answers(60, bank -> typeLong(bank, 59), "the last one", bank -> bank.append(97));
            refused(STATE, bank -> typeLong(bank, 60), "one more", bank -> bank.append(97));
            answers(1, bank -> {
                typeLong(bank, 60);
                bank.clearBuffer();
            }, "when it is cleared", bank -> bank.append(97));
        });
        holds("append: the exception that is named first is thrown", () -> {
            refused(ARGUMENT, bank -> typeLong(bank, 60), "append(32)", bank -> bank.append(32));
            refused(ARGUMENT, bank -> typeLong(bank, 60), "append(127)", bank -> bank.append(127));
        });
    }

    private static void typeLong(RipeHours bank, int length) {
        type(bank, "a>b0:100;a>b0:100;a>b0:100;a>b0:100;a>b0:100;a>b0:100;a>b0:1".substring(0, length));
    }

    private static void running() {
        holds("run: if the buffer is not a complete row of deals", () -> {
            String[] wrong = {"", "a", "a>", "a>b", "a>b0", "a>b0:", "a>b0:1;", "a>b0:1;a", "a>b0:1;a>b0:", ";",
                "a>b0:0", "a>b0:01", "a>b0:601", "a>b0:1000", "a>a0:1", "a>b5:1", "i>a0:1", "a>i0:1", "a>b0:1x",
                "a>b0:1;;a>b0:1", "a>b0:1;a>a0:1", ";a>b0:1", "xa>b0:1", "A>b0:1", "a>b0:1,a>b0:1", "a>b0:-1"};
            for (String signs : wrong) {
                refused(ARGUMENT, bank -> {
                    joinBare(bank, 3);
                    type(bank, signs);
                }, "run() of " + signs, bank -> bank.run());
            }
        });
        holds("run: a complete row of deals", () -> {
            String[] good = {"a>b0:1", "a>b0:600", "b>a4:9", "c>a0:10", "a>b0:1;b>a0:1"};
            for (String signs : good) {
                answers(signs.length() > 10 ? 2 : 1, bank -> {
                    joinBare(bank, 3);
                    type(bank, signs);
                }, "run() of " + signs, bank -> bank.run());
            }
        });
        holds("run: a row of deals that give() would refuse is complete", () -> {
            String[] refused = {"a>b0:1", "h>g4:600"};
            for (String signs : refused) {
                answers(0, bank -> type(bank, signs), "run() of " + signs, bank -> bank.run());
            }
        });
        holds("run: the exception that is named first (run() throws no other one)", () ->
            answers(0, bank -> {
                town(bank);
                bank.clearBuffer();
                type(bank, "d>a0:1;a>b0:600");
            }, "run() of a deal that is refused", bank -> bank.run()));
    }

    private static void undoing() {
        holds("undo: if there is none", () -> {
            refusedOnce(STATE, bank -> nothingBefore(bank), "on a new object", bank -> bank.undo());
            answers(0, bank -> bank.join(), "after one call", bank -> bank.undo());
            refusedOnce(STATE, bank -> {
                bank.join();
                bank.undo();
                type(bank, "a>");
            }, "again", bank -> bank.undo());
            refusedOnce(STATE, bank -> {
                village(bank);
                for (int i = 0; i < 6; i++) {
                    bank.undo();
                }
            }, "after six", bank -> bank.undo());
            answers(0, bank -> {
                village(bank);
                for (int i = 0; i < 5; i++) {
                    bank.undo();
                }
            }, "the sixth", bank -> bank.undo());
        });
    }

    // ---- what there is

    private static void telling() {
        holds("member: if there is no such member", () -> {
            range(INDEX, 0, 3, bank -> town(bank), "member", (bank, n) -> bank.member(n, 1));
            refused(INDEX, bank -> nothingBefore(bank), "member() of nobody", bank -> bank.member(0, 0));
        });
        holds("member: if what is not 0 to 11",
            () -> range(ARGUMENT, 0, 11, bank -> town(bank), "what", (bank, n) -> bank.member(3, n)));
        holds("member: the exception that is named first is thrown", () -> {
            refused(INDEX, bank -> town(bank), "member(4, 12)", bank -> bank.member(4, 12));
            refused(INDEX, bank -> town(bank), "member(-1, -1)", bank -> bank.member(-1, -1));
        });
        holds("skill: if there is no such member or skill", () -> {
            range(INDEX, 0, 3, bank -> town(bank), "member", (bank, n) -> bank.skill(n, 2, 0));
            range(INDEX, 0, 4, bank -> town(bank), "skill", (bank, n) -> bank.skill(0, n, 1));
        });
        holds("skill: if what is not 0 or 1",
            () -> range(ARGUMENT, 0, 1, bank -> town(bank), "what", (bank, n) -> bank.skill(0, 2, n)));
        holds("skill: the exception that is named first is thrown", () -> {
            refused(INDEX, bank -> town(bank), "skill(4, 0, 2)", bank -> bank.skill(4, 0, 2));
            refused(INDEX, bank -> town(bank), "skill(0, 5, -1)", bank -> bank.skill(0, 5, -1));
        });
        holds("count: if what is not 0 to 13",
            () -> range(ARGUMENT, 0, 13, bank -> town(bank), "what", (bank, n) -> bank.count(n)));
        holds("setting: if there is no such setting",
            () -> range(INDEX, 0, 4, bank -> town(bank), "setting", (bank, n) -> bank.setting(n)));
    }

    // ---- what would be

    private static void foretelling() {
        holds("worth: if there is no such member or skill", () -> {
            range(INDEX, 0, 3, bank -> village(bank), "giver", (bank, n) -> bank.worth(n, 0, 1));
            range(INDEX, 0, 4, bank -> village(bank), "skill", (bank, n) -> bank.worth(0, n, 1));
        });
        holds("worth: if minutes is out of range",
            () -> range(ARGUMENT, 1, 600, bank -> village(bank), "minutes", (bank, n) -> bank.worth(0, 0, n)));
        holds("longest: if there is no such member or skill", () -> {
            range(INDEX, 0, 3, bank -> village(bank), "giver", (bank, n) -> bank.longest(n, 1, 0));
            range(INDEX, 0, 3, bank -> village(bank), "taker", (bank, n) -> bank.longest(1, n, 0));
            range(INDEX, 0, 4, bank -> village(bank), "skill", (bank, n) -> bank.longest(0, 1, n));
            refused(INDEX, bank -> village(bank), "both the same, and not there", bank -> bank.longest(4, 4, 0));
            refused(INDEX, bank -> village(bank), "both the same, no skill", bank -> bank.longest(0, 0, 5));
            refused(INDEX, bank -> town(bank), "the giver has left, no skill", bank -> bank.longest(3, 0, -1));
        });
        holds("cheapest: if there is no such member or skill", () -> {
            range(INDEX, 0, 3, bank -> village(bank), "taker", (bank, n) -> bank.cheapest(n, 0, 1));
            range(INDEX, 0, 4, bank -> village(bank), "skill", (bank, n) -> bank.cheapest(0, n, 1));
            refused(INDEX, bank -> town(bank), "the taker has left, no skill", bank -> bank.cheapest(3, 5, 1));
        });
        holds("cheapest: if minutes is out of range", () -> {
            range(ARGUMENT, 1, 600, bank -> village(bank), "minutes", (bank, n) -> bank.cheapest(0, 0, n));
            refused(ARGUMENT, bank -> town(bank), "the taker has left", bank -> bank.cheapest(3, 0, 0));
        });
        holds("decayIn: if there is no such member",
            () -> range(INDEX, 0, 3, bank -> village(bank), "member", (bank, n) -> bank.decayIn(n, 1)));
        holds("decayIn: if weeks is out of range", () -> {
            range(ARGUMENT, 0, 100, bank -> village(bank), "weeks", (bank, n) -> bank.decayIn(0, n));
            refused(ARGUMENT, bank -> town(bank), "the member has left", bank -> bank.decayIn(3, 101));
        });
        holds("ripest: if there is no such skill", () -> {
            range(INDEX, 0, 4, bank -> village(bank), "skill", (bank, n) -> bank.ripest(n));
            refused(INDEX, bank -> nothingBefore(bank), "of nobody", bank -> bank.ripest(5));
        });
        holds("worth, cheapest, decayIn: the exception that is named first is thrown", () -> {
            refused(INDEX, bank -> village(bank), "worth(4, 0, 0)", bank -> bank.worth(4, 0, 0));
            refused(INDEX, bank -> village(bank), "worth(0, 5, 601)", bank -> bank.worth(0, 5, 601));
            refused(INDEX, bank -> village(bank), "cheapest(-1, 0, 0)", bank -> bank.cheapest(-1, 0, 0));
            refused(INDEX, bank -> village(bank), "cheapest(0, -1, 601)", bank -> bank.cheapest(0, -1, 601));
            refused(INDEX, bank -> village(bank), "decayIn(4, -1)", bank -> bank.decayIn(4, -1));
            refused(INDEX, bank -> village(bank), "decayIn(-1, 101)", bank -> bank.decayIn(-1, 101));
        });
    }
}
