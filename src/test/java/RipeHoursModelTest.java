import java.util.Random;
import java.util.function.LongSupplier;

/** Random calls on the class and on the model; each answer, each exception and each digest must agree. */
public final class RipeHoursModelTest {
    private static final int RUNS = 1500;
    /** An object is used for at most 512 calls; the last step and what follows it may take this many more. */
    private static final int CALLS = 512 - 50;
    private static final int[] ODD_NUMBERS = {-1, 0, 1, 2, 5, 8, 14, 50, 51, 60, 100, 101, 300, 301, 600, 601,
        999, 1000, 9999, 10000, Integer.MAX_VALUE, Integer.MIN_VALUE, Integer.MIN_VALUE + 1};

    private final Random random;
    private final int run;
    private final int style;
    private final RipeHours real = new RipeHours();
    private final RipeHoursModel model = new RipeHoursModel();
    private final StringBuilder log = new StringBuilder();
    private int asked;
    private boolean wrong;

    private RipeHoursModelTest(int run) {
        this.run = run;
        this.style = run % 5;
        this.random = new Random(run);
    }

    public static void main(String[] args) {
        int failed = 0;
        for (int run = 0; run < RUNS && failed < 3; run++) {
            if (!new RipeHoursModelTest(run).agrees()) {
                failed++;
            }
        }
        System.out.println(failed == 0 ? RUNS + " random runs agree with the model" : "random runs differ");
        if (failed != 0) {
            System.exit(1);
        }
    }

    private boolean agrees() {
        for (int step = 0; asked < CALLS && !wrong; step++) {
            step();
            if (!wrong && step % 3 == 0) {
                same("digest()", () -> real.digest(), () -> model.digest());
            }
        }
        if (!wrong) {
            same("digest()", () -> real.digest(), () -> model.digest());
            same("balances", () -> real.count(2) + real.count(6) + real.count(7), () -> real.count(3));
        }
        if (wrong) {
            System.out.println("run " + run + " differs:\n" + log);
        }
        return !wrong;
    }

    private void same(String call, LongSupplier one, LongSupplier other) {
        asked++;
        String got = answer(one);
        String want = answer(other);
        if (!call.equals("digest()") && !call.equals("balances")) {
            log.append(call).append(" = ").append(got).append('\n');
        }
        if (!got.equals(want)) {
            wrong = true;
            log.append(call).append(" answered ").append(got).append(", the model ").append(want).append('\n');
        }
    }

    private static String answer(LongSupplier call) {
        try {
            return String.valueOf(call.getAsLong());
        } catch (RuntimeException e) {
            return "throws." + e.getClass().getSimpleName();
        }
    }

    private int odd(int usual) {
        return random.nextInt(40) == 0 ? ODD_NUMBERS[random.nextInt(ODD_NUMBERS.length)] : usual;
    }

    private int someone() {
        return odd(random.nextInt(Math.max(1, model.count(0))));
    }

    private int someSkill() {
        return odd(style < 2 ? random.nextInt(2) : random.nextInt(5));
    }

    private int someMinutes() {
        return odd(1 + random.nextInt(style == 1 ? 600 : random.nextBoolean() ? 60 : 300));
    }

    private void step() {
        int kind = random.nextInt(100);
        if (kind < 4 || model.count(0) < 2 && random.nextBoolean()) {
            same("join()", () -> real.join(), () -> model.join());
        } else if (kind < 40) {
            stepOfDeals(kind);
        } else if (kind < 62) {
            stepOfMotions();
        } else if (kind < 80) {
            stepOfTexts();
        } else {
            stepOfQuestions();
        }
    }

    private void stepOfDeals(int kind) {
        int m = someone();
        int n = someone();
        int s = someSkill();
        int minutes = someMinutes();
        if (kind < 28) {
            same("give(" + m + ", " + n + ", " + s + ", " + minutes + ")",
                () -> real.give(m, n, s, minutes), () -> model.give(m, n, s, minutes));
        } else if (kind < 30) {
            same("donate(" + m + ", " + minutes + ")",
                () -> real.donate(m, minutes), () -> model.donate(m, minutes));
        } else if (kind < 34) {
            int weeks = odd(1 + random.nextInt(style == 2 ? 50 : 4));
            same("pass(" + weeks + ")", () -> real.pass(weeks), () -> model.pass(weeks));
        } else if (kind < 36) {
            int setting = odd(random.nextInt(5));
            int[] most = {9999, 999, 20, 100, 300};
            int top = setting < 0 || setting > 4 ? 100 : most[setting];
            int value = odd(random.nextInt(5) == 0 ? top + random.nextInt(2) : random.nextInt(top + 1));
            same("set(" + setting + ", " + value + ")",
                () -> real.set(setting, value), () -> model.set(setting, value));
        } else if (kind < 37) {
            same("leave(" + m + ")", () -> real.leave(m), () -> model.leave(m));
        } else {
            same("undo()", () -> real.undo(), () -> model.undo());
        }
    }

    private void stepOfMotions() {
        int m = someone();
        int kind = random.nextInt(20);
        if (kind == 0) {
            same("takeBack()", () -> real.takeBack(), () -> model.takeBack());
        } else if (kind < 8) {
            int balance = m >= 0 && m < model.count(0) ? model.member(m, 1) : 0;
            int minutes = odd(Math.max(1, -balance - random.nextInt(3) + 1));
            same("move(" + m + ", " + minutes + ")",
                () -> real.move(m, minutes), () -> model.move(m, minutes));
        } else if (kind == 8) {
            same("leave(" + m + ")", () -> real.leave(m), () -> model.leave(m));
        } else {
            boolean isFor = random.nextBoolean();
            same("vote(" + m + ", " + isFor + ")", () -> real.vote(m, isFor), () -> model.vote(m, isFor));
        }
    }

    private void stepOfTexts() {
        int kind = random.nextInt(20);
        if (kind < 5) {
            same("run()", () -> real.run(), () -> model.run());
        } else if (kind < 7) {
            same("firstError()", () -> real.firstError(), () -> model.firstError());
        } else if (kind == 7) {
            same("clearBuffer()", () -> real.clearBuffer(), () -> model.clearBuffer());
        } else if (kind < 10) {
            appendOne(odd(33 + random.nextInt(94)));
        } else if (kind < 12) {
            appendAll("abcdefgh01234567890:;>".substring(random.nextInt(20)).substring(0, 1));
        } else {
            appendAll(someRow());
        }
    }

    private String someRow() {
        StringBuilder row = new StringBuilder();
        int deals = 1 + random.nextInt(3);
        int span = random.nextInt(8) == 0 ? 8 : Math.max(2, Math.min(8, model.count(0)));
        for (int i = 0; i < deals; i++) {
            int giver = random.nextInt(span);
            int taker = random.nextInt(15) == 0 ? giver : (giver + 1 + random.nextInt(span - 1)) % span;
            row.append(i > 0 ? ";" : "").append((char) ('a' + giver)).append('>').append((char) ('a' + taker))
                .append(random.nextInt(random.nextInt(15) == 0 ? 6 : 5)).append(':')
                .append(random.nextInt(random.nextInt(6) == 0 ? 700 : 120) + (random.nextInt(20) == 0 ? 0 : 1));
        }
        if (random.nextInt(6) == 0) {
            row.append(';');
        }
        return row.toString();
    }

    private void appendAll(String signs) {
        for (int i = 0; i < signs.length() && !wrong; i++) {
            appendOne(signs.charAt(i));
        }
    }

    private void appendOne(int code) {
        same("append(" + code + ")", () -> real.append(code), () -> model.append(code));
    }

    private void stepOfQuestions() {
        int m = someone();
        int n = someone();
        int s = someSkill();
        int minutes = someMinutes();
        int what = odd(random.nextInt(15));
        switch (random.nextInt(12)) {
            case 0: same("member(" + m + ", " + what + ")",
                () -> real.member(m, what), () -> model.member(m, what)); break;
            case 1: same("skill(" + m + ", " + s + ", " + what % 3 + ")",
                () -> real.skill(m, s, what % 3), () -> model.skill(m, s, what % 3)); break;
            case 2: same("count(" + what + ")", () -> real.count(what), () -> model.count(what)); break;
            case 3: same("setting(" + s + ")", () -> real.setting(s), () -> model.setting(s)); break;
            case 4: same("worth(" + m + ", " + s + ", " + minutes + ")",
                () -> real.worth(m, s, minutes), () -> model.worth(m, s, minutes)); break;
            case 5: case 6: same("longest(" + m + ", " + n + ", " + s + ")",
                () -> real.longest(m, n, s), () -> model.longest(m, n, s)); break;
            case 7: case 8: same("cheapest(" + m + ", " + s + ", " + minutes + ")",
                () -> real.cheapest(m, s, minutes), () -> model.cheapest(m, s, minutes)); break;
            case 9: int weeks = odd(random.nextInt(101));
                same("decayIn(" + m + ", " + weeks + ")",
                    () -> real.decayIn(m, weeks), () -> model.decayIn(m, weeks)); break;
            case 10: same("votesNeeded()", () -> real.votesNeeded(), () -> model.votesNeeded()); break;
            default: same("minuteWorth()", () -> Double.doubleToRawLongBits(real.minuteWorth()),
                () -> Double.doubleToRawLongBits(model.minuteWorth())); break;
        }
    }
}
