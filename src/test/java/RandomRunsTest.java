import java.util.Random;
import java.util.function.IntSupplier;

/** Runs of 512 calls, drawn by fixed seeds, each call asked of the program and of the Model. */
final class RandomRunsTest {
    private static final int RUNS = 3000;
    private static final int CALLS = 512;
    private static final int[] FAR = {Integer.MIN_VALUE, -2, -1, 1000, 1001, Integer.MAX_VALUE};

    private final Random random;
    private final int run;
    private final int spread;
    private final int base;
    private final int mostRows;
    private final WharfQuery x = new WharfQuery();
    private final Model model = new Model();
    private final StringBuilder calls = new StringBuilder();
    private int made;
    private int sources;
    private boolean isWrong;

    private RandomRunsTest(int run) {
        this.run = run;
        random = new Random(run);
        spread = new int[] {1, 2, 4, 8, 20, 100, 1000}[random.nextInt(7)];
        base = random.nextInt(1001 - spread);
        mostRows = random.nextInt(8) == 0 ? 40 : 12;
    }

    public static void main(String[] args) {
        for (int run = 0; run < RUNS; run++) {
            new RandomRunsTest(run).go();
        }
        Check.end();
    }

    private void go() {
        int building = random.nextInt(150);
        // A draw makes four calls at the most, and what a call behind the last one answers is free.
        for (int draw = 0; made <= CALLS - 4 && !isWrong; draw++) {
            if (draw < building || random.nextInt(4) == 0) {
                build();
            } else {
                ask();
            }
        }
    }

    /** Some limit is passed now and then, and now and then an argument is far off. */
    private int below(int limit) {
        int drawn = random.nextInt(100);
        return drawn == 0 ? FAR[random.nextInt(FAR.length)] : drawn == 1 ? limit : random.nextInt(limit);
    }

    private int drawnValue() {
        int drawn = random.nextInt(60);
        return drawn == 0 ? FAR[random.nextInt(FAR.length)] : drawn == 1 ? random.nextInt(1000)
                : base + random.nextInt(spread);
    }

    private void build() {
        switch (random.nextInt(20)) {
            case 0, 1 -> addTable(random.nextInt(20) == 0 ? below(5) : 1 + random.nextInt(3));
            case 2 -> addReport(random.nextInt(20) == 0 ? below(1002) : random.nextInt(5));
            case 3, 4 -> addSource(below(8), below(4));
            case 5 -> addCondition(below(8), below(3), below(3), below(3), drawnValue());
            case 6, 7 -> addJoin(below(8), below(3), below(3), below(3), below(3));
            case 8 -> setIndex(below(4), below(3), random.nextInt(3) > 0);
            case 9 -> renew(below(4), 1 + random.nextInt(random.nextBoolean() ? 2 : 11));
            case 10 -> delete(below(4), below(mostRows));
            case 11 -> setDue(below(8), random.nextInt(5) > 0);
            case 12 -> setSum(below(8), random.nextInt(4) - 1, below(3));
            default -> insertSome(below(4));
        }
    }

    private void ask() {
        int report = below(8);
        int table = below(4);
        int column = below(3);
        switch (random.nextInt(28)) {
            case 0 -> due("rows", () -> x.rows(table), () -> model.rows(table), table);
            case 1 -> value(table, below(mostRows), column);
            case 2 -> due("toldRows", () -> x.toldRows(table), () -> model.toldRows(table), table);
            case 3 -> due("unlike", () -> x.unlike(table, column), () -> model.unlike(table, column), table, column);
            case 4 -> due("least", () -> x.least(table, column), () -> model.least(table, column), table, column);
            case 5 -> due("greatest", () -> x.greatest(table, column), () -> model.greatest(table, column),
                    table, column);
            case 6 -> due("isMarked", () -> number(x.isMarked(table)), () -> number(model.isMarked(table)), table);
            case 7 -> due("isDue", () -> number(x.isDue(report)), () -> number(model.isDue(report)), report);
            case 8, 9 -> planSource(report, below(3));
            case 10, 11 -> planWay(report, below(3));
            case 12, 13 -> due("foretold", () -> x.foretold(report), () -> model.foretold(report), report);
            case 14, 15 -> due("minutes", () -> x.minutes(report), () -> model.minutes(report), report);
            case 16 -> answers(report);
            case 17, 18, 19 -> night(random.nextInt(3) == 0 ? random.nextInt(40) : below(3));
            case 20 -> due("nights", x::nights, model::nights);
            case 21 -> due("paid", x::paid, model::paid);
            case 22 -> due("left", x::left, model::left);
            case 23 -> due("owed", x::owed, model::owed);
            case 24 -> due("kept", () -> x.kept(report), () -> model.kept(report), report);
            case 25 -> due("keptSum", () -> x.keptSum(report), () -> model.keptSum(report), report);
            case 26 -> due("keptIn", () -> x.keptIn(report), () -> model.keptIn(report), report);
            default -> changeByDay(report);
        }
    }

    private void changeByDay(int report) {
        switch (random.nextInt(3)) {
            case 0 -> due("dropCondition", () -> x.dropCondition(report), () -> model.dropCondition(report), report);
            case 1 -> setStep(1 + below(10));
            default -> setDue(report, true);
        }
    }

    private void addTable(int columns) {
        due("addTable", () -> x.addTable(columns), () -> model.addTable(columns), columns);
    }

    private void addReport(int penalty) {
        due("addReport", () -> x.addReport(penalty), () -> model.addReport(penalty), penalty);
    }

    private void addSource(int report, int table) {
        // Three sources of 40 rows make the Model slow, so that few of them must do.
        if (mostRows == 40 && sources++ > 4) {
            return;
        }
        due("addSource", () -> x.addSource(report, table), () -> model.addSource(report, table), report, table);
    }

    private void addCondition(int report, int source, int column, int kind, int value) {
        due("addCondition", () -> x.addCondition(report, source, column, kind, value),
                () -> model.addCondition(report, source, column, kind, value), report, source, column, kind, value);
    }

    private void addJoin(int report, int source, int column, int other, int otherColumn) {
        due("addJoin", () -> x.addJoin(report, source, column, other, otherColumn),
                () -> model.addJoin(report, source, column, other, otherColumn),
                report, source, column, other, otherColumn);
    }

    private void setIndex(int table, int column, boolean has) {
        due("setIndex", () -> number(x.setIndex(table, column, has)),
                () -> number(model.setIndex(table, column, has)), table, column, number(has));
    }

    private void renew(int table, int step) {
        due("renew", () -> x.renew(table, step), () -> model.renew(table, step), table, step);
    }

    private void setStep(int step) {
        due("setStep", () -> x.setStep(step), () -> model.setStep(step), step);
    }

    private void delete(int table, int row) {
        due("delete", () -> x.delete(table, row), () -> model.delete(table, row), table, row);
    }

    private void setDue(int report, boolean isDue) {
        due("setDue", () -> number(x.setDue(report, isDue)), () -> number(model.setDue(report, isDue)),
                report, number(isDue));
    }

    private void setSum(int report, int source, int column) {
        due("setSum", () -> {
            x.setSum(report, source, column);
            return 0;
        }, () -> {
            model.setSum(report, source, column);
            return 0;
        }, report, source, column);
    }

    /** As many values as the table has columns, for the most part. */
    private void insertSome(int table) {
        if (mostRows < 40 && table >= 0 && table < 4 && rowsOf(table) >= mostRows) {
            return;
        }
        boolean careless = random.nextInt(20) == 0;
        int first = drawnValue();
        int second = careless || hasColumn(table, 1) ? drawnValue() : 0;
        int third = careless || hasColumn(table, 2) ? drawnValue() : 0;
        due("insert", () -> x.insert(table, first, second, third),
                () -> model.insert(table, first, second, third), table, first, second, third);
    }

    private int rowsOf(int table) {
        try {
            return model.rows(table);
        } catch (IndexOutOfBoundsException e) {
            return 0;
        }
    }

    private boolean hasColumn(int table, int column) {
        try {
            model.unlike(table, column);
            return true;
        } catch (IndexOutOfBoundsException e) {
            return false;
        }
    }

    private void value(int table, int row, int column) {
        due("value", () -> x.value(table, row, column), () -> model.value(table, row, column), table, row, column);
    }

    private void planSource(int report, int step) {
        due("planSource", () -> x.planSource(report, step), () -> model.planSource(report, step), report, step);
    }

    private void planWay(int report, int step) {
        due("planWay", () -> x.planWay(report, step), () -> model.planWay(report, step), report, step);
    }

    private void answers(int report) {
        due("answer", () -> x.answer(report), () -> model.answer(report), report);
        due("sum", () -> x.sum(report), () -> model.sum(report), report);
        due("plainAnswer", () -> x.plainAnswer(report), () -> model.answer(report), report);
        due("plainSum", () -> x.plainSum(report), () -> model.sum(report), report);
    }

    private void night(int reserve) {
        due("night", () -> x.night(reserve), () -> model.night(reserve), reserve);
    }

    private static int number(boolean is) {
        return is ? 1 : 0;
    }

    /** The program and the Model answer the same, or throw the same. */
    private void due(String name, IntSupplier program, IntSupplier due, int... arguments) {
        made++;
        calls.append("  ").append(name).append(java.util.Arrays.toString(arguments)).append('\n');
        String dueText = Check.textOf(due);
        String got = Check.textOf(program);
        if (got.equals(dueText)) {
            Check.same(name, 0, 0);
        } else {
            isWrong = true;
            Check.wrongBecause("run " + run + ":\n" + calls + "answered " + got + ", due is " + dueText);
        }
    }
}
