/** Promises 15 to 22: how reports are put together, and which are due. */
final class ReportsTest {
    private ReportsTest() {
    }

    public static void main(String[] args) {
        addReport();
        addSource();
        addCondition();
        addConditionRefuses();
        addJoin();
        addJoinRefuses();
        dropCondition();
        setSum();
        setDue();
        Check.end();
    }

    /** Table 0 has three columns, table 1 one; report 0 has table 0, table 1 and table 0 as sources. */
    private static WharfQuery withSources() {
        WharfQuery x = new WharfQuery();
        x.addTable(3);
        x.addTable(1);
        x.insert(0, 1, 10, 100);
        x.insert(0, 2, 20, 100);
        x.insert(0, 3, 30, 200);
        x.insert(1, 1, 0, 0);
        x.insert(1, 2, 0, 0);
        x.addReport(3);
        x.addSource(0, 0);
        x.addSource(0, 1);
        x.addSource(0, 0);
        return x;
    }

    private static void addReport() {
        WharfQuery x = new WharfQuery();
        for (int wrong : new int[] {-1, 1001, Integer.MIN_VALUE, Integer.MAX_VALUE}) {
            Check.badArgument("addReport", () -> x.addReport(wrong));
        }
        for (int report = 0; report < 8; report++) {
            Check.same("addReport", x.addReport(report % 2 * 1000), report);
        }
        Check.badState("ninth addReport", () -> x.addReport(0));
        Check.badArgument("ninth addReport of -1", () -> x.addReport(-1));
        Check.same("not due at first", x.isDue(7), false);
        Check.outOfBounds("report 8", () -> x.isDue(8));
        Check.badState("without conditions", () -> x.dropCondition(0));
        Check.outOfBounds("without sources", () -> x.planSource(0, 0));
    }

    private static void addSource() {
        WharfQuery x = new WharfQuery();
        x.addTable(1);
        x.addReport(0);
        for (int wrong : new int[] {-1, 1, 8, Integer.MIN_VALUE, Integer.MAX_VALUE}) {
            Check.outOfBounds("addSource to no report", () -> x.addSource(wrong, 0));
            Check.outOfBounds("addSource of no table", () -> x.addSource(0, wrong));
        }
        Check.same("first addSource", x.addSource(0, 0), 0);
        Check.same("second addSource", x.addSource(0, 0), 1);
        Check.same("third addSource", x.addSource(0, 0), 2);
        Check.badState("fourth addSource", () -> x.addSource(0, 0));
        Check.outOfBounds("fourth addSource of no table", () -> x.addSource(0, 1));
        Check.outOfBounds("fourth addSource to no report", () -> x.addSource(1, 0));
        Check.same("still three steps", x.planSource(0, 2), 2);
    }

    private static void addCondition() {
        WharfQuery x = withSources();
        Check.same("all choices", x.answer(0), 18);
        Check.same("SAME", x.addCondition(0, 0, 2, WharfQuery.SAME, 100), 0);
        Check.same("choices of SAME", x.answer(0), 12);
        Check.same("LESS", x.addCondition(0, 2, 1, WharfQuery.LESS, 30), 1);
        Check.same("choices of LESS", x.answer(0), 8);
        Check.same("MORE", x.addCondition(0, 1, 0, WharfQuery.MORE, 1), 2);
        Check.same("choices of MORE", x.answer(0), 4);
        Check.same("999 is in range", x.addCondition(0, 1, 0, WharfQuery.LESS, 999), 3);
        Check.same("choices of LESS 999", x.answer(0), 4);
        Check.same("0 is in range", x.addCondition(0, 0, 2, WharfQuery.MORE, 0), 4);
        Check.same("choices of MORE 0", x.answer(0), 4);
        Check.same("the sixth", x.addCondition(0, 1, 0, WharfQuery.SAME, 0), 5);
        Check.same("choices of none", x.answer(0), 0);
        Check.badState("a seventh", () -> x.addCondition(0, 0, 0, WharfQuery.SAME, 1));
        Check.badState("a join as the seventh", () -> x.addJoin(0, 0, 0, 1, 0));
    }

    private static void addConditionRefuses() {
        WharfQuery x = withSources();
        for (int wrong : new int[] {-1, 3, 8, Integer.MIN_VALUE, Integer.MAX_VALUE}) {
            Check.outOfBounds("no report", () -> x.addCondition(wrong, 0, 0, 0, 0));
            Check.outOfBounds("no source", () -> x.addCondition(0, wrong, 0, 0, 0));
            Check.outOfBounds("no column", () -> x.addCondition(0, 0, wrong, 0, 0));
            Check.badArgument("no kind", () -> x.addCondition(0, 0, 0, wrong, 0));
            Check.outOfBounds("no column ahead of no kind", () -> x.addCondition(0, 0, wrong, wrong, 0));
        }
        Check.outOfBounds("no such column of its table", () -> x.addCondition(0, 1, 1, 0, 0));
        for (int wrong : new int[] {-1, 1000, Integer.MIN_VALUE, Integer.MAX_VALUE}) {
            Check.badArgument("no value", () -> x.addCondition(0, 0, 0, 0, wrong));
            Check.outOfBounds("no source ahead of no value", () -> x.addCondition(0, 3, 0, 0, wrong));
        }
        for (int condition = 0; condition < 6; condition++) {
            Check.same("refused ones take no number", x.addCondition(0, 0, 0, 0, 0), condition);
        }
        Check.badArgument("no kind ahead of a seventh", () -> x.addCondition(0, 0, 0, 3, 0));
        Check.badArgument("no value ahead of a seventh", () -> x.addCondition(0, 0, 0, 0, 1000));
        Check.outOfBounds("no column ahead of a seventh", () -> x.addCondition(0, 0, 3, 0, 0));
    }

    private static void addJoin() {
        WharfQuery x = withSources();
        Check.same("first join", x.addJoin(0, 0, 0, 1, 0), 0);
        Check.same("choices of one join", x.answer(0), 6);
        Check.same("second join", x.addJoin(0, 2, 2, 0, 2), 1);
        Check.same("choices of two joins", x.answer(0), 4);
        Check.same("a join and a number", x.addCondition(0, 2, 1, WharfQuery.SAME, 20), 2);
        Check.same("choices of them", x.answer(0), 2);
        Check.same("a join of unlike columns", x.addJoin(0, 1, 0, 2, 1), 3);
        Check.same("choices of none", x.answer(0), 0);
    }

    private static void addJoinRefuses() {
        WharfQuery x = withSources();
        for (int wrong : new int[] {-1, 3, 8, Integer.MIN_VALUE, Integer.MAX_VALUE}) {
            Check.outOfBounds("no report", () -> x.addJoin(wrong, 0, 0, 1, 0));
            Check.outOfBounds("no source", () -> x.addJoin(0, wrong, 0, 1, 0));
            Check.outOfBounds("no column", () -> x.addJoin(0, 0, wrong, 1, 0));
            Check.outOfBounds("no other", () -> x.addJoin(0, 0, 0, wrong, 0));
            Check.outOfBounds("no other column", () -> x.addJoin(0, 0, 0, 2, wrong));
            Check.outOfBounds("no column ahead of the same", () -> x.addJoin(0, 0, 0, 0, wrong));
            Check.outOfBounds("neither of both", () -> x.addJoin(0, wrong, 0, wrong, 0));
        }
        Check.outOfBounds("no such column of the source's table", () -> x.addJoin(0, 1, 1, 0, 0));
        Check.outOfBounds("no such column of the other's table", () -> x.addJoin(0, 0, 0, 1, 1));
        Check.badArgument("the same source", () -> x.addJoin(0, 0, 0, 0, 0));
        Check.badArgument("the same source, other columns", () -> x.addJoin(0, 2, 0, 2, 1));
        for (int condition = 0; condition < 6; condition++) {
            Check.same("refused ones take no number", x.addJoin(0, 0, 0, 2, 0), condition);
        }
        Check.badState("a seventh", () -> x.addJoin(0, 0, 0, 2, 0));
        Check.badArgument("the same source ahead of a seventh", () -> x.addJoin(0, 1, 0, 1, 0));
        Check.outOfBounds("no other ahead of a seventh", () -> x.addJoin(0, 0, 0, 3, 0));
    }

    private static void dropCondition() {
        WharfQuery x = withSources();
        x.addReport(0);
        x.addCondition(0, 0, 2, WharfQuery.SAME, 100);
        x.addJoin(0, 0, 0, 1, 0);
        x.addCondition(0, 0, 0, WharfQuery.SAME, 0);
        Check.same("choices of all three", x.answer(0), 0);
        Check.same("dropCondition", x.dropCondition(0), 2);
        Check.same("choices of two", x.answer(0), 6);
        Check.same("dropCondition of the join", x.dropCondition(0), 1);
        Check.same("choices of one", x.answer(0), 12);
        Check.same("a number is used again", x.addCondition(0, 1, 0, WharfQuery.LESS, 2), 1);
        Check.same("choices of the new one", x.answer(0), 6);
        Check.same("dropCondition again", x.dropCondition(0), 1);
        Check.same("dropCondition of the last", x.dropCondition(0), 0);
        Check.same("choices without", x.answer(0), 18);
        Check.badState("dropCondition of none", () -> x.dropCondition(0));
        Check.badState("another report has none", () -> x.dropCondition(1));
        Check.outOfBounds("dropCondition of report 2", () -> x.dropCondition(2));
        Check.outOfBounds("dropCondition of report -1", () -> x.dropCondition(-1));
    }

    private static void setSum() {
        WharfQuery x = withSources();
        Check.same("sum without a column", x.sum(0), 0);
        x.setSum(0, 0, 1);
        Check.same("sum of column 1", x.sum(0), 6 * 60);
        x.setSum(0, 1, 0);
        Check.same("sum of source 1", x.sum(0), 9 * 3);
        for (int wrong : new int[] {-2, 3, 8, Integer.MIN_VALUE, Integer.MAX_VALUE}) {
            Check.outOfBounds("no source", () -> x.setSum(0, wrong, 0));
            Check.outOfBounds("no report", () -> x.setSum(wrong, 0, 0));
            Check.outOfBounds("no column", () -> x.setSum(0, 0, wrong));
            Check.outOfBounds("no report and NONE", () -> x.setSum(wrong, WharfQuery.NONE, 0));
        }
        Check.outOfBounds("column -1", () -> x.setSum(0, 0, -1));
        Check.outOfBounds("no such column of its table", () -> x.setSum(0, 1, 1));
        Check.same("refused ones change nothing", x.sum(0), 9 * 3);
        x.setSum(0, WharfQuery.NONE, 77);
        Check.same("NONE, and the column does not matter", x.sum(0), 0);
        x.setSum(0, 2, 2);
        Check.same("sum again", x.sum(0), 6 * 400);
    }

    private static void setDue() {
        WharfQuery x = new WharfQuery();
        x.addReport(0);
        x.addReport(0);
        Check.same("setDue", x.setDue(0, true), false);
        Check.same("isDue", x.isDue(0), true);
        Check.same("the other is not", x.isDue(1), false);
        Check.same("setDue again", x.setDue(0, true), true);
        Check.same("setDue off", x.setDue(0, false), true);
        Check.same("isDue no more", x.isDue(0), false);
        Check.same("setDue off again", x.setDue(0, false), false);
        for (int wrong : new int[] {-1, 2, 8, Integer.MIN_VALUE, Integer.MAX_VALUE}) {
            Check.outOfBounds("setDue of no report", () -> x.setDue(wrong, true));
            Check.outOfBounds("isDue of no report", () -> x.isDue(wrong));
        }
    }
}
