import java.util.ArrayList;
import java.util.List;
import java.util.function.IntSupplier;

/**
 * What an object answers: as it is, of its rows, and when it goes on. No portrait makes more than
 * 300 calls, so that some 200 are left for an object's past.
 */
final class Portrait {
    // One table and one report more than there can be.
    private static final int TABLES = 5, REPORTS = 9;
    private static final int COLUMNS = 3, ROWS = 40, SOURCES = 3, CONDITIONS = 6;

    private final WharfQuery x;
    private final List<String> answers = new ArrayList<>();

    private Portrait(WharfQuery x) {
        this.x = x;
    }

    private void ask(String call, IntSupplier answer) {
        answers.add(call + " answered " + Check.textOf(answer));
    }

    private static int number(boolean is) {
        return is ? 1 : 0;
    }

    /** For an object that has few calls left: the answers of just these. */
    static List<String> of(IntSupplier... calls) {
        List<String> answers = new ArrayList<>();
        for (IntSupplier call : calls) {
            answers.add("call " + answers.size() + " answered " + Check.textOf(call));
        }
        return answers;
    }

    static List<String> ofState(WharfQuery x) {
        Portrait portrait = new Portrait(x);
        portrait.askNights();
        portrait.askCounts();
        portrait.askReports();
        return portrait.answers;
    }

    static List<String> ofRows(WharfQuery x) {
        Portrait portrait = new Portrait(x);
        for (int i = 0; i < TABLES; i++) {
            int table = i;
            for (int j = 0; j < ROWS; j++) {
                int row = j;
                int columns = row < 10 ? COLUMNS : 1;
                for (int k = 0; k < columns; k++) {
                    int column = k;
                    portrait.ask("value " + table + " " + row + " " + column, () -> x.value(table, row, column));
                }
            }
        }
        return portrait.answers;
    }

    /** Changes the object so that what can't be asked for comes to light. */
    static List<String> ofFuture(WharfQuery x) {
        Portrait portrait = new Portrait(x);
        portrait.ask("setStep(1)", () -> x.setStep(1));
        portrait.dropConditions();
        portrait.addMore();
        portrait.letNightsPass();
        return portrait.answers;
    }

    private void askNights() {
        ask("nights()", x::nights);
        ask("paid()", x::paid);
        ask("left()", x::left);
        ask("owed()", x::owed);
    }

    private void askCounts() {
        for (int i = 0; i < TABLES; i++) {
            int table = i;
            ask("rows " + table, () -> x.rows(table));
            ask("toldRows " + table, () -> x.toldRows(table));
            ask("isMarked " + table, () -> number(x.isMarked(table)));
            for (int j = 0; j < COLUMNS; j++) {
                int column = j;
                ask("unlike " + table + " " + column, () -> x.unlike(table, column));
                ask("least " + table + " " + column, () -> x.least(table, column));
                ask("greatest " + table + " " + column, () -> x.greatest(table, column));
            }
        }
    }

    private void askReports() {
        for (int i = 0; i < REPORTS; i++) {
            int report = i;
            ask("isDue " + report, () -> number(x.isDue(report)));
            ask("foretold " + report, () -> x.foretold(report));
            ask("minutes " + report, () -> x.minutes(report));
            ask("answer " + report, () -> x.answer(report));
            ask("sum " + report, () -> x.sum(report));
            ask("plainAnswer " + report, () -> x.plainAnswer(report));
            ask("plainSum " + report, () -> x.plainSum(report));
            askKept(report);
            for (int j = 0; j < SOURCES; j++) {
                int step = j;
                ask("planSource " + report + " " + step, () -> x.planSource(report, step));
                ask("planWay " + report + " " + step, () -> x.planWay(report, step));
            }
        }
    }

    private void askKept(int report) {
        ask("kept " + report, () -> x.kept(report));
        ask("keptSum " + report, () -> x.keptSum(report));
        ask("keptIn " + report, () -> x.keptIn(report));
    }

    private void dropConditions() {
        for (int i = 0; i < REPORTS; i++) {
            int report = i;
            for (int j = 0; j <= CONDITIONS; j++) {
                ask("answer of fewer conditions " + report, () -> x.answer(report));
                ask("sum of fewer conditions " + report, () -> x.sum(report));
                ask("dropCondition " + report, () -> x.dropCondition(report));
                if (!answers.get(answers.size() - 1).matches(".* \\d+")) {
                    break;
                }
            }
        }
    }

    private void addMore() {
        for (int i = 0; i < TABLES; i++) {
            int table = i;
            for (int j = 0; j < COLUMNS; j++) {
                int column = j;
                ask("setIndex " + table + " " + column, () -> number(x.setIndex(table, column, true)));
            }
            ask("insert " + table, () -> x.insert(table, 3, 0, 0));
            ask("rows with one more " + table, () -> x.rows(table));
        }
        ask("addTable", () -> x.addTable(2));
        ask("addReport", () -> x.addReport(7));
        for (int i = 0; i < REPORTS; i++) {
            int report = i;
            ask("addSource " + report, () -> x.addSource(report, 0));
            ask("setDue " + report, () -> number(x.setDue(report, true)));
        }
    }

    private void letNightsPass() {
        for (int reserve : new int[] {5, 0}) {
            ask("night " + reserve, () -> x.night(reserve));
            askNights();
            for (int i = 0; i < TABLES; i++) {
                int table = i;
                ask("isMarked behind a night " + table, () -> number(x.isMarked(table)));
            }
        }
        for (int report = 0; report < REPORTS; report++) {
            askKept(report);
        }
    }
}
