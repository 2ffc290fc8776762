import java.util.ArrayList;
import java.util.Comparator;
import java.util.List;
import java.util.TreeSet;

/**
 * The document once more, by the plainest means: lists, all plans side by side, all choices of
 * rows side by side. It shares no code and no shortcut with the program.
 */
final class Model {
    private static final int JOIN = 3;

    private static final class Table {
        final int columns;
        final List<int[]> rows = new ArrayList<>();
        final boolean[] index = new boolean[3];
        int told;
        final int[] unlike = new int[3];
        final int[] least = new int[3];
        final int[] greatest = new int[3];
        boolean marked;

        Table(int columns) {
            this.columns = columns;
        }

        List<int[]> there() {
            List<int[]> there = new ArrayList<>(rows);
            there.removeIf(row -> row == null);
            return there;
        }

        List<int[]> sample(int step) {
            List<int[]> there = there();
            List<int[]> sample = new ArrayList<>();
            for (int i = 0; i < there.size(); i += step) {
                sample.add(there.get(i));
            }
            return sample;
        }

        int renew(int step) {
            List<int[]> sample = sample(step);
            told = there().size();
            for (int column = 0; column < columns; column++) {
                TreeSet<Integer> values = new TreeSet<>();
                for (int[] row : sample) {
                    values.add(row[column]);
                }
                unlike[column] = Math.min(values.size() * step, told);
                least[column] = values.isEmpty() ? 0 : values.first();
                greatest[column] = values.isEmpty() ? 0 : values.last();
            }
            return sample.size();
        }
    }

    private record Condition(int kind, int source, int column, int number, int other, int otherColumn) {
    }

    private static final class Report {
        final int penalty;
        final List<Table> sources = new ArrayList<>();
        final List<Condition> conditions = new ArrayList<>();
        int sumSource = -1;
        int sumColumn;
        boolean due;
        int kept = -1;
        int keptSum = -1;
        int keptIn = -1;

        Report(int penalty) {
            this.penalty = penalty;
        }

        /** Those on the source of the step, and joins of it with sources of earlier steps. */
        List<Condition> ofStep(List<Integer> order, int step) {
            int source = order.get(step);
            List<Integer> earlier = order.subList(0, step);
            List<Condition> found = new ArrayList<>();
            for (Condition condition : conditions) {
                if (condition.kind != JOIN) {
                    if (condition.source == source) {
                        found.add(condition);
                    }
                } else if (condition.source == source && earlier.contains(condition.other)
                        || condition.other == source && earlier.contains(condition.source)) {
                    found.add(condition);
                }
            }
            return found;
        }

        List<Condition> usable(List<Integer> order, int step, int column) {
            int source = order.get(step);
            List<Condition> found = new ArrayList<>();
            for (Condition condition : ofStep(order, step)) {
                boolean same = condition.kind == WharfQuery.SAME && condition.column == column;
                boolean join = condition.kind == JOIN
                        && (condition.source == source ? condition.column : condition.otherColumn) == column;
                if (same || join) {
                    found.add(condition);
                }
            }
            return found;
        }
    }

    private record Plan(List<Integer> order, List<Integer> ways, long thousandths) {
        long minutes() {
            return thousandths / 1000 + (thousandths % 1000 > 0 ? 1 : 0);
        }
    }

    private record Outcome(int minutes, int answer, int sum) {
    }

    private final List<Table> tables = new ArrayList<>();
    private final List<Report> reports = new ArrayList<>();
    private int step = 1;
    private int nights;
    private int paid;
    private int left;
    private int owed;

    private static void boundsIf(boolean wrong) {
        if (wrong) {
            throw new IndexOutOfBoundsException();
        }
    }

    private static void argumentIf(boolean wrong) {
        if (wrong) {
            throw new IllegalArgumentException();
        }
    }

    private static void stateIf(boolean wrong) {
        if (wrong) {
            throw new IllegalStateException();
        }
    }

    private Table table(int table) {
        boundsIf(table < 0 || table >= tables.size());
        return tables.get(table);
    }

    private Table tableWith(int table, int column) {
        Table found = table(table);
        boundsIf(column < 0 || column >= found.columns);
        return found;
    }

    private Report report(int report) {
        boundsIf(report < 0 || report >= reports.size());
        return reports.get(report);
    }

    private static void sourceColumn(Report report, int source, int column) {
        boundsIf(source < 0 || source >= report.sources.size());
        boundsIf(column < 0 || column >= report.sources.get(source).columns);
    }

    int addTable(int columns) {
        argumentIf(columns < 1 || columns > 3);
        stateIf(tables.size() == 4);
        tables.add(new Table(columns));
        return tables.size() - 1;
    }

    int insert(int table, int first, int second, int third) {
        Table found = table(table);
        int[] row = {first, second, third};
        for (int column = 0; column < 3; column++) {
            argumentIf(row[column] < 0 || row[column] > 999);
            argumentIf(column >= found.columns && row[column] != 0);
        }
        stateIf(found.rows.size() == 40);
        found.rows.add(row);
        return found.rows.size() - 1;
    }

    int delete(int table, int row) {
        Table found = table(table);
        boundsIf(row < 0 || row >= found.rows.size() || found.rows.get(row) == null);
        found.rows.set(row, null);
        return found.there().size();
    }

    boolean setIndex(int table, int column, boolean has) {
        Table found = tableWith(table, column);
        boolean had = found.index[column];
        found.index[column] = has;
        return had;
    }

    int rows(int table) {
        return table(table).there().size();
    }

    int value(int table, int row, int column) {
        Table found = tableWith(table, column);
        boundsIf(row < 0 || row >= found.rows.size() || found.rows.get(row) == null);
        return found.rows.get(row)[column];
    }

    int renew(int table, int by) {
        Table found = table(table);
        argumentIf(by < 1 || by > 10);
        return found.renew(by);
    }

    int setStep(int by) {
        argumentIf(by < 1 || by > 10);
        int before = step;
        step = by;
        return before;
    }

    int toldRows(int table) {
        return table(table).told;
    }

    int unlike(int table, int column) {
        return tableWith(table, column).unlike[column];
    }

    int least(int table, int column) {
        return tableWith(table, column).least[column];
    }

    int greatest(int table, int column) {
        return tableWith(table, column).greatest[column];
    }

    boolean isMarked(int table) {
        return table(table).marked;
    }

    int addReport(int penalty) {
        argumentIf(penalty < 0 || penalty > 1000);
        stateIf(reports.size() == 8);
        reports.add(new Report(penalty));
        return reports.size() - 1;
    }

    int addSource(int report, int table) {
        Report found = report(report);
        Table source = table(table);
        stateIf(found.sources.size() == 3);
        found.sources.add(source);
        return found.sources.size() - 1;
    }

    int addCondition(int report, int source, int column, int kind, int value) {
        Report found = report(report);
        sourceColumn(found, source, column);
        argumentIf(kind < 0 || kind > 2 || value < 0 || value > 999);
        stateIf(found.conditions.size() == 6);
        found.conditions.add(new Condition(kind, source, column, value, -1, -1));
        return found.conditions.size() - 1;
    }

    int addJoin(int report, int source, int column, int other, int otherColumn) {
        Report found = report(report);
        sourceColumn(found, source, column);
        sourceColumn(found, other, otherColumn);
        argumentIf(source == other);
        stateIf(found.conditions.size() == 6);
        found.conditions.add(new Condition(JOIN, source, column, -1, other, otherColumn));
        return found.conditions.size() - 1;
    }

    int dropCondition(int report) {
        Report found = report(report);
        stateIf(found.conditions.isEmpty());
        found.conditions.remove(found.conditions.size() - 1);
        return found.conditions.size();
    }

    void setSum(int report, int source, int column) {
        Report found = report(report);
        if (source != -1) {
            sourceColumn(found, source, column);
        }
        found.sumSource = source;
        found.sumColumn = column;
    }

    boolean setDue(int report, boolean isDue) {
        Report found = report(report);
        boolean was = found.due;
        found.due = isDue;
        return was;
    }

    boolean isDue(int report) {
        return report(report).due;
    }

    int planSource(int report, int at) {
        Report found = report(report);
        boundsIf(at < 0 || at >= found.sources.size());
        return plan(found).order.get(at);
    }

    int planWay(int report, int at) {
        Report found = report(report);
        boundsIf(at < 0 || at >= found.sources.size());
        return plan(found).ways.get(at);
    }

    int foretold(int report) {
        return (int) foretoldMinutes(report(report));
    }

    int minutes(int report) {
        Report found = report(report);
        return run(found, plan(found)).minutes;
    }

    int answer(int report) {
        return all(report(report)).answer;
    }

    int sum(int report) {
        return all(report(report)).sum;
    }

    int night(int reserve) {
        argumentIf(reserve < 0 || reserve > 1000);
        stateIf(nights == 500);
        int pay = reserve;
        for (Table table : tables) {
            pay += table.marked ? table.sample(step).size() : 0;
        }
        for (Report report : reports) {
            pay += report.due ? (int) foretoldMinutes(report) : 0;
        }
        paid += pay;
        left = pay;
        for (Table table : tables) {
            int sample = table.sample(step).size();
            if (table.marked && sample <= left) {
                table.renew(step);
                left -= sample;
                table.marked = false;
            }
        }
        int done = workOff();
        nights++;
        return done;
    }

    private int workOff() {
        List<Report> waiting = new ArrayList<>(reports);
        waiting.removeIf(report -> !report.due);
        waiting.sort(Comparator.comparing(report -> -report.penalty));
        List<Table> atDawn = new ArrayList<>();
        int done = 0;
        boolean home = false;
        for (Report report : waiting) {
            Plan plan = plan(report);
            Outcome outcome = run(report, plan);
            home = home || outcome.minutes > left;
            if (home) {
                owed += report.penalty;
                atDawn.addAll(report.sources);
                continue;
            }
            done++;
            left -= outcome.minutes;
            report.kept = outcome.answer;
            report.keptSum = outcome.sum;
            report.keptIn = nights;
            report.due = false;
            long foretold = report.sources.isEmpty() ? 0 : plan.minutes();
            if (outcome.minutes > 2 * foretold || foretold > 2L * outcome.minutes) {
                atDawn.addAll(report.sources);
            }
        }
        for (Table table : atDawn) {
            table.marked = true;
        }
        return done;
    }

    int nights() {
        return nights;
    }

    int paid() {
        return paid;
    }

    int left() {
        return left;
    }

    int owed() {
        return owed;
    }

    int kept(int report) {
        return report(report).kept;
    }

    int keptSum(int report) {
        return report(report).keptSum;
    }

    int keptIn(int report) {
        return report(report).keptIn;
    }

    private static long foretoldMinutes(Report report) {
        return report.sources.isEmpty() ? 0 : plan(report).minutes();
    }

    /** All plans there are, and of these the one that the document puts ahead of the others. */
    private static Plan plan(Report report) {
        List<Plan> plans = new ArrayList<>();
        for (List<Integer> order : orders(report.sources.size())) {
            List<List<Integer>> waysSoFar = List.of(List.of());
            for (int at = 0; at < order.size(); at++) {
                waysSoFar = longerBy(waysSoFar, waysAt(report, order, at));
            }
            for (List<Integer> ways : waysSoFar) {
                plans.add(new Plan(order, ways, thousandths(report, order, ways)));
            }
        }
        return plans.stream().min(Comparator.comparingLong(Plan::thousandths)
                .thenComparing(Plan::order, Model::compareLists)
                .thenComparing(Plan::ways, Model::compareLists)).orElseThrow();
    }

    private static int compareLists(List<Integer> a, List<Integer> b) {
        for (int i = 0; i < a.size(); i++) {
            if (!a.get(i).equals(b.get(i))) {
                return a.get(i).compareTo(b.get(i));
            }
        }
        return 0;
    }

    private static List<List<Integer>> orders(int sources) {
        List<List<Integer>> orders = List.of(List.of());
        List<Integer> all = new ArrayList<>();
        for (int source = 0; source < sources; source++) {
            all.add(source);
        }
        for (int at = 0; at < sources; at++) {
            orders = new ArrayList<>(longerBy(orders, all));
            orders.removeIf(order -> order.indexOf(order.get(order.size() - 1)) != order.size() - 1);
        }
        return orders;
    }

    private static List<List<Integer>> longerBy(List<List<Integer>> lists, List<Integer> ends) {
        List<List<Integer>> longer = new ArrayList<>();
        for (List<Integer> list : lists) {
            for (int end : ends) {
                List<Integer> next = new ArrayList<>(list);
                next.add(end);
                longer.add(next);
            }
        }
        return longer;
    }

    private static List<Integer> waysAt(Report report, List<Integer> order, int at) {
        Table table = report.sources.get(order.get(at));
        List<Integer> ways = new ArrayList<>(List.of(-1));
        for (int column = 0; column < table.columns; column++) {
            if (table.index[column] && !report.usable(order, at, column).isEmpty()) {
                ways.add(column);
            }
        }
        return ways;
    }

    private static long thousandths(Report report, List<Integer> order, List<Integer> ways) {
        long c = 1000;
        long together = 0;
        for (int at = 0; at < order.size(); at++) {
            Table table = report.sources.get(order.get(at));
            long n = table.told;
            int way = ways.get(at);
            together += way == -1 ? c * n : c + c * n / Math.max(table.unlike[way], 1);
            c = c * n;
            for (Condition condition : report.ofStep(order, at)) {
                c = changed(report, condition, c);
            }
        }
        return together;
    }

    private static long changed(Report report, Condition condition, long c) {
        Table table = report.sources.get(condition.source);
        long u = table.unlike[condition.column];
        if (condition.kind == WharfQuery.SAME) {
            return c / Math.max(u, 1);
        }
        if (condition.kind == JOIN) {
            long v = report.sources.get(condition.other).unlike[condition.otherColumn];
            return c / Math.max(Math.max(u, v), 1);
        }
        long least = table.least[condition.column];
        long greatest = table.greatest[condition.column];
        long s = greatest - least + 1;
        long k = condition.kind == WharfQuery.LESS ? condition.number - least : greatest - condition.number;
        k = k < 0 ? 0 : k > s ? s : k;
        return c * k / s;
    }

    /** Step by step over all choices at once, each a row of every source or none yet. */
    private static Outcome run(Report report, Plan plan) {
        int minutes = 0;
        List<int[][]> choices = new ArrayList<>();
        if (!report.sources.isEmpty()) {
            choices.add(new int[report.sources.size()][]);
        }
        for (int at = 0; at < report.sources.size(); at++) {
            int source = plan.order.get(at);
            int way = plan.ways.get(at);
            List<Condition> conditions = report.ofStep(plan.order, at);
            List<int[]> there = report.sources.get(source).there();
            List<int[][]> next = new ArrayList<>();
            for (int[][] choice : choices) {
                List<int[]> visited = there;
                if (way != -1) {
                    minutes++;
                    int value = lookedFor(report.usable(plan.order, at, way).get(0), source, choice);
                    visited = new ArrayList<>(there);
                    visited.removeIf(row -> row[way] != value);
                }
                minutes += visited.size();
                for (int[] row : visited) {
                    int[][] longer = choice.clone();
                    longer[source] = row;
                    if (hold(conditions, longer)) {
                        next.add(longer);
                    }
                }
            }
            choices = next;
        }
        return new Outcome(minutes, choices.size(), summed(report, choices));
    }

    private static int lookedFor(Condition condition, int source, int[][] choice) {
        if (condition.kind == WharfQuery.SAME) {
            return condition.number;
        }
        return condition.source == source
                ? choice[condition.other][condition.otherColumn]
                : choice[condition.source][condition.column];
    }

    private static boolean hold(List<Condition> conditions, int[][] choice) {
        for (Condition condition : conditions) {
            int value = choice[condition.source][condition.column];
            boolean holds = switch (condition.kind) {
                case WharfQuery.SAME -> value == condition.number;
                case WharfQuery.LESS -> value < condition.number;
                case WharfQuery.MORE -> value > condition.number;
                default -> value == choice[condition.other][condition.otherColumn];
            };
            if (!holds) {
                return false;
            }
        }
        return true;
    }

    private static int summed(Report report, List<int[][]> choices) {
        int sum = 0;
        for (int[][] choice : choices) {
            sum += report.sumSource == -1 ? 0 : choice[report.sumSource][report.sumColumn];
        }
        return sum;
    }

    /** All choices of a row of each source, and behind that all conditions: no plan at all. */
    private static Outcome all(Report report) {
        List<int[][]> choices = new ArrayList<>();
        if (!report.sources.isEmpty()) {
            choices.add(new int[report.sources.size()][]);
        }
        for (int source = 0; source < report.sources.size(); source++) {
            List<int[][]> next = new ArrayList<>();
            for (int[][] choice : choices) {
                for (int[] row : report.sources.get(source).there()) {
                    int[][] longer = choice.clone();
                    longer[source] = row;
                    next.add(longer);
                }
            }
            choices = next;
        }
        choices.removeIf(choice -> !hold(report.conditions, choice));
        return new Outcome(0, choices.size(), summed(report, choices));
    }
}
