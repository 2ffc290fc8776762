import java.util.List;
import java.util.function.Consumer;

/** "Terms", ahead of its parts: what all calls have in common. */
final class TermsTest {
    private static final Past FRESH = new Past(WharfQuery::new);
    private static final Past BUSY = new Past(Stores::busy);
    private static final Past FULL = new Past(Stores::full);

    private TermsTest() {
    }

    public static void main(String[] args) {
        askingChangesNothing();
        objectsAreApart();
        whatIsThrown();
        lastTableIsNotRefused();
        lastReportIsNotRefused();
        firstOfAllIsNotRefused();
        argumentAheadOfState();
        boundsAheadOfArgument();
        boundsAheadOfState();
        allThreeApply();
        manyRefusedCallsChangeNothing();
        divisionsAreRoundedDown();
        Document.allSaid("Terms");
        Check.end();
    }

    private static void askingChangesNothing() {
        Document.says("Terms", "Tables, rows and indexes are told, reports are put together, counts are renewed, nights pass;");
        Document.says("Terms", "counts, plans, minutes, answers, pay and penalties can be asked for, answers also by the plainest plan.");
        WharfQuery twice = Stores.busy();
        List<String> once = Portrait.ofState(twice);
        Check.same("asked twice", Portrait.ofState(twice).equals(once), true);
        List<String> due = Portrait.ofFuture(Stores.busy());
        WharfQuery asked = Stores.busy();
        Portrait.ofState(asked);
        Check.same("the future of what was asked", Portrait.ofFuture(asked).equals(due), true);
        WharfQuery askedForRows = Stores.busy();
        Portrait.ofRows(askedForRows);
        Check.same("the future of rows that were asked", Portrait.ofFuture(askedForRows).equals(due), true);
    }

    private static void objectsAreApart() {
        Document.says("Terms", "can be asked for");
        List<String> due = Portrait.ofState(Stores.busy());
        WharfQuery busy = Stores.busy();
        WharfQuery other = Stores.full();
        Portrait.ofFuture(other);
        Check.same("another object in between", Portrait.ofState(busy).equals(due), true);
    }

    private static void whatIsThrown() {
        Document.says("Terms", "A method throws IndexOutOfBoundsException if there is no such table, column, row, "
                + "report, source, condition or step");
        BUSY.outOfBounds("no table", x -> x.rows(3));
        BUSY.outOfBounds("no column", x -> x.value(0, 0, 1));
        BUSY.outOfBounds("no row", x -> x.value(0, 1, 0));
        BUSY.outOfBounds("no report", x -> x.answer(3));
        BUSY.outOfBounds("no source", x -> x.setSum(0, 2, 0));
        BUSY.outOfBounds("no step", x -> x.planSource(0, 2));
        Document.says("Terms", "IllegalArgumentException if another argument is out of range");
        BUSY.badArgument("columns", x -> x.addTable(4));
        BUSY.badArgument("a value", x -> x.insert(0, 1000, 0, 0));
        BUSY.badArgument("a step of samples", x -> x.renew(0, 11));
        BUSY.badArgument("a penalty", x -> x.addReport(1001));
        BUSY.badArgument("a kind", x -> x.addCondition(0, 0, 0, 3, 0));
        BUSY.badArgument("a number", x -> x.addCondition(0, 0, 0, 0, 1000));
        BUSY.badArgument("a reserve", x -> x.night(1001));
        Document.says("Terms", "and IllegalStateException as it documents");
        FULL.badState("a fifth table", x -> x.addTable(1));
        FULL.badState("a 41st row", x -> x.insert(0, 0, 0, 0));
        FULL.badState("a ninth report", x -> x.addReport(0));
        FULL.badState("a fourth source", x -> x.addSource(7, 0));
        FULL.badState("a seventh condition", x -> x.addCondition(7, 0, 0, 0, 0));
        FRESH.outOfBounds("the first table of none", x -> x.rows(0));
    }

    private static void lastTableIsNotRefused() {
        Document.says("Terms", "if there is no such table, column, row");
        WharfQuery x = Stores.full();
        Check.same("insert", x.insert(3, 999, 999, 999), 0);
        Check.same("setIndex", x.setIndex(3, 2, true), false);
        Check.same("rows", x.rows(3), 1);
        Check.same("value", x.value(3, 0, 2), 999);
        Check.same("renew", x.renew(3, 10), 1);
        Check.same("toldRows", x.toldRows(3), 1);
        Check.same("unlike", x.unlike(3, 2), 1);
        Check.same("least", x.least(3, 2), 999);
        Check.same("greatest", x.greatest(3, 2), 999);
        Check.same("isMarked", x.isMarked(3), false);
        Check.same("addSource", x.addSource(0, 3), 0);
        Check.same("delete", x.delete(3, 0), 0);
        Check.same("value of the last row of 39", x.value(0, 38, 2), 961);
        Check.same("delete of the last row of 39", x.delete(0, 38), 38);
    }

    private static void lastReportIsNotRefused() {
        Document.says("Terms", "report, source, condition or step");
        WharfQuery x = Stores.full();
        Check.same("dropCondition", x.dropCondition(7), 5);
        Check.same("addCondition", x.addCondition(7, 2, 0, WharfQuery.MORE, 0), 5);
        Check.same("dropCondition again", x.dropCondition(7), 5);
        Check.same("addJoin", x.addJoin(7, 2, 0, 1, 0), 5);
        x.setSum(7, 2, 0);
        Check.same("setDue", x.setDue(7, true), true);
        Check.same("isDue", x.isDue(7), true);
        Check.same("planSource", x.planSource(7, 2) >= 0, true);
        Check.same("planWay", x.planWay(7, 2) >= -1, true);
        Check.same("foretold", x.foretold(7) >= 0, true);
        Check.same("minutes", x.minutes(7) > 0, true);
        Check.same("answer", x.answer(7), x.plainAnswer(7));
        Check.same("sum", x.sum(7), 3 * x.answer(7));
        Check.same("plainSum", x.plainSum(7), 3 * x.answer(7));
        Check.same("kept", x.kept(7), -1);
        Check.same("keptSum", x.keptSum(7), -1);
        Check.same("keptIn", x.keptIn(7), -1);
        Check.same("addSource to the last but one", x.addSource(6, 0), 0);
    }

    private static void firstOfAllIsNotRefused() {
        Document.says("Terms", "if there is no such table, column, row, report, source, condition or step");
        WharfQuery x = new WharfQuery();
        Check.same("addTable", x.addTable(1), 0);
        Check.same("insert", x.insert(0, 0, 0, 0), 0);
        Check.same("setIndex", x.setIndex(0, 0, true), false);
        Check.same("rows", x.rows(0), 1);
        Check.same("value", x.value(0, 0, 0), 0);
        Check.same("renew", x.renew(0, 1), 1);
        Check.same("toldRows", x.toldRows(0), 1);
        Check.same("unlike", x.unlike(0, 0), 1);
        Check.same("least", x.least(0, 0), 0);
        Check.same("greatest", x.greatest(0, 0), 0);
        Check.same("isMarked", x.isMarked(0), false);
        Check.same("addReport", x.addReport(0), 0);
        Check.same("addSource", x.addSource(0, 0), 0);
        Check.same("addSource again", x.addSource(0, 0), 1);
        Check.same("addJoin", x.addJoin(0, 0, 0, 1, 0), 0);
        Check.same("dropCondition", x.dropCondition(0), 0);
        Check.same("addCondition", x.addCondition(0, 0, 0, WharfQuery.SAME, 0), 0);
        x.setSum(0, 0, 0);
        Check.same("setDue", x.setDue(0, true), false);
        Check.same("isDue", x.isDue(0), true);
        Check.same("planSource", x.planSource(0, 0), 0);
        Check.same("planWay", x.planWay(0, 0), -1);
        Check.same("foretold", x.foretold(0), 2);
        Check.same("minutes", x.minutes(0), 2);
        Check.same("answer", x.answer(0), 1);
        Check.same("sum", x.sum(0), 0);
        Check.same("plainAnswer", x.plainAnswer(0), 1);
        Check.same("plainSum", x.plainSum(0), 0);
        Check.same("night", x.night(0), 1);
        Check.same("kept", x.kept(0), 1);
        Check.same("keptSum", x.keptSum(0), 0);
        Check.same("keptIn", x.keptIn(0), 0);
        Check.same("delete", x.delete(0, 0), 0);
    }

    private static void argumentAheadOfState() {
        Document.says("Terms", "if several apply, the one that it lists first is thrown");
        FULL.badArgument("a fifth table of no columns", x -> x.addTable(0));
        FULL.badArgument("a fifth table of 4 columns", x -> x.addTable(4));
        FULL.badArgument("a 41st row of -1", x -> x.insert(0, -1, 0, 0));
        FULL.badArgument("a 41st row of 1000 in its last column", x -> x.insert(0, 0, 0, 1000));
        FULL.badArgument("a ninth report of -1", x -> x.addReport(-1));
        FULL.badArgument("a ninth report of 1001", x -> x.addReport(1001));
        FULL.badArgument("a seventh condition of no kind", x -> x.addCondition(7, 0, 0, -1, 0));
        FULL.badArgument("a seventh condition of 1000", x -> x.addCondition(7, 0, 0, 0, 1000));
        FULL.badArgument("a seventh condition as a join of one source", x -> x.addJoin(7, 1, 0, 1, 2));
    }

    private static void boundsAheadOfArgument() {
        Document.says("Terms", "if several apply, the one that it lists first is thrown");
        BUSY.outOfBounds("a row of 1000 in no table", x -> x.insert(3, 1000, 0, 0));
        BUSY.outOfBounds("a row of too many values in no table", x -> x.insert(-1, 0, 0, 1));
        BUSY.outOfBounds("renew of no table by 0", x -> x.renew(3, 0));
        BUSY.outOfBounds("renew of no table by 11", x -> x.renew(-1, 11));
        BUSY.outOfBounds("a condition of no report and no kind", x -> x.addCondition(3, 0, 0, 3, 0));
        BUSY.outOfBounds("a condition of no source and no kind", x -> x.addCondition(0, 2, 0, 3, 0));
        BUSY.outOfBounds("a condition of no column and no kind", x -> x.addCondition(0, 0, 1, 3, 0));
        BUSY.outOfBounds("a condition of no column and -1", x -> x.addCondition(0, 1, 2, 0, -1));
        BUSY.outOfBounds("a join of no report and one source", x -> x.addJoin(3, 0, 0, 0, 0));
        BUSY.outOfBounds("a join of one source that is none", x -> x.addJoin(0, 2, 0, 2, 0));
        BUSY.outOfBounds("a join of one source and no column", x -> x.addJoin(0, 0, 1, 0, 0));
        BUSY.outOfBounds("a join of one source and no other column", x -> x.addJoin(0, 0, 0, 0, 1));
    }

    private static void boundsAheadOfState() {
        Document.says("Terms", "if several apply, the one that it lists first is thrown");
        FULL.outOfBounds("a fourth source of no table", x -> x.addSource(7, 4));
        FULL.outOfBounds("a fourth source of table -1", x -> x.addSource(7, -1));
        FULL.outOfBounds("a seventh condition of no source", x -> x.addCondition(7, 3, 0, 0, 0));
        FULL.outOfBounds("a seventh condition of no column", x -> x.addCondition(7, 2, 1, 0, 0));
        FULL.outOfBounds("a seventh condition as a join of no source", x -> x.addJoin(7, 3, 0, 0, 0));
        FULL.outOfBounds("a seventh condition as a join with no source", x -> x.addJoin(7, 0, 0, 3, 0));
        FULL.outOfBounds("a seventh condition as a join of no column", x -> x.addJoin(7, 2, 1, 0, 0));
        FULL.outOfBounds("a seventh condition as a join with no column", x -> x.addJoin(7, 0, 0, 2, 1));
        FULL.outOfBounds("dropCondition of no report, which has none", x -> x.dropCondition(8));
    }

    private static void allThreeApply() {
        Document.says("Terms", "if several apply, the one that it lists first is thrown");
        FULL.outOfBounds("a seventh condition of no source, no kind and 1000", x -> x.addCondition(7, 3, 0, 3, 1000));
        FULL.outOfBounds("a seventh condition of no column, no kind and -1", x -> x.addCondition(7, 2, 1, -1, -1));
        FULL.outOfBounds("a seventh condition as a join of one source and no column", x -> x.addJoin(7, 2, 1, 2, 0));
        FULL.outOfBounds("a seventh condition as a join of one source that is none", x -> x.addJoin(7, 3, 0, 3, 0));
    }

    private static void refuse(WharfQuery x, Consumer<WharfQuery> call) {
        try {
            call.accept(x);
            Check.wrongBecause("a call that is to be refused is not");
        } catch (IndexOutOfBoundsException | IllegalArgumentException | IllegalStateException e) {
            Check.same("refused", 0, 0);
        }
    }

    private static void manyRefusedCallsChangeNothing() {
        Document.says("Terms", "A call that throws changes nothing.");
        BUSY.badState("many calls", x -> {
            for (int round = 0; round < 4; round++) {
                refuse(x, y -> y.addTable(0));
                refuse(x, y -> y.insert(0, 5, 1, 0));
                refuse(x, y -> y.insert(3, 5, 0, 0));
                refuse(x, y -> y.delete(0, 1));
                refuse(x, y -> y.setIndex(0, 1, false));
                refuse(x, y -> y.renew(2, 0));
                refuse(x, y -> y.setStep(0));
                refuse(x, y -> y.addReport(-1));
                refuse(x, y -> y.addSource(2, 3));
                refuse(x, y -> y.addCondition(0, 0, 0, 0, 1000));
                refuse(x, y -> y.addJoin(0, 0, 0, 0, 0));
                refuse(x, y -> y.dropCondition(2));
                refuse(x, y -> y.setSum(0, 1, 2));
                refuse(x, y -> y.setDue(3, true));
                refuse(x, y -> y.night(-1));
            }
            x.dropCondition(2);
        });
        FULL.badState("many calls of a full object", x -> {
            for (int round = 0; round < 4; round++) {
                refuse(x, y -> y.addTable(3));
                refuse(x, y -> y.insert(0, 5, 5, 5));
                refuse(x, y -> y.addReport(0));
                refuse(x, y -> y.addSource(7, 3));
                refuse(x, y -> y.addCondition(7, 0, 0, 0, 3));
                refuse(x, y -> y.addJoin(7, 0, 0, 1, 0));
            }
            x.addTable(3);
        });
    }

    /** 37000 / 36 are 1027, and 2000 * 157 / 251 are 1250: rounded to the nearest, both would take a minute more. */
    private static void divisionsAreRoundedDown() {
        Document.says("Terms", "All divisions are rounded down.");
        WharfQuery same = new WharfQuery();
        same.addReport(0);
        same.addSource(0, Stores.addTold(same, Stores.values(37, 36)));
        same.addSource(0, Stores.addTold(same, Stores.values(37, 37)));
        same.addCondition(0, 0, 0, WharfQuery.SAME, 1);
        Check.same("37000 + 37 * 1027 = 74999", same.foretold(0), 75);
        WharfQuery less = new WharfQuery();
        less.addReport(0);
        less.addSource(0, Stores.addTold(less, 0, 250));
        less.addSource(0, Stores.addTold(less, 1, 2, 3, 4));
        less.addCondition(0, 0, 0, WharfQuery.LESS, 157);
        Check.same("2000 + 4 * 1250 = 7000", less.foretold(0), 7);
    }
}
