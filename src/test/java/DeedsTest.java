/** Promises 6 to 9: strikes, tells, slacks, undo. */
public final class DeedsTest {
    private static final Check CHECK = new Check("DeedsTest");

    public static void main(String[] args) {
        striking();
        struckCountsNowhere();
        telling();
        tellingBesideStruck();
        slacking();
        undoing();
        tenAreKnown();
        refusedIsNotUndone();
        CHECK.finish();
    }

    private static void striking() {
        YearLines x = Check.told("qa5b9;qb3;q;");
        CHECK.due("strikes", x.strikes(0, 1), 1);
        CHECK.due("it is", x.entry(0, 1, 2), 1);
        CHECK.due("strikes again", x.strikes(0, 1), 0);
        CHECK.due("it is not", x.entry(0, 1, 2), 0);
        int[][] bad = {{-1, 0}, {3, 0}, {2, 0}, {0, 2}, {0, -1}, {1, 1}, {Integer.MIN_VALUE, 0}, {0, Integer.MAX_VALUE}};
        for (int[] b : bad) {
            CHECK.due("strikes(" + b[0] + ", " + b[1] + ")", x.strikes(b[0], b[1]), YearLines.BAD);
        }
        CHECK.due("two deeds", x.count(7), 2);
    }

    private static void struckCountsNowhere() {
        YearLines x = Check.told("qa1b2c3;qc1b2a3d9;");
        x.strikes(1, 2);
        CHECK.due("entries", x.count(1), 6);
        CHECK.due("houses of a", x.event(0, 0), 1);
        CHECK.due("a is ahead of", x.event(0, 1), Check.bits("bc"));
        CHECK.due("b is ahead of", x.event(1, 1), Check.bits("cd"));
        CHECK.due("knots", x.count(3), 2);
        CHECK.due("common", x.measure(1, 2), 2);
        CHECK.due("entries of 1", x.measure(1, 0), 3);
        CHECK.due("a only in 0", x.measure(0, 3), 1);
        CHECK.due("knots of 0", x.measure(0, 4), 2);
        x.strikes(1, 3);
        CHECK.due("events", x.count(2), 3);
        CHECK.due("d", x.date(3), YearLines.NO);
        x.strikes(0, 0);
        CHECK.due("a gone", x.date(0), YearLines.NO);
        x.strikes(0, 1);
        x.strikes(0, 2);
        CHECK.due("house 0 without entries: spans", x.measure(0, 2), 0);
        CHECK.due("house 0 without entries: agreed", x.shift(0, 1), 0);
        CHECK.due("still a house", x.count(0), 2);
    }

    private static void telling() {
        YearLines x = Check.told("qa5b9c9d20;q;");
        CHECK.due("tells, first", x.tells(0, 0, 0), 5);
        CHECK.due("its year", x.entry(0, 0, 1), 0);
        CHECK.due("tells, up to the one behind", x.tells(0, 0, 9), 0);
        CHECK.due("tells, above the one behind", x.tells(0, 0, 10), YearLines.STATE);
        CHECK.due("tells, the same", x.tells(0, 0, 9), YearLines.STATE);
        CHECK.due("tells, below the one ahead", x.tells(0, 1, 8), YearLines.STATE);
        CHECK.due("tells, last", x.tells(0, 3, 99), 20);
        CHECK.due("tells, last down to the one ahead", x.tells(0, 3, 9), 99);
        CHECK.due("tells, last below", x.tells(0, 3, 8), YearLines.STATE);
        int[][] bad = {{0, 0, -1}, {0, 0, 100}, {0, 4, 9}, {0, -1, 9}, {1, 0, 9}, {2, 0, 9}, {-1, 0, 9},
                {0, 0, Integer.MAX_VALUE}, {0, 0, Integer.MIN_VALUE}};
        for (int[] b : bad) {
            CHECK.due("tells(" + b[0] + ", " + b[1] + ", " + b[2] + ")", x.tells(b[0], b[1], b[2]), YearLines.BAD);
        }
        CHECK.due("four deeds", x.count(7), 4);
        CHECK.due("a is ahead of none", x.event(0, 1), 0);
    }

    private static void tellingBesideStruck() {
        YearLines x = Check.told("qa5b9c20;");
        x.strikes(0, 1);
        CHECK.due("above a struck one behind", x.tells(0, 0, 10), YearLines.STATE);
        CHECK.due("below a struck one ahead", x.tells(0, 2, 8), YearLines.STATE);
        CHECK.due("a struck one is told", x.tells(0, 1, 20), 9);
        CHECK.due("a struck one above", x.tells(0, 1, 21), YearLines.STATE);
        CHECK.due("a struck one below", x.tells(0, 1, 4), YearLines.STATE);
        CHECK.due("it stays struck", x.entry(0, 1, 2), 1);
    }

    private static void slacking() {
        YearLines x = Check.told("s4;");
        CHECK.due("slacks", x.slacks(0), 4);
        CHECK.due("slacks the same", x.slacks(0), YearLines.STATE);
        CHECK.due("slacks", x.slacks(9), 0);
        CHECK.due("slack", x.count(4), 9);
        for (int n : new int[] {-1, 10, Integer.MAX_VALUE, Integer.MIN_VALUE}) {
            CHECK.due("slacks(" + n + ")", x.slacks(n), YearLines.BAD);
        }
        CHECK.due("a new one's slack is 0", new YearLines().slacks(0), YearLines.STATE);
        CHECK.due("slack without houses", new YearLines().slacks(3), 0);
    }

    private static void undoing() {
        YearLines x = Check.told("s1;qa5b9;qb3;");
        CHECK.due("none", x.undo(), YearLines.STATE);
        x.strikes(1, 0);
        x.tells(0, 1, 7);
        x.slacks(6);
        x.tells(0, 1, 99);
        CHECK.due("may be undone", x.count(7), 4);
        CHECK.due("undo tells", x.undo(), 3);
        CHECK.due("year", x.entry(0, 1, 1), 7);
        CHECK.due("slack is as it was", x.count(4), 6);
        CHECK.due("undo slacks", x.undo(), 2);
        CHECK.due("slack", x.count(4), 1);
        CHECK.due("undo tells", x.undo(), 1);
        CHECK.due("year", x.entry(0, 1, 1), 9);
        CHECK.due("still struck", x.entry(1, 0, 2), 1);
        CHECK.due("undo strikes", x.undo(), 0);
        CHECK.due("not struck", x.entry(1, 0, 2), 0);
        CHECK.due("none more", x.undo(), YearLines.STATE);
        x.strikes(0, 0);
        x.strikes(0, 0);
        CHECK.due("undo the second", x.undo(), 1);
        CHECK.due("struck", x.entry(0, 0, 2), 1);
    }

    private static void tenAreKnown() {
        YearLines x = Check.told("qa0;");
        for (int year = 1; year <= 13; year++) {
            x.tells(0, 0, year);
            CHECK.due("may be undone", x.count(7), Math.min(year, 10));
        }
        for (int left = 9; left >= 0; left--) {
            CHECK.due("undo", x.undo(), left);
            CHECK.due("year", x.entry(0, 0, 1), 3 + left);
        }
        CHECK.due("older ones are lost", x.undo(), YearLines.STATE);
        CHECK.due("year", x.entry(0, 0, 1), 3);
        mixedBeyondTen();
    }

    private static void mixedBeyondTen() {
        YearLines x = Check.told("s2;qa0b50;qc7;");
        x.slacks(5);
        x.strikes(1, 0);
        for (int i = 0; i < 9; i++) {
            x.tells(0, 1, 60 + i);
        }
        for (int i = 0; i < 10; i++) {
            x.undo();
        }
        CHECK.due("the lost slacks stays", x.count(4), 5);
        CHECK.due("the tenth, a strike, is undone", x.entry(1, 0, 2), 0);
        CHECK.due("years", x.entry(0, 1, 1), 50);
        CHECK.due("no more", x.undo(), YearLines.STATE);
    }

    private static void refusedIsNotUndone() {
        YearLines x = Check.told("qa5b9;");
        x.tells(0, 0, 6);
        x.tells(0, 0, 6);
        x.tells(0, 0, 10);
        x.slacks(0);
        x.slacks(10);
        x.strikes(1, 0);
        CHECK.due("one may be undone", x.count(7), 1);
        CHECK.due("undo", x.undo(), 0);
        CHECK.due("year", x.entry(0, 0, 1), 5);
    }
}
