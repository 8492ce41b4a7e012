/** Promises 19 to 21: sees, forget, unseen. */
public final class WhichEntryTest {
    private static final Check CHECK = new Check("WhichEntryTest");

    public static void main(String[] args) {
        seeing();
        nothingSeen();
        allThatWasSeen();
        asThingsAreNow();
        fourFullHouses();
        withoutHouses();
        CHECK.finish();
    }

    private static void seeing() {
        YearLines x = new YearLines();
        CHECK.due("sees(-1)", x.sees(-1), YearLines.BAD);
        CHECK.due("sees(9)", x.sees(9), YearLines.BAD);
        CHECK.due("sees(min)", x.sees(Integer.MIN_VALUE), YearLines.BAD);
        CHECK.due("sees(max)", x.sees(Integer.MAX_VALUE), YearLines.BAD);
        int[] seen = {0, 8, 3, 3, 1, 7};
        for (int i = 0; i < 6; i++) {
            CHECK.due("sees(" + seen[i] + ")", x.sees(seen[i]), i + 1);
        }
        CHECK.due("the seventh", x.sees(0), YearLines.FULL);
        CHECK.due("BAD comes ahead of FULL", x.sees(9), YearLines.BAD);
        CHECK.due("seen", x.count(5), 6);
        CHECK.due("forget", x.forget(), 6);
        CHECK.due("seen", x.count(5), 0);
        CHECK.due("forget again", x.forget(), 0);
        CHECK.due("sees behind forget", x.sees(4), 1);
        CHECK.due("unseen(-1)", x.unseen(-1), YearLines.BAD);
        CHECK.due("unseen(2)", x.unseen(2), YearLines.BAD);
        CHECK.due("unseen(max)", x.unseen(Integer.MAX_VALUE), YearLines.BAD);
    }

    private static void unseen(YearLines x, int size, int first) {
        CHECK.due("unseen(0)", x.unseen(0), size);
        CHECK.due("unseen(1)", x.unseen(1), first);
    }

    private static void nothingSeen() {
        YearLines x = Check.told("q;qa1b2;qc3;");
        unseen(x, 3, 10);
        x.strikes(1, 0);
        unseen(x, 2, 11);
        x.strikes(1, 1);
        unseen(x, 1, 20);
        x.strikes(2, 0);
        unseen(x, 0, YearLines.NONE);
    }

    private static void allThatWasSeen() {
        // Without b of one house, d or e there are still three knots; without a or c of one house two are left.
        YearLines x = Check.told("qa1b2c3;qc1b2a3;qd1e2;");
        CHECK.due("knots", x.count(3), 3);
        x.sees(3);
        unseen(x, 4, 1);
        x.sees(3);
        unseen(x, 4, 1);
        x.forget();
        x.sees(2);
        unseen(x, 4, 0);
        x.sees(3);
        unseen(x, 0, YearLines.NONE);
        x.forget();
        x.sees(0);
        unseen(x, 0, YearLines.NONE);
    }

    private static void asThingsAreNow() {
        YearLines x = Check.told("qa1b2;qb1a2c3;");
        x.sees(0);
        unseen(x, 4, 0);
        x.strikes(0, 0);
        unseen(x, 4, 1);
        x.undo();
        x.tells(1, 0, 2);
        unseen(x, 5, 0);
        x.keep(0);
        x.undo();
        unseen(x, 4, 0);
        x.back(0);
        unseen(x, 5, 0);
        CHECK.due("seen", x.count(5), 1);
        CHECK.due("nothing is struck", x.count(1), 5);
        x.forget();
        x.sees(2);
        unseen(x, 0, YearLines.NONE);
        x.tells(1, 0, 1);
        unseen(x, 1, 12);
    }

    private static void fourFullHouses() {
        YearLines x = Check.told("qa1b2c3d4e5f6;qa1b2c3d4e5f6;qa1b2c3d4e5f6;qh1g2b3a4d5c6;");
        unseen(x, 24, 0);
        CHECK.due("knots", x.count(3), 4);
        x.sees(2);
        unseen(x, 4, 32);
        x.forget();
        x.sees(4);
        unseen(x, 20, 0);
    }

    private static void withoutHouses() {
        YearLines x = new YearLines();
        x.sees(0);
        unseen(x, 0, YearLines.NONE);
    }
}
