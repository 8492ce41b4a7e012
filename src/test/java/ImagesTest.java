/** Promises 22 to 24: keep, back, count. */
public final class ImagesTest {
    private static final Check CHECK = new Check("ImagesTest");

    public static void main(String[] args) {
        keeping();
        goingBack();
        nothingElseIsKept();
        noHouses();
        counting();
        CHECK.finish();
    }

    private static void keeping() {
        YearLines x = Check.told("qa1;q;q;");
        for (int image : new int[] {-1, 2, Integer.MAX_VALUE, Integer.MIN_VALUE}) {
            CHECK.due("keep(" + image + ")", x.keep(image), YearLines.BAD);
            CHECK.due("back(" + image + ")", x.back(image), YearLines.BAD);
        }
        CHECK.due("back(0), none", x.back(0), YearLines.STATE);
        CHECK.due("back(1), none", x.back(1), YearLines.STATE);
        CHECK.due("keep(1)", x.keep(1), 3);
        CHECK.due("back(0), still none", x.back(0), YearLines.STATE);
        CHECK.due("back(1)", x.back(1), 3);
        CHECK.due("keep(0)", x.keep(0), 3);
        CHECK.due("back(0)", x.back(0), 3);
    }

    private static void goingBack() {
        YearLines x = Check.told("s1;qa5b9;qb3;");
        x.keep(0);
        x.strikes(0, 1);
        x.tells(1, 0, 44);
        x.slacks(8);
        x.keep(1);
        CHECK.due("back(0)", x.back(0), 2);
        state(x, 0, 3, 1);
        CHECK.due("back(1)", x.back(1), 2);
        state(x, 1, 44, 8);
        x.tells(1, 0, 45);
        CHECK.due("back(1) again", x.back(1), 2);
        state(x, 1, 44, 8);
        x.back(0);
        x.keep(1);
        x.slacks(2);
        x.back(1);
        state(x, 0, 3, 1);
    }

    private static void state(YearLines x, int struck, int year, int slack) {
        CHECK.due("struck", x.entry(0, 1, 2), struck);
        CHECK.due("year", x.entry(1, 0, 1), year);
        CHECK.due("slack", x.count(4), slack);
    }

    private static void nothingElseIsKept() {
        YearLines x = Check.told("qa5b9;");
        x.sees(1);
        x.strikes(0, 0);
        CHECK.due("keep", x.keep(0), 1);
        CHECK.due("keep leaves what may be undone", x.count(7), 1);
        x.slacks(1);
        x.sees(2);
        Check.type(x, "qq");
        x.back(0);
        CHECK.due("nothing can be undone", x.count(7), 0);
        CHECK.due("undo", x.undo(), YearLines.STATE);
        CHECK.due("seen stays", x.count(5), 2);
        CHECK.due("text stays", x.count(6), 2);
        x.slacks(5);
        x.back(1);
        CHECK.due("a refused back changes nothing", x.undo(), 0);
    }

    private static void noHouses() {
        YearLines x = new YearLines();
        CHECK.due("keep", x.keep(0), 0);
        x.slacks(4);
        CHECK.due("back", x.back(0), 0);
        CHECK.due("slack", x.count(4), 0);
    }

    private static void counting() {
        YearLines x = Check.told("s6;qa1b2c3;qb1a2d3;");
        x.strikes(1, 2);
        x.strikes(0, 2);
        x.strikes(0, 2);
        x.sees(2);
        x.sees(2);
        Check.type(x, "q;  ");
        int[] due = {2, 5, 3, 2, 6, 2, 4, 3};
        for (int what = 0; what < due.length; what++) {
            CHECK.due("count(" + what + ")", x.count(what), due[what]);
        }
        YearLines full = Check.told("qa1b2c3d4e5f6;qa1b2c3d4e5f6;qa1b2c3d4e5f6;qh1g2f3e4d5c6;");
        int[] dueFull = {4, 24, 8, 4, 0, 0, 0, 0};
        for (int what = 0; what < dueFull.length; what++) {
            CHECK.due("count(" + what + "), four full houses", full.count(what), dueFull[what]);
        }
        for (int what : new int[] {-1, 8, Integer.MAX_VALUE, Integer.MIN_VALUE}) {
            CHECK.due("count(" + what + ")", x.count(what), YearLines.BAD);
        }
    }
}
