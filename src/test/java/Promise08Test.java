/** Promise 8: run. */
public final class Promise08Test extends Promise {
    public static void main(String[] args) {
        begin(8);
        behindSoManySteps();
        rowsInEights();
        leftOverBy8();
        oneAfterAnother();
        refusesRows();
        refusesSteps();
        end();
    }

    private static int row(int a, int b, int c, int d) {
        return 512 * a + 64 * b + 8 * c + d;
    }

    private static void behindSoManySteps() {
        sentence("The ROW behind so many STEPS from a ROW on.");
        FewerSteps x = Due.with("a=+bc;b=-a7;c=*cc;d=mdb");
        is("none", x.run(row(2, 3, 5, 6), 0), row(2, 3, 5, 6));
        is("one", x.run(row(2, 3, 5, 6), 1), row(0, 3, 5, 6));
        is("two", x.run(row(2, 3, 5, 6), 2), row(0, 1, 5, 6));
        is("three", x.run(row(2, 3, 5, 6), 3), row(0, 1, 1, 6));
        is("all four", x.run(row(2, 3, 5, 6), 4), row(0, 1, 1, 1));
        is("from the same row again", x.run(row(2, 3, 5, 6), 0), row(2, 3, 5, 6));
        is("an empty code", new FewerSteps().run(77, 0), 77);
        is("twelve steps", Due.with("a=+a1;".repeat(11) + "a=+a1").run(0, 12), row(4, 0, 0, 0));
    }

    private static void rowsInEights() {
        sentence("A ROW is what is in the REGISTERS: a number 0 to 4095 in eights, a's digit first.");
        is("a to d", Due.with("a=1;b=2;c=3;d=4").run(0, 4), row(1, 2, 3, 4));
        is("d to a", Due.with("a=d").run(row(0, 0, 0, 5), 1), row(5, 0, 0, 5));
        is("c to b", Due.with("b=c").run(row(1, 2, 3, 4), 1), row(1, 3, 3, 4));
        for (int row = 0; row < 4096; row += 7) {
            is("a row that stays", new FewerSteps().run(row, 0), row);
        }
        is("the first row", Due.with("a=a").run(0, 1), 0);
        is("the last row", Due.with("a=a").run(4095, 1), 4095);
    }

    private static void leftOverBy8() {
        sentence("All numbers in registers are left over by 8 (0 to 7).");
        for (int x = 0; x < 8; x++) {
            for (int y = 0; y < 8; y++) {
                int from = row(3, x, y, 6);
                is(x + " and " + y, Due.with("a=+bc").run(from, 1), row((x + y) % 8, x, y, 6));
                is(x + " less " + y, Due.with("a=-bc").run(from, 1), row((x - y + 8) % 8, x, y, 6));
                is(x + " times " + y, Due.with("a=*bc").run(from, 1), row(x * y % 8, x, y, 6));
                is("the lesser of " + x + " and " + y, Due.with("a=mbc").run(from, 1), row(Math.min(x, y), x, y, 6));
                String digits = "" + x + y;
                is("digits less", Due.with("d=-" + digits).run(0, 1), (x - y + 8) % 8);
            }
        }
    }

    private static void oneAfterAnother() {
        sentence("STEPS are done one after another.");
        is("a goes on", Due.with("a=b;b=a").run(row(1, 2, 3, 4), 2), row(2, 2, 3, 4));
        is("a is read as it was", Due.with("a=+aa;a=*aa").run(row(3, 0, 0, 0), 2), row(4, 0, 0, 0));
    }

    private static void refusesRows() {
        sentence("OUTSIDE: ROWS 0 to 4095; STEPS.");
        refusedBeyond(() -> Due.with("a=b;b=c"), "run from a row", 0, 4095, (x, row) -> x.run(row, 1), OUTSIDE);
        refusedBeyond(FewerSteps::new, "run of an empty code from a row", 0, 4095, (x, row) -> x.run(row, 0), OUTSIDE);
    }

    private static void refusesSteps() {
        sentence("OUTSIDE: ROWS 0 to 4095; STEPS.");
        refusedBeyond(() -> Due.with("a=b;b=c"), "run of so many", 0, 2, (x, steps) -> x.run(5, steps), OUTSIDE);
        refusedBeyond(() -> Due.with(TWELVE), "run of so many of twelve", 0, 12, (x, steps) -> x.run(5, steps), OUTSIDE);
        refusedBeyond(FewerSteps::new, "run of so many of none", 0, 0, (x, steps) -> x.run(5, steps), OUTSIDE);
        is("both are outside", Due.with("a=b").run(-1, 2), OUTSIDE);
    }
}
