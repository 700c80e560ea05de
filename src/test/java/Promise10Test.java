/** Promise 10: unlike. */
public final class Promise10Test extends Promise {
    public static void main(String[] args) {
        begin(10);
        firstRow();
        lastRow();
        inAWantedRegister();
        otherIsEmptyAtFirst();
        sameForAllRows();
        end();
    }

    /** What unlike() answers of a code, another one, and the wanted registers. */
    private static void unlike(String code, String other, int wanted, int want) {
        FewerSteps x = Due.with(other, wanted);
        x.keep();
        Due.code(x, code);
        is(code + " and " + other + " wanted " + wanted, x.unlike(), want);
        FewerSteps y = Due.with(code, wanted);
        y.keep();
        Due.code(y, other);
        is(other + " and " + code + " wanted " + wanted, y.unlike(), want);
    }

    private static void firstRow() {
        sentence("The first ROW for which THE CODE and THE OTHER one (empty at first) are unlike in a WANTED REGISTER; NONE.");
        unlike("a=1", "a=0", 15, 0);
        unlike("a=+bb", "", 15, 64);
        unlike("a=b", "", 15, 64);
        unlike("a=0", "", 15, 512);
        unlike("d=0", "", 15, 1);
        unlike("c=0", "", 15, 8);
        unlike("b=0", "", 15, 64);
        unlike("d=md6", "", 15, 7);
        unlike("c=mc6", "", 15, 56);
        unlike("b=mb6", "", 15, 448);
        unlike("a=ma6", "", 15, 3584);
        unlike("d=md3;a=ma1", "", 15, 4);
        // c and d are 7 there alone: row 63; b and c: row 504
        unlike("a=mcd;b=ma6;a=-ab", "a=0", 1, 63);
        unlike("a=mbc;b=ma6;a=-ab", "a=0", 1, 504);
    }

    private static void lastRow() {
        sentence("The first ROW for which THE CODE and THE OTHER one (empty at first) are unlike in a WANTED REGISTER; NONE.");
        unlike("a=mab;a=mac;a=mad;b=ma6;a=-ab", "a=0", 1, 4095);
    }

    private static void inAWantedRegister() {
        sentence("The first ROW for which THE CODE and THE OTHER one (empty at first) are unlike in a WANTED REGISTER; NONE.");
        String code = "a=+a1;b=mb6;c=0;d=*dd";
        int[] alone = {0, 448, 8, 2};
        for (int set = 1; set <= 15; set++) {
            int first = 5000;
            for (int r = 0; r < 4; r++) {
                first = (set >> r & 1) == 1 ? Math.min(first, alone[r]) : first;
            }
            unlike(code, "", set, first);
        }
        unlike("d=md6", "", 7, NONE);
        unlike("d=md6", "", 8, 7);
    }

    private static void otherIsEmptyAtFirst() {
        sentence("THE OTHER one (empty at first)");
        is("both empty", new FewerSteps().unlike(), NONE);
        is("a code that does nothing", Due.with("a=a;b=+b0").unlike(), NONE);
        is("one that does something", Due.with("b=1").unlike(), 0);
    }

    private static void sameForAllRows() {
        sentence("The first ROW for which THE CODE and THE OTHER one (empty at first) are unlike in a WANTED REGISTER; NONE.");
        unlike("a=+bb", "a=*b2", 15, NONE);
        unlike("a=-bb", "a=0", 15, NONE);
        unlike("a=mbb", "a=b", 15, NONE);
        unlike("a=+a4;a=+a4", "", 15, NONE);
        unlike("a=*a3;a=*a3", "", 15, NONE);
        unlike("a=+ab;b=-ab;a=-ab", "c=a;a=b;b=c", 3, NONE);
        unlike("a=1;b=*a0", "b=7;a=*bb;b=0", 15, NONE);
    }
}
