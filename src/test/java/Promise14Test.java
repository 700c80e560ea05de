/** Promise 14: sort. */
public final class Promise14Test extends Promise {
    public static void main(String[] args) {
        begin(14);
        atFirst();
        copiesGiveTheirOperands();
        actsGiveNewOnesOrThoseFromBefore();
        digitsHaveTheirOwn();
        numberedAsTheyCome();
        aheadOfAPlace();
        theMost();
        noSuchPlace();
        noSuchRegister();
        end();
    }

    /** The sorts of a to d at the end. */
    private static void sorts(String code, int... want) {
        FewerSteps x = Due.with(code);
        for (int r = 0; r < 4; r++) {
            is("sort at the end of " + code + ", " + r, x.sort(x.told(0), r), want[r]);
        }
    }

    private static void atFirst() {
        sentence("SORT of a REGISTER: a number for what it holds: at first 0 to 3 in a to d");
        sorts("", 0, 1, 2, 3);
        for (int r = 0; r < 4; r++) {
            is("ahead of twelve steps", Due.with(TWELVE).sort(0, r), r);
        }
    }

    private static void copiesGiveTheirOperands() {
        sentence("a STEP with an OPERAND alone gives its TARGET that one's SORT");
        sorts("a=b", 1, 1, 2, 3);
        sorts("a=b;b=c;c=d;d=a", 1, 2, 3, 1);
        sorts("a=a", 0, 1, 2, 3);
        sorts("a=5;d=a", 4, 1, 2, 4);
    }

    private static void actsGiveNewOnesOrThoseFromBefore() {
        sentence("an ACT on two SORTS gives the next new SORT, or the one that it gave for that ACT and those two SORTS before "
                + "(of + * m either way round)");
        sorts("a=+bc;d=+bc", 4, 1, 2, 4);
        sorts("a=+bc;d=+cb", 4, 1, 2, 4);
        sorts("a=*bc;d=*cb", 4, 1, 2, 4);
        sorts("a=mbc;d=mcb", 4, 1, 2, 4);
        sorts("a=-bc;d=-cb", 4, 1, 2, 5);
        sorts("a=-bc;d=-bc", 4, 1, 2, 4);
        sorts("a=+bc;d=-bc", 4, 1, 2, 5);
        sorts("a=+bc;d=*bc", 4, 1, 2, 5);
        sorts("a=+bc;d=mbc", 4, 1, 2, 5);
        // the same names, but other sorts
        sorts("a=+bc;d=+ac", 4, 1, 2, 5);
        sorts("d=+ab;a=c;c=+ab", 2, 1, 5, 4);
        // other names, but the same sorts
        sorts("d=+ab;c=a;a=b;b=+ca", 1, 4, 0, 4);
        // it was given before, though no register holds it
        sorts("a=+bc;a=0;a=+cb", 4, 1, 2, 3);
        sorts("a=+aa;a=+aa", 5, 1, 2, 3);
        // what was given in another code does not count
        FewerSteps x = Due.with("a=+bc");
        x.sort(1, 0);
        Due.code(x, "a=5;d=+bc");
        is("the sort of an act that was given in the code before", x.sort(2, 3), 5);
    }

    private static void digitsHaveTheirOwn() {
        sentence("a digit has the next new SORT, or its own from before");
        sorts("a=3;b=3;c=4;d=3", 4, 4, 5, 4);
        sorts("a=3;a=0;b=3", 5, 4, 2, 3);
        sorts("a=+b3;c=3", 5, 1, 4, 3);
        sorts("a=0;b=7;c=0;d=7", 4, 5, 4, 5);
        sorts("a=2;b=+11", 4, 6, 2, 3);
    }

    private static void numberedAsTheyCome() {
        sentence("(SORTS are numbered as they come: of a STEP its first OPERAND, its second one, what it makes)");
        sorts("a=-12;b=1;c=2", 6, 4, 5, 3);
        sorts("a=-21;b=1;c=2", 6, 5, 4, 3);
        sorts("a=-11;b=1", 5, 4, 2, 3);
    }

    private static void aheadOfAPlace() {
        sentence("The SORT of a REGISTER ahead of a place.");
        FewerSteps x = Due.with("a=+2b;b=*a3;c=2;d=+bc;d=*3a;a=-da;b=-ad");
        // 2 is 4, 2+b 5, 3 is 6, 5*6 7, c 4, 7+4 8, d 7, 7-5 9, 9-7 10
        int[][] at = {{0, 1, 2, 3}, {5, 1, 2, 3}, {5, 7, 2, 3}, {5, 7, 4, 3}, {5, 7, 4, 8}, {5, 7, 4, 7}, {9, 7, 4, 7}, {9, 10, 4, 7}};
        for (int place = 0; place < at.length; place++) {
            for (int r = 0; r < 4; r++) {
                is("sort(" + place + ", " + r + ")", x.sort(place, r), at[place][r]);
            }
        }
    }

    /** Eight digits and twelve acts, each a sort of its own, and the last act found again. */
    private static void theMost() {
        sentence("(SORTS are numbered as they come: of a STEP its first OPERAND, its second one, what it makes)");
        sorts("a=-01;b=-23;c=-45;d=-67;a=-ab;b=-bc;c=-cd;d=-da;a=-ab;b=-bc;c=-cd;d=-da", 20, 21, 22, 23);
        sorts("a=-01;b=-23;c=-45;d=-67;a=-ab;b=-bc;c=-cd;d=-da;a=-ab;b=-bc;c=-cd;d=-bb", 20, 21, 22, 23);
        sorts("a=-01;b=-23;c=-45;d=-67;a=-ab;b=-bc;c=-cd;d=-da;d=-ab;c=-ab;b=-67;a=-01", 6, 15, 20, 20);
    }

    private static void noSuchPlace() {
        sentence("UNKNOWN.");
        refusedBeyond(FewerSteps::new, "sort in an empty code", 0, 0, (x, place) -> x.sort(place, 0), UNKNOWN);
        refusedBeyond(() -> Due.with("a=1;b=2"), "sort in two", 0, 2, (x, place) -> x.sort(place, 3), UNKNOWN);
        refusedBeyond(() -> Due.with(TWELVE), "sort in twelve", 0, 12, (x, place) -> x.sort(place, 0), UNKNOWN);
    }

    private static void noSuchRegister() {
        sentence("UNKNOWN.");
        refusedBeyond(() -> Due.with("a=1;b=2"), "sort of a register", 0, 3, (x, r) -> x.sort(1, r), UNKNOWN);
        refusedBeyond(() -> Due.with(TWELVE), "sort of a register at the end", 0, 3, (x, r) -> x.sort(12, r), UNKNOWN);
        is("neither is there", Due.with("a=1").sort(2, 4), UNKNOWN);
    }
}
