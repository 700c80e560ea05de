/** Promise 18: orders. */
public final class Promise18Test extends Promise {
    public static void main(String[] args) {
        begin(18);
        eachBehindThoseItMust();
        fewAndMany();
        end();
    }

    private static void orders(String code, int want) {
        is("orders() of " + code, Due.with(code).orders(), want);
    }

    private static void eachBehindThoseItMust() {
        sentence("ORDERS: rows of all STEPS such that each stands behind those it must.");
        orders("a=1;b=a", 1);
        orders("b=a;a=1", 1);
        orders("a=1;a=2", 1);
        orders("a=1;a=2;a=3", 1);
        orders("b=a;c=a;a=1", 2);
        orders("a=1;b=a;c=2;d=c", 6);
        orders("a=b;c=b", 2);
        orders("c=+ab;d=*ca;c=-bd;a=+cd;b=7", 2);
        FewerSteps x = Due.with("a=1;b=2;c=3", 1);
        x.set(0, 3);
        is("units and wanted ones do not matter", x.orders(), 6);
    }

    private static void fewAndMany() {
        sentence("How many ORDERS.");
        orders("", 1);
        orders("a=a", 1);
        orders("a=1;b=2;c=3;d=4", 24);
        orders(TWELVE, 1);
        orders("a=1;a=1;a=1;b=1;b=1;b=1;c=1;c=1;c=1;d=1;d=1;d=1", 369600);
        FewerSteps x = Due.with("a=1;a=1;a=1;b=1;b=1;b=1;c=1;c=1;c=1;d=1;d=1;d=1");
        is("many", x.orders(), 369600);
        is("many once more", x.orders(), 369600);
        Due.code(x, "a=1;b=2");
        is("two behind many", x.orders(), 2);
        Due.code(x, "");
        is("one behind many", x.orders(), 1);
    }
}
