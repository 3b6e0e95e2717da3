/** Promises 24 to 28: looks and orders. */
public final class OrdersTest {
    private static final Check c = new Check();

    public static void main(String[] args) {
        look();
        clear();
        orders();
        ordersOfUnlikeRows();
        order();
        orderOfSix();
        apart();
        c.end();
    }

    private static void look() {
        SlantSheets x = new SlantSheets();
        int[][] wrong = {{-1, 0}, {12, 0}, {0, -1}, {0, 1001}};
        for (int[] w : wrong) {
            c.due("look wrong", x.look(w[0], w[1]), Check.BEYOND);
        }
        c.due("look(0, 0)", x.look(0, 0), 1);
        c.due("look(11, 1000)", x.look(11, 1000), 2);
        c.due("look(11, 1000)", x.look(11, 1000), 3);
        c.due("look(5, 500)", x.look(5, 500), 4);
        c.due("5th look", x.look(0, 0), Check.FULL);
        c.due("5th look, wrong", x.look(12, 0), Check.BEYOND);
        c.due("count(2)", x.count(2), 4);
    }

    private static void clear() {
        SlantSheets x = new SlantSheets();
        x.look(0, 1);
        x.look(0, 2);
        c.due("orders, looks that fit none", x.orders(0), 0);
        c.due("clear()", x.clear(), 2);
        c.due("clear()", x.clear(), 0);
        c.due("count(2)", x.count(2), 0);
        c.due("orders, no looks", x.orders(0), 1);
        c.due("look(0, 500)", x.look(0, 500), 1);
        c.due("orders", x.orders(0), 1);
    }

    /** A filter and a turner by 3: mixed light comes out with slant 3 (in this order) or 0. */
    private static SlantSheets filterAndTurner() {
        SlantSheets x = new SlantSheets();
        x.sheet(Check.FILTER, 0, 0);
        x.sheet(Check.TURNER, 3, 0);
        return x;
    }

    private static void orders() {
        SlantSheets x = filterAndTurner();
        Check.lay(x, 0, 0, 1);
        c.due("orders of two", x.orders(0), 2);
        x.look(0, 500);
        c.due("orders that fit (0, 500)", x.orders(0), 1);
        x.look(3, 250);
        c.due("orders that fit (3, 250) too", x.orders(0), 1);
        x.look(6, 500);
        c.due("orders that fit (6, 500) too", x.orders(0), 0);
        x.clear();
        x.lamp(1, 9);
        x.look(0, 1000);
        c.due("orders with a slant", x.orders(0), 1);
        c.due("orders(4)", x.orders(4), Check.BEYOND);
        c.due("orders(-1)", x.orders(-1), Check.BEYOND);
    }

    private static void ordersOfUnlikeRows() {
        SlantSheets x = new SlantSheets();
        for (int i = 0; i < 6; i++) {
            x.sheet(0, 0, 0);
        }
        Check.lay(x, 0, 1, 0, 0);
        c.due("orders 1 0 0", x.orders(0), 3);
        Check.lay(x, 0, 2, 1, 0);
        c.due("orders 1 0 0 2 1 0", x.orders(0), 60);
        Check.lay(x, 1, 3, 3, 3, 3, 3, 3);
        c.due("orders of six times one", x.orders(1), 1);
        Check.lay(x, 2, 5, 1, 4, 0, 3, 2);
        c.due("orders of six", x.orders(2), 720);
        c.due("orders of none", x.orders(3), 1);
        c.due("stacks stay", Check.stack(x, 2), Check.row(5, 1, 4, 0, 3, 2));
    }

    private static void order() {
        SlantSheets x = filterAndTurner();
        c.due("order of none", x.order(3), 1);
        Check.lay(x, 0, 1, 1, 0, 0);
        c.due("order, no looks", x.order(0), 1);
        c.due("the first", Check.stack(x, 0), Check.row(0, 0, 1, 1));
        x.look(0, 500);
        c.due("order that fits", x.order(0), 1);
        c.due("both turners first", Check.stack(x, 0), Check.row(1, 1, 0, 0));
        x.look(0, 499);
        c.due("no order fits", x.order(0), Check.NONE);
        c.due("it stays", Check.stack(x, 0), Check.row(1, 1, 0, 0));
        x.clear();
        x.look(6, 0);
        c.due("order, three fit", x.order(0), 1);
        c.due("the first of three", Check.stack(x, 0), Check.row(0, 1, 1, 0));
        c.due("order(4)", x.order(4), Check.BEYOND);
        c.due("order(-1)", x.order(-1), Check.BEYOND);
    }

    private static void orderOfSix() {
        SlantSheets x = new SlantSheets();
        for (int i = 0; i < 6; i++) {
            x.sheet(0, 0, 0);
        }
        Check.lay(x, 1, 5, 3, 1, 0, 2, 4);
        c.due("order of six", x.order(1), 1);
        c.due("by numbers", Check.stack(x, 1), Check.row(0, 1, 2, 3, 4, 5));
        x.change(5, 0, Check.FILTER);
        x.change(0, 0, Check.TURNER);
        x.change(0, 1, 3);
        x.look(0, 500);
        c.due("the turner ahead of the filter", x.order(1), 1);
        c.due("that is so already", Check.stack(x, 1), Check.row(0, 1, 2, 3, 4, 5));
        x.clear();
        x.look(3, 500);
        c.due("the filter ahead of the turner", x.order(1), 1);
        c.due("as late as can be", Check.stack(x, 1), Check.row(1, 2, 3, 4, 5, 0));
    }

    private static void apart() {
        SlantSheets x = new SlantSheets();
        x.sheet(Check.FILTER, 11, 0);
        x.sheet(Check.TURNER, 2, 0);
        c.due("apart, no sheets", x.apart(0), 0);
        Check.lay(x, 0, 0, 1);
        c.due("apart: 0 sees both alike", x.apart(0), 1);
        x.look(0, 3);
        c.due("apart asks for no looks", x.apart(0), 1);
        x.change(0, 1, 0);
        c.due("apart: 0 sees both", x.apart(0), 0);
        Check.lay(x, 1, 1, 1, 1);
        c.due("apart: one order", x.apart(1), 0);
        x.change(0, 1, 11);
        x.change(1, 1, 1);
        Check.lay(x, 2, 0, 1, 1, 1, 1);
        c.due("apart: slants 3, 2, 1, 0, 11", x.apart(2), 3);
        c.due("the stack stays", Check.stack(x, 2), Check.row(0, 1, 1, 1, 1));
        c.due("apart(4)", x.apart(4), Check.BEYOND);
        c.due("apart(-1)", x.apart(-1), Check.BEYOND);
    }
}
