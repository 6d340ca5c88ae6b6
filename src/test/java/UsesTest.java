/** Promises 9 uses, 10 use and 11 change. */
public final class UsesTest {
    public static void main(String[] args) {
        everyPlace();
        edges();
        refused();
        switchCents();
        Check.finish();
    }

    /** Each place has a number of its own, so that no two of them can be one. */
    private static void everyPlace() {
        TariffDesk desk = new TariffDesk();
        for (int house = 0; house < 4; house++) {
            for (int service = 0; service < 4; service++) {
                int[] units = new int[24];
                for (int month = 0; month < 24; month++) {
                    units[month] = number(house, service, month);
                }
                Check.due("uses", Check.uses(desk, house, service, 0, units), 24);
                Check.due("tape", desk.count(2), 0);
            }
        }
        for (int house = 0; house < 4; house++) {
            for (int service = 0; service < 4; service++) {
                for (int month = 0; month < 24; month++) {
                    Check.due("use(" + house + ", " + service + ", " + month + ")",
                            desk.use(house, service, month), number(house, service, month));
                }
            }
        }
        int[][] wrong = {{-1, 0, 0}, {4, 0, 0}, {0, -1, 0}, {0, 4, 0}, {0, 0, -1}, {0, 0, 24},
            {Integer.MAX_VALUE, 0, 0}, {0, Integer.MIN_VALUE, 0}, {0, 0, Integer.MAX_VALUE},
            {Integer.MIN_VALUE, Integer.MIN_VALUE, Integer.MIN_VALUE}, {1 << 30, 1 << 30, 1 << 30}};
        for (int[] place : wrong) {
            Check.due("use of no such ones", desk.use(place[0], place[1], place[2]), -1);
        }
    }

    private static int number(int house, int service, int month) {
        return 17000 + house * 500 + service * 100 + month;
    }

    private static void edges() {
        TariffDesk desk = new TariffDesk();
        Check.due("none", desk.uses(0, 0, 0), 0);
        Check.due("none at the last MONTH", desk.uses(3, 3, 23), 0);
        Check.due("none at no MONTH", desk.uses(3, 3, 24), -1);
        Check.due("greatest", Check.uses(desk, 3, 3, 23, 20000), 1);
        Check.due("greatest", desk.use(3, 3, 23), 20000);
        Check.due("up to the last MONTH", Check.uses(desk, 3, 3, 21, 1, 2, 3), 3);
        Check.due("MONTH 20", desk.use(3, 3, 20), 0);
        Check.due("MONTH 21", desk.use(3, 3, 21), 1);
        Check.due("MONTH 23", desk.use(3, 3, 23), 3);
        Check.due("put again", Check.uses(desk, 3, 3, 22, 0), 1);
        Check.due("MONTH 22", desk.use(3, 3, 22), 0);
        Check.due("MONTH 23", desk.use(3, 3, 23), 3);
    }

    private static void dueRefused(int house, int service, int month, int... units) {
        TariffDesk desk = new TariffDesk();
        for (int h = 0; h < 4; h++) {
            for (int s = 0; s < 4; s++) {
                Check.uses(desk, h, s, 0, 5, 5, 5, 5, 5, 5, 5, 5, 5, 5, 5, 5, 5, 5, 5, 5, 5, 5, 5, 5, 5, 5, 5, 5);
            }
        }
        Check.due("refused uses", Check.uses(desk, house, service, month, units), -1);
        Check.due("tape", desk.count(2), 0);
        for (int h = 0; h < 4; h++) {
            for (int s = 0; s < 4; s++) {
                for (int m = 0; m < 24; m += m < 3 || m > 19 ? 1 : 4) {
                    Check.due("none comes", desk.use(h, s, m), 5);
                }
            }
        }
    }

    private static void refused() {
        dueRefused(-1, 0, 0, 1);
        dueRefused(4, 0, 0, 1);
        dueRefused(0, -1, 0, 1);
        dueRefused(0, 4, 0, 1);
        dueRefused(0, 0, -1, 1);
        dueRefused(0, 0, 24, 1);
        dueRefused(0, 0, -1);
        dueRefused(0, 0, Integer.MIN_VALUE, 1);
        dueRefused(0, 0, Integer.MAX_VALUE, 1);
        dueRefused(1, 1, 23, 1, 2);
        dueRefused(1, 1, 0, new int[25]);
        dueRefused(1, 1, 0, new int[420]);
        dueRefused(1, 1, 0, 1, 2, 20001);
        dueRefused(1, 1, 0, 20001, 1);
        dueRefused(1, 1, 0, 65535);
        dueRefused(1, 1, 0, 32768);
        TariffDesk desk = new TariffDesk();
        Check.feed(desk, "abc");
        Check.due("odd", desk.uses(0, 0, 0), -1);
        Check.due("tape", desk.count(2), 0);
        Check.due("none comes", desk.use(0, 0, 0), 0);
        Check.feed(desk, "a");
        Check.due("one byte", desk.uses(0, 0, 0), -1);
    }

    private static void switchCents() {
        TariffDesk desk = new TariffDesk();
        Check.due("change(100000)", desk.change(100000), true);
        Check.due("count(1)", desk.count(1), 100000);
        Check.due("change(100001)", desk.change(100001), false);
        Check.due("change(-1)", desk.change(-1), false);
        Check.due("change(greatest int)", desk.change(Integer.MAX_VALUE), false);
        Check.due("change(least int)", desk.change(Integer.MIN_VALUE), false);
        Check.due("count(1)", desk.count(1), 100000);
        Check.due("change(0)", desk.change(0), true);
        Check.due("count(1)", desk.count(1), 0);
    }
}
