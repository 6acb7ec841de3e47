/** Promises 16 to 23: the day, the stock, and what can be built from it. */
public final class StockTest {
    private StockTest() { }

    public static void main(String[] args) {
        promises16To18DayStockReserved();
        promises19And20Arrivals();
        promises21And22Buildable();
        promise23BuildableTogether();
        Check.end();
    }

    private static void promises16To18DayStockReserved() {
        OrderAssembler x = Check.loaded(Check.FURNITURE);
        Check.due("day()", x.day(), 0);
        x.advance(7);
        x.advance(1);
        Check.due("day() after 7 and 1 days", x.day(), 8);
        Check.due("stock(TOP)", x.stock(Check.TOP), 9);
        Check.due("reserved at first", x.reserved(Check.LEG), 0);
        x.reserve(0, 2);
        Check.due("reserved(LEG)", x.reserved(Check.LEG), 8);
        Check.due("reserved(TOP)", x.reserved(Check.TOP), 2);
        Check.due("reserved(BOLT)", x.reserved(Check.BOLT), 16);
        Check.due("stock(LEG) stays", x.stock(Check.LEG), 40);
        Check.outside("stock(3)", () -> x.stock(3));
        Check.outside("stock(-1)", () -> x.stock(-1));
        Check.outside("reserved(3)", () -> x.reserved(3));
        Check.outside("reserved(-1)", () -> x.reserved(-1));
    }

    private static void promises19And20Arrivals() {
        OrderAssembler x = Check.loaded(Check.FURNITURE);
        Check.due("arriving at first", x.arriving(Check.LEG), 0);
        Check.due("nextArrival at first", x.nextArrival(Check.LEG), OrderAssembler.NONE);
        x.buy(Check.LEG, 10);
        x.advance(2);
        x.buy(Check.LEG, 30);
        x.buy(Check.TOP, 5);
        Check.due("arriving(LEG)", x.arriving(Check.LEG), 40);
        Check.due("nextArrival(LEG)", x.nextArrival(Check.LEG), 5);
        Check.due("nextArrival(TOP)", x.nextArrival(Check.TOP), 10);
        Check.due("nextArrival(BOLT)", x.nextArrival(Check.BOLT), OrderAssembler.NONE);
        x.advance(3);
        Check.due("arriving(LEG) after the first came", x.arriving(Check.LEG), 30);
        Check.due("nextArrival(LEG) after the first came", x.nextArrival(Check.LEG), 7);
        Check.outside("arriving(3)", () -> x.arriving(3));
        Check.outside("nextArrival(-1)", () -> x.nextArrival(-1));
    }

    private static void promises21And22Buildable() {
        OrderAssembler x = Check.loaded(Check.FURNITURE);
        x.adjust(Check.BOLT, 5);
        Check.due("bottleneck before anything else is asked", x.bottleneck(Check.TABLE), Check.BOLT);
        x.adjust(Check.BOLT, 100);
        Check.due("buildable(KIT)", x.buildable(Check.KIT), 20);
        Check.due("buildable(TABLE)", x.buildable(Check.TABLE), 9);
        Check.due("bottleneck(TABLE)", x.bottleneck(Check.TABLE), Check.TOP);
        Check.due("bottleneck(KIT)", x.bottleneck(Check.KIT), Check.LEG);
        x.reserve(1, 5);
        Check.due("buildable(TABLE) from the free legs", x.buildable(Check.TABLE), 6);
        Check.due("bottleneck(TABLE) of the free legs", x.bottleneck(Check.TABLE), Check.LEG);
        x.adjust(Check.BOLT, 58);
        Check.due("bottleneck of equal ones", x.bottleneck(Check.TABLE), Check.LEG);
        x.adjust(Check.LEG, 15);
        Check.due("buildable of nothing", x.buildable(Check.TABLE), 0);
        Check.outside("buildable(3)", () -> x.buildable(3));
        Check.outside("bottleneck(3)", () -> x.bottleneck(3));
        Check.outside("bottleneck(-1)", () -> x.bottleneck(-1));
    }

    private static void promise23BuildableTogether() {
        OrderAssembler x = Check.loaded(Check.FURNITURE);
        Check.due("buildableTogether(TABLE, STOOL)", x.buildableTogether(Check.TABLE, Check.STOOL), 13);
        Check.due("buildableTogether(STOOL, TABLE)", x.buildableTogether(Check.STOOL, Check.TABLE), 13);
        Check.badArgument("buildableTogether of the same", () -> x.buildableTogether(1, 1));
        Check.outside("buildableTogether(3, 3)", () -> x.buildableTogether(3, 3));
        Check.outside("buildableTogether(0, 3)", () -> x.buildableTogether(0, 3));
        Check.outside("buildableTogether(3, 0)", () -> x.buildableTogether(3, 0));
        // The best mix is neither all of one nor all of the other: 5 and 5.
        OrderAssembler y = Check.loaded("part a 15 1;part b 15 1;product p 2 a 1 b;product q 1 a 2 b;");
        Check.due("buildableTogether of a mix", y.buildableTogether(0, 1), 10);
        OrderAssembler z = Check.loaded("part a 9999 1;part b 9998 1;part c 5000 1;"
            + "product p 7 a 3 b;product q 2 a 5 b 1 c;product r 1 c;");
        Check.due("buildableTogether of a great mix", z.buildableTogether(0, 1), best(9999, 9998, 7, 3, 2, 5));
        Check.due("buildableTogether without common parts", z.buildableTogether(0, 2), 1428 + 5000);
        allSmallMixes();
    }

    private static int best(int a, int b, int pa, int pb, int qa, int qb) {
        int best = 0;
        for (int units = 0; units * pa <= a && units * pb <= b; units++) {
            best = Math.max(best, units + Math.min((a - units * pa) / qa, (b - units * pb) / qb));
        }
        return best;
    }

    /** Rounding makes plateaus on which a search by rounded sums would lose its way. */
    private static void allSmallMixes() {
        for (int pa = 1; pa <= 20; pa += 3) {
            for (int pb = 1; pb <= 20; pb += 2) {
                for (int qa = 2; qa <= 20; qa += 3) {
                    for (int qb = 1; qb <= 20; qb += 3) {
                        String bills = "product p " + pa + " a " + pb + " b;product q " + qa + " a " + qb + " b;";
                        OrderAssembler x = Check.loaded("part a 97 1;part b 83 1;" + bills);
                        Check.due(bills, x.buildableTogether(0, 1), best(97, 83, pa, pb, qa, qb));
                    }
                }
            }
        }
    }
}
