/** Every call of the face as a kind and its arguments, so that a run can be made and told again. */
final class Calls {
    enum Kind {
        HALL(2), CRANE(2), WELDER(2), DRAW(1), BLOCK(6), JOIN(3), ERECT(2), SCRAP(1), TEST(1), REPAIR(2),
        HOLE(2), PAINT(1), FIT(2), PIPE(2), LAUNCH(1),
        BLOCKS(0), WELDS(0), IS_AFLOAT(0), WHY_NOT(1), TOLD(2), WELD(2), CELL(2), ROOM_AT(2), TONS(0),
        TONS_ANEW(0), CENTRE(0), DRAUGHT(1), WATER(1), FIRST_HOUR(0), MONEY(0), MONEY_ANEW(0);

        final int arguments;

        Kind(int arguments) {
            this.arguments = arguments;
        }
    }

    private Calls() {
    }

    static long answer(Stowfinish yard, Kind kind, int[] a) {
        switch (kind) {
            case HALL: return yard.hall(a[0], a[1]);
            case CRANE: return yard.crane(a[0], a[1]);
            case WELDER: return yard.welder(a[0], a[1]);
            case DRAW: return yard.draw(a[0]);
            case BLOCK: return yard.block(a[0], a[1], a[2], a[3], a[4], a[5]);
            case JOIN: return yard.join(a[0], a[1], a[2]);
            case ERECT: return yard.erect(a[0], a[1]);
            case SCRAP: return yard.scrap(a[0]);
            case TEST: return yard.test(a[0]);
            case REPAIR: return yard.repair(a[0], a[1]);
            case HOLE: return yard.hole(a[0], a[1] != 0);
            case PAINT: return yard.paint(a[0]);
            case FIT: return yard.fit(a[0], a[1]);
            case PIPE: return yard.pipe(a[0], a[1]);
            case LAUNCH: return yard.launch(a[0]);
            case BLOCKS: return yard.blocks();
            case WELDS: return yard.welds();
            case IS_AFLOAT: return yard.isAfloat() ? 1 : 0;
            case WHY_NOT: return yard.whyNot(a[0]);
            case TOLD: return yard.told(a[0], a[1]);
            case WELD: return yard.weld(a[0], a[1]);
            case CELL: return yard.cell(a[0], a[1]);
            case ROOM_AT: return yard.roomAt(a[0], a[1]);
            case TONS: return yard.tons();
            case TONS_ANEW: return yard.tonsAnew();
            case CENTRE: return yard.centre();
            case DRAUGHT: return yard.draught(a[0] != 0);
            case WATER: return yard.water(a[0]);
            case FIRST_HOUR: return yard.firstHour();
            case MONEY: return yard.money();
            default: return yard.moneyAnew();
        }
    }
}
