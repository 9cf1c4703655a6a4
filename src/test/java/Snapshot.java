/** All that a yard answers, as one text; what it has been told is asked for and told again. */
final class Snapshot {
    private Snapshot() {
    }

    static String of(Stowfinish yard) {
        StringBuilder text = new StringBuilder();
        ofBlocks(yard, text);
        ofWelds(yard, text);
        ofCells(yard, text);
        ofPipes(yard, text);
        ofShip(yard, text);
        ofTold(yard, text);
        return text.toString();
    }

    private static void ofBlocks(Stowfinish yard, StringBuilder text) {
        for (int block = 0; block < yard.blocks(); block++) {
            text.append("block ").append(block).append(':');
            for (int what = 0; what <= 7; what++) {
                text.append(' ').append(yard.told(block, what));
            }
            text.append(" why ").append(yard.whyNot(block)).append('\n');
        }
    }

    private static void ofWelds(Stowfinish yard, StringBuilder text) {
        for (int weld = 0; weld < yard.welds(); weld++) {
            text.append("weld ").append(weld).append(':');
            for (int what = 0; what <= 3; what++) {
                text.append(' ').append(yard.weld(weld, what));
            }
            text.append('\n');
        }
    }

    private static void ofCells(Stowfinish yard, StringBuilder text) {
        for (int cell = 0; cell < 36; cell++) {
            text.append("cell ").append(cell).append(':');
            for (int what = 0; what <= 4; what++) {
                text.append(' ').append(yard.cell(cell, what));
            }
            text.append('\n');
        }
    }

    private static void ofPipes(Stowfinish yard, StringBuilder text) {
        for (int pipe = 0; pipe < 30; pipe++) {
            if (!hasPipe(yard, pipe)) {
                break;
            }
            text.append("pipe ").append(pipe).append(':');
            for (int place = 0; place <= 36; place++) {
                text.append(' ').append(yard.roomAt(pipe, place));
            }
            text.append('\n');
        }
    }

    private static boolean hasPipe(Stowfinish yard, int pipe) {
        try {
            yard.roomAt(pipe, 0);
            return true;
        } catch (IndexOutOfBoundsException none) {
            return false;
        }
    }

    private static void ofShip(Stowfinish yard, StringBuilder text) {
        text.append("afloat ").append(yard.isAfloat());
        text.append(" tons ").append(yard.tons()).append(' ').append(yard.tonsAnew());
        text.append(" centre ").append(yard.centre());
        text.append(" draught ").append(yard.draught(false)).append(' ').append(yard.draught(true));
        text.append(" hour ").append(yard.firstHour());
        text.append(" money ").append(yard.money()).append(' ').append(yard.moneyAnew()).append('\n');
    }

    private static void ofTold(Stowfinish yard, StringBuilder text) {
        int x = yard.draw(0);
        yard.draw(x);
        text.append("x ").append(x).append(" flaws");
        for (int welder = 0; welder < 4; welder++) {
            int flaws = yard.welder(welder, 0);
            yard.welder(welder, flaws);
            text.append(' ').append(flaws);
        }
        text.append('\n');
    }
}
