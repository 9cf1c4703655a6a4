import java.util.ArrayList;
import java.util.List;

/**
 * A Stowfinish for tests. The document promises answers for 512 calls of an object: when those are made, a new
 * object takes the old one's place, and the calls that may have changed something are made anew on it.
 */
final class Yard {
    static final int MOST_CALLS = 512;

    private final List<Call> deeds = new ArrayList<>();
    private final List<String> answers = new ArrayList<>();
    private Stowfinish object = new Stowfinish();
    private int made = 0;
    private Call last = null;

    Yard() {
    }

    /** A yard on which these calls have been made, whatever each of them answered. */
    Yard(List<Call> calls) {
        for (Call call : calls) {
            make(call);
            if (!call.kind.isDeed()) {
                keep(call);
            }
        }
    }

    /** The call's answer: a number (a boolean counts 1 or 0), or "throws" and the exception. */
    String make(Call call) {
        try {
            return String.valueOf(answer(call));
        } catch (RuntimeException thrown) {
            return Call.textOf(thrown);
        }
    }

    long answer(Call call) {
        if (made >= MOST_CALLS) {
            renew();
        }
        made++;
        last = call;
        if (call.kind.isDeed()) {
            keep(call);
        }
        try {
            long answer = call.on(object);
            told(call, String.valueOf(answer));
            return answer;
        } catch (RuntimeException thrown) {
            told(call, Call.textOf(thrown));
            throw thrown;
        }
    }

    /** The calls that may have changed something, refused ones too. */
    List<Call> deeds() {
        return new ArrayList<>(deeds);
    }

    Call last() {
        return last;
    }

    private void keep(Call call) {
        deeds.add(call);
        if (deeds.size() > MOST_CALLS) {
            throw new AssertionError("a test of more than " + MOST_CALLS + " calls");
        }
    }

    private void told(Call call, String answer) {
        if (call.kind.isDeed()) {
            answers.add(answer);
        }
    }

    private void renew() {
        object = new Stowfinish();
        made = deeds.size();
        if (made >= MOST_CALLS) {
            throw new AssertionError("no call is left for this one");
        }
        int place = 0;
        for (Call deed : deeds) {
            String answer = deed.answerOf(object);
            if (deed.kind.isDeed() && !answer.equals(answers.get(place++))) {
                throw new AssertionError(deed + " answers " + answer + " the second time");
            }
        }
    }

    private int ask(Call.Kind kind, int... arguments) {
        return (int) answer(new Call(kind, arguments));
    }

    int hall(int frames, int tons) {
        return ask(Call.Kind.HALL, frames, tons);
    }

    int crane(int frame, int tons) {
        return ask(Call.Kind.CRANE, frame, tons);
    }

    int welder(int welder, int flaws) {
        return ask(Call.Kind.WELDER, welder, flaws);
    }

    int draw(int x) {
        return ask(Call.Kind.DRAW, x);
    }

    int block(int first, int last, int level, int tons, int more, int lugs) {
        return ask(Call.Kind.BLOCK, first, last, level, tons, more, lugs);
    }

    int join(int block, int other, int welder) {
        return ask(Call.Kind.JOIN, block, other, welder);
    }

    int erect(int block, int welder) {
        return ask(Call.Kind.ERECT, block, welder);
    }

    int scrap(int block) {
        return ask(Call.Kind.SCRAP, block);
    }

    int test(int weld) {
        return ask(Call.Kind.TEST, weld);
    }

    int repair(int weld, int welder) {
        return ask(Call.Kind.REPAIR, weld, welder);
    }

    int hole(int room, boolean isUp) {
        return ask(Call.Kind.HOLE, room, isUp ? 1 : 0);
    }

    int paint(int room) {
        return ask(Call.Kind.PAINT, room);
    }

    int fit(int room, int tons) {
        return ask(Call.Kind.FIT, room, tons);
    }

    int pipe(int room, int to) {
        return ask(Call.Kind.PIPE, room, to);
    }

    int launch(int hour) {
        return ask(Call.Kind.LAUNCH, hour);
    }

    int blocks() {
        return ask(Call.Kind.BLOCKS);
    }

    int welds() {
        return ask(Call.Kind.WELDS);
    }

    boolean isAfloat() {
        return ask(Call.Kind.IS_AFLOAT) != 0;
    }

    int whyNot(int block) {
        return ask(Call.Kind.WHY_NOT, block);
    }

    int told(int block, int what) {
        return ask(Call.Kind.TOLD, block, what);
    }

    int weld(int weld, int what) {
        return ask(Call.Kind.WELD, weld, what);
    }

    int cell(int cell, int what) {
        return ask(Call.Kind.CELL, cell, what);
    }

    int roomAt(int pipe, int place) {
        return ask(Call.Kind.ROOM_AT, pipe, place);
    }

    int tons() {
        return ask(Call.Kind.TONS);
    }

    int tonsAnew() {
        return ask(Call.Kind.TONS_ANEW);
    }

    int centre() {
        return ask(Call.Kind.CENTRE);
    }

    int draught(boolean isBehind) {
        return ask(Call.Kind.DRAUGHT, isBehind ? 1 : 0);
    }

    int water(int hour) {
        return ask(Call.Kind.WATER, hour);
    }

    int firstHour() {
        return ask(Call.Kind.FIRST_HOUR);
    }

    int money() {
        return ask(Call.Kind.MONEY);
    }

    int moneyAnew() {
        return ask(Call.Kind.MONEY_ANEW);
    }
}
