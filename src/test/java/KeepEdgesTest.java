import java.util.Map;

/** Boundaries of what is kept and undone: promises 25 and 26, and that refused calls change nothing kept either. */
public final class KeepEdgesTest {
    private static final Rig RIG = Rig.ofNumbers();
    private static final Rig EMPTY = Rig.ofNothing();

    public static void main(String[] args) {
        noneKept();
        keepNew();
        keepAnswers();
        undoneAll();
        undoneAgain();
        keptLast();
        notTheLaw();
        theTape();
        Due.end();
    }

    private static void same(String what, DustMint got, DustMint due) {
        Rig.same(what, Rig.seen(got), Rig.seen(due));
    }

    /** undo: "false: none was KEPT". */
    private static void noneKept() {
        DustMint x = Due.mint("l5(1=1)");
        x.porter(0, 0, 50, 0, 0);
        x.hours(3);
        x.feed(1, 2, 3, 4, 5);
        Due.is("none was kept", x.undo(), false);
        Due.is("nor now", x.undo(), false);
        DustMint other = Due.mint("l5(1=1)");
        other.porter(0, 0, 50, 0, 0);
        other.hours(3);
        other.feed(1, 2, 3, 4, 5);
        same("refused undo", x, other);
    }

    /** A new object can be kept and comes back as new. */
    private static void keepNew() {
        DustMint x = new DustMint();
        Due.is("hour 0", x.keep(), 0);
        x.yard(3, 5, 1, true);
        x.porter(0, 0, 50, 0, 0);
        x.licence(2, 2);
        x.skill(1, 1);
        x.rain(0, 1);
        x.seed(0);
        x.feed(1, 2, 3, 4, 5);
        x.hours(40);
        Due.is("undone", x.undo(), true);
        same("as new", x, new DustMint());
    }

    /** keep: "KEPT: THE HOUR", and nothing else is changed by it. */
    private static void keepAnswers() {
        RIG.changes("keep", DustMint::keep, 3);
        EMPTY.changes("keep", DustMint::keep, 3);
        DustMint x = new DustMint();
        for (int i = 0; i < 12; i++) {
            Due.is("THE HOUR", x.keep(), 40 * i);
            x.hours(40);
        }
        Due.is("as it was kept last", x.undo(), true);
        Due.is("THE HOUR again", x.count(0), 440);
    }

    /** Whatever is told or passes behind a keep is undone, each thing alone. */
    private static void undoneAll() {
        Rig.Call[] calls = {
            x -> Rig.bit(x.yard(4, 1, -1, false)), x -> Rig.bit(x.rain(0, 0)), x -> Rig.bit(x.rain(99, 9)),
            x -> Rig.bit(x.porter(3, 1, 1, 1, 1)), x -> Rig.bit(x.porter(7, 1, 1, 1, 1)), x -> Rig.bit(x.porter(0, 1, 1, 1, 1)),
            x -> Rig.bit(x.licence(4, DustMint.NONE)), x -> Rig.bit(x.licence(5, 3)), x -> Rig.bit(x.skill(5, 0)),
            x -> x.feed(7, 7, 7, 7, 7), x -> x.check(0), x -> x.hours(40), x -> x.hour(0), x -> x.bowls(Rig.CLIMBERS, 3, 9),
            x -> x.shook(3, 1, -1), x -> Rig.bit(x.seed(7)), x -> x.tried(40, 0), x -> x.sieved(1, 3, 3, 0, 0), x -> x.carpet(20, 0),
            x -> x.gust(4, -2, 40, 1), x -> x.worth(4, 3, 40), x -> x.sold(4, 40, 1), x -> x.odds(3, 9, 0), x -> x.law(4),
        };
        for (int i = 0; i < calls.length; i++) {
            Rig.Call call = calls[i];
            RIG.changes("undone, call " + i, x -> {
                x.keep();
                call.on(x);
                return Rig.bit(x.undo());
            }, 1);
        }
    }

    /** "UNDONE: as it was KEPT last": what is done behind an undo does not touch what was kept. */
    private static void undoneAgain() {
        RIG.changes("undone twice", x -> {
            x.keep();
            x.hours(5);
            x.undo();
            x.yard(4, 1, -1, false);
            x.porter(3, 1, 1, 1, 1);
            x.licence(4, 1);
            x.rain(3, 3);
            x.skill(4, 4);
            x.seed(4);
            x.feed(1, 1, 1, 1, 1);
            x.hours(5);
            return Rig.bit(x.undo());
        }, 1);
        RIG.changes("undone at once", x -> {
            x.keep();
            return Rig.bit(x.undo());
        }, 1);
        DustMint x = RIG.made();
        DustMint once = RIG.made();
        x.undo();
        x.undo();
        once.undo();
        same("undone twice at once", x, once);
    }

    private static void keptLast() {
        DustMint x = RIG.made();
        x.keep();
        x.hours(7);
        Due.is("kept anew", x.keep(), 10);
        x.hours(7);
        Due.is("undone", x.undo(), true);
        DustMint other = RIG.made();
        other.hours(7);
        same("as it was kept last", x, other);
        Due.is("not as before that", x.undo(), true);
        Due.is("THE HOUR", x.count(0), 10);
    }

    /** "KEPT: all but THE LAW": the law that is now stays, none comes back. */
    private static void notTheLaw() {
        DustMint x = new DustMint();
        x.keep();
        Due.law(x, "l5(1=1);l6(1=1)");
        Due.is("undone", x.undo(), true);
        Due.is("the law stays", x.count(1), 2);
        x.porter(0, 0, 50, 0, 0);
        Due.is("it holds", x.porterIs(0, 4), 5);
        x.keep();
        Due.law(x, "l7(1=1)");
        x.undo();
        Due.is("the newer law stays", x.count(1) * 10 + x.porterIs(0, 4), 17);
        Due.law(x, "l8(1=1");
        x.undo();
        Due.is("a fault changes nothing", x.count(1) * 10 + x.porterIs(0, 4), 17);
    }

    /** "all but THE LAW": the tape and its bytes, too. */
    private static void theTape() {
        DustMint x = RIG.made();
        x.keep();
        x.check(0);
        x.feed(-1, -1, -1, -1, -1);
        x.feed(-1, -1, -1, -1, -1);
        x.feed(-1, -1, -1, -1, -1);
        x.undo();
        Due.is("bytes", x.count(2), 40);
        for (int y = 0; y < 10; y++) x.yard(y, Rig.NUMBERS[y], 0, false);
        Due.is("the same bytes", x.check(10), DustMint.NONE);
        x = new DustMint();
        x.keep();
        x.feed(1, 2, 3, 4, 5);
        x.undo();
        Due.is("an empty tape", x.count(2), 0);
        Map<String, Integer> seen = Rig.seen(x);
        Rig.same("as new", seen, Rig.seen(new DustMint()));
    }
}
