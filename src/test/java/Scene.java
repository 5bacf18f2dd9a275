/** Lands and persons to try things on. */
final class Scene {
    /** Far off and just off, for arguments of which none is right. */
    static final int[] ODD = {Integer.MIN_VALUE, -10000, -4, Integer.MAX_VALUE, 10001, 1 << 20, 300, 96, 64};

    private Scene() {
    }

    /** Lands with these forests, each with a road to the next. */
    static WolfsHead row(int... forests) {
        WolfsHead x = new WolfsHead();
        for (int i = 0; i < forests.length; i++) {
            x.land(forests[i]);
            x.road(i - 1, i);
        }
        return x;
    }

    /** Lands 0 and 1 with a road, 2 without; 0, 1, 2 in land 0, 3 in land 1, 4 in land 2. */
    static WolfsHead village() {
        WolfsHead x = row(4, 9);
        x.land(0);
        x.person(0, 3, 100, 40);
        x.person(0, 5, 200, 0);
        x.person(0, 1, 300, 400);
        x.person(1, 9, 5000, 5000);
        x.person(2, 0, 0, 0);
        return x;
    }

    static void outlaw(WolfsHead x, int person) {
        int away = x.of(person, 0) == 0 ? 1 : 0;
        for (int i = 0; i < 5 && x.of(person, 7) != 1; i++) {
            x.call(person, away);
        }
        Due.is("an outlaw", x.of(person, 7), 1);
    }

    /** By two outlaws of one land: the first is dead then, the second pardoned. */
    static void killAndPardon(WolfsHead x, int first, int second) {
        outlaw(x, first);
        outlaw(x, second);
        Due.is("a killing", x.kill(first, second), true);
    }

    static void rule(WolfsHead x, String text) {
        int number = Due.text(x, text);
        Due.is("a text [" + text + "]", number >= 0, true);
        x.by(number);
    }

    static int anew(int x) {
        return (x * 379 + 257) % 30469;
    }

    /** To MONTH 9960 by 166 calls. */
    static WolfsHead late(WolfsHead x) {
        for (int i = 0; i < 166; i++) {
            x.month(60);
        }
        Due.is("late", x.is(0), 9960);
        return x;
    }

    /** All that tells how it is, without a change. */
    static String all(WolfsHead x) {
        StringBuilder b = new StringBuilder();
        for (int what = 0; what < 10; what++) {
            b.append(x.about(what)).append(' ');
        }
        b.append("| ").append(x.is(0)).append(' ').append(x.is(1)).append(" | ").append(x.fault(0));
        for (int land = 0; land < x.about(0); land++) {
            b.append(" | L");
            for (int what = 0; what < 3; what++) {
                b.append(' ').append(x.ofLand(land, what));
            }
        }
        for (int person = 0; person < x.about(1); person++) {
            b.append(" | P");
            for (int what = 0; what < 13; what++) {
                b.append(' ').append(x.of(person, what));
            }
        }
        for (int i = 0; i < x.book(-1, 0); i++) {
            b.append(" | B ").append(x.book(i, 0)).append(' ').append(x.book(i, 1)).append(' ').append(x.book(i, 2));
        }
        return b.append(" | ").append(x.rests()).append(' ').append(x.heads(-1)).append(' ').append(x.whose()).toString();
    }
}
