import java.lang.management.ManagementFactory;

/** All calls of a run live in one room: a call that throws nothing makes no object, and an object stays small. */
public final class RoomTest {
    private static final Check CHECK = new Check("RoomTest");

    public static void main(String[] args) {
        com.sun.management.ThreadMXBean room = (com.sun.management.ThreadMXBean) ManagementFactory.getThreadMXBean();
        long me = Thread.currentThread().getId();
        BarterIsles isles = new BarterIsles();
        // Once for what the machine itself loads.
        use(isles);
        room.getThreadAllocatedBytes(me);
        long before = room.getThreadAllocatedBytes(me);
        long idle = room.getThreadAllocatedBytes(me) - before;
        before = room.getThreadAllocatedBytes(me);
        use(isles);
        long used = room.getThreadAllocatedBytes(me) - before - idle;
        CHECK.yes("calls made " + used + " bytes", used == 0);
        before = room.getThreadAllocatedBytes(me);
        BarterIsles another = new BarterIsles();
        long made = room.getThreadAllocatedBytes(me) - before - idle;
        CHECK.yes("an object has " + made + " bytes", made < 64000);
        CHECK.is("and is there", 0, another.count(0));
        CHECK.end();
    }

    private static final byte[] TEXT = ("name stella 3 1 colony;name last 5 1;name tale 9 4;name eel 4 1 north;name als 20 1;name salt 22 1;"
        + "wish 0 2 4;wish 1 0 5 2;wish 2 1;fair 0 1 2;fair 2 0 3;speed 2;law debt<3 and (far<25 or sort=other);   ").getBytes();

    private static int four(int at) {
        int four = 0;
        for (int i = at; i < at + 4; i++) {
            four = four << 8 | (i < TEXT.length ? TEXT[i] : ' ');
        }
        return four;
    }

    private static void use(BarterIsles isles) {
        for (int at = 0; at < TEXT.length; at += 20) {
            isles.feed(four(at), four(at + 4), four(at + 8), four(at + 12), four(at + 16));
        }
        int sum = isles.sea(TEXT.length) + isles.fault() + isles.count(0) + isles.name(0, 4) + isles.letter(0, 0) + isles.has(0);
        sum += isles.debt(0, 1) + (isles.may(0, 1) ? 1 : 0) + isles.swap(0, 1) + isles.year() + isles.forgive(0, 1) + isles.undo();
        sum += (isles.prefers(0, 1, 2) ? 1 : 0) + isles.glad(1) + isles.round(0) + isles.leave() + isles.swaps(181889, 0);
        sum += isles.ship(50, 50, 0) + isles.joined(0, 1, -1) + (isles.inside(0, 1) ? 1 : 0) + isles.shortest(31, 0) + isles.worn(0, 3, 0);
        sum += isles.tide(0) + isles.lies(0, 1) + isles.see(0, 1) + isles.sales(3, -1) + isles.look(3) + isles.clerks(0, 1, 0);
        sum += isles.century(5, 100, 0) + isles.weather(0, 0, 9) + isles.owed(0) + isles.caravan(0);
        isles.image();
        isles.forget();
        CHECK.is("the sea was told", 6, isles.count(0));
        CHECK.yes("restored", isles.restore() && sum > Integer.MIN_VALUE);
    }
}
