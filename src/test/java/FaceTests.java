import java.lang.reflect.Constructor;
import java.lang.reflect.Field;
import java.lang.reflect.Method;
import java.lang.reflect.Modifier;
import java.util.Set;
import java.util.TreeSet;

/** The public face is the document's and no more; an object and what its calls make is within the room. */
public final class FaceTests {
    private static final Checks checks = new Checks("FaceTests");
    /** "some 600,000 objects and arrays, 7.3 million fields and elements in all"; bytes as they are at most. */
    private static final long ROOM = 7_300_000, ROOM_BYTES = 600_000 * 16L + ROOM * 8;

    private static final String FACE = "ahead/2 back/0 base/2 best/2 byTurns/1 card/4 count/1 deal/1 deck/0 depends/2 "
        + "dry/1 ended/1 feed/1 hold/2 image/0 layer/1 matter/0 mend/2 next/1 of/2 pile/1 play/1 player/2 resolve/0 "
        + "run/0 seed/1 swing/1 tells/2 trace/2 turn/0 used/2 value/1 worth/1";

    private static void face() throws Exception {
        Class<?> face = LayeredCards.class;
        checks.holds("the class is public and final",
            Modifier.isPublic(face.getModifiers()) && Modifier.isFinal(face.getModifiers()));
        Set<String> found = new TreeSet<>();
        Set<String> hidden = new TreeSet<>();
        for (Method method : face.getDeclaredMethods()) {
            if (Modifier.isPrivate(method.getModifiers())) {
                hidden.add(method.getName());
                continue;
            }
            found.add(method.getName() + "/" + method.getParameterCount());
            checks.holds(method + " is public", Modifier.isPublic(method.getModifiers()));
            checks.holds(method + " is no static one", !Modifier.isStatic(method.getModifiers()));
            checks.holds(method + " answers an int", method.getReturnType() == int.class);
            for (Class<?> type : method.getParameterTypes()) {
                checks.holds(method + " takes ints", type == int.class);
            }
        }
        checks.holds("the methods are " + found, String.join(" ", found).equals(FACE));
        for (String name : hidden) {
            checks.holds("no private method is named " + name, !(" " + FACE).contains(" " + name + "/"));
        }
        checks.due("constructors", face.getDeclaredConstructors().length, 1);
        Constructor<?> constructor = face.getConstructor();
        checks.due("its parameters", constructor.getParameterCount(), 0);
        for (Class<?> inside : face.getDeclaredClasses()) {
            checks.holds(inside + " is static and not public", Modifier.isStatic(inside.getModifiers())
                && !Modifier.isPublic(inside.getModifiers()) && !Modifier.isProtected(inside.getModifiers()));
        }
    }

    private static void constants() throws Exception {
        String[] names = {"BAD", "NOT", "FULL", "STATE", "VOID"};
        int[] values = {-1, -2, -3, -5, -2000000000};
        for (int i = 0; i < names.length; i++) {
            Field field = LayeredCards.class.getDeclaredField(names[i]);
            checks.holds(names[i] + " is a public static final int", field.getType() == int.class
                && Modifier.isPublic(field.getModifiers()) && Modifier.isStatic(field.getModifiers())
                && Modifier.isFinal(field.getModifiers()));
            checks.due(names[i], field.getInt(null), values[i]);
        }
        int open = 0;
        for (Field field : LayeredCards.class.getDeclaredFields()) {
            open += Modifier.isPrivate(field.getModifiers()) ? 0 : 1;
        }
        checks.due("fields that are not private", open, names.length);
    }

    /** Fields and elements of an object and of all that hangs on it. */
    private static long roomOf(Object o, Set<Object> seen) throws Exception {
        if (o == null || !seen.add(o)) {
            return 0;
        }
        long room = 0;
        if (o.getClass().isArray()) {
            int n = java.lang.reflect.Array.getLength(o);
            room += n;
            for (int i = 0; i < n && !o.getClass().getComponentType().isPrimitive(); i++) {
                room += roomOf(((Object[]) o)[i], seen);
            }
            return room;
        }
        if (o instanceof java.util.List) {
            for (Object part : (java.util.List<?>) o) {
                room += 1 + roomOf(part, seen);
            }
            return room;
        }
        if (o.getClass().getName().startsWith("java.")) {
            return 1;
        }
        for (Field field : o.getClass().getDeclaredFields()) {
            if (Modifier.isStatic(field.getModifiers())) {
                continue;
            }
            room++;
            field.setAccessible(true);
            if (!field.getType().isPrimitive()) {
                room += roomOf(field.get(o), seen);
            }
        }
        return room;
    }

    private static int everyCall(LayeredCards x) {
        int sum = x.run() + x.resolve() + x.deck() + x.turn() + x.matter() + x.image() + x.back();
        for (int i = 0; i < 4; i++) {
            sum += x.card(i * 3 + i, i % 2, 10 * i, i) + x.feed(i) + x.deal(i) + x.value(i) + x.layer(i) + x.play(i);
            sum += x.pile(i) + x.ended(i) + x.dry(i) + x.worth(i) + x.byTurns(i) + x.swing(i) + x.next(i) + x.count(i);
            sum += x.of(i, 5) + x.base(i, i) + x.mend(i, 50) + x.player(0, i) + x.depends(i, i + 1) + x.used(1005, i);
            sum += x.best(i, i % 2) + x.ahead(i, i) + x.trace(0, i) + x.seed(i) + x.hold(i, i) + x.tells(i, i);
        }
        return sum;
    }

    private static void room() throws Exception {
        long room = roomOf(new LayeredCards(), java.util.Collections.newSetFromMap(new java.util.IdentityHashMap<>()));
        System.out.println("a new object has " + room + " fields and elements");
        checks.holds("a new object is within the room: " + room, room <= ROOM);
        java.lang.management.ThreadMXBean bean = java.lang.management.ManagementFactory.getThreadMXBean();
        if (!(bean instanceof com.sun.management.ThreadMXBean)) {
            return;
        }
        com.sun.management.ThreadMXBean thread = (com.sun.management.ThreadMXBean) bean;
        long id = Thread.currentThread().getId();
        long most = 0;
        for (int i = 0; i < 20; i++) {
            LayeredCards x = Games.looping();
            long before = thread.getThreadAllocatedBytes(id);
            for (int times = 0; times < 4; times++) {
                everyCall(x);
            }
            // the first rounds make what the machine itself makes of a new class
            most = i < 10 ? 0 : Math.max(most, thread.getThreadAllocatedBytes(id) - before);
        }
        System.out.println("some 500 calls make " + most + " bytes");
        checks.holds("what calls make is within the room: " + most, most <= ROOM_BYTES);
    }

    public static void main(String[] args) throws Exception {
        face();
        constants();
        room();
        checks.close();
    }
}
