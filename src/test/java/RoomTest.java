import java.lang.reflect.Array;
import java.lang.reflect.Field;
import java.lang.reflect.Modifier;
import java.util.ArrayDeque;
import java.util.Collections;
import java.util.Deque;
import java.util.IdentityHashMap;
import java.util.Set;

/**
 * All calls of one run live in one room of some 600,000 objects, 7.3 million fields and elements:
 * an object is made of few, and calls make none (LanguageTest looks that nothing is made by them).
 */
public final class RoomTest {
  private static final Check check = new Check();
  private static final int MOST_OBJECTS = 100;
  private static final int MOST_CELLS = 2000;

  private final Set<Object> seen = Collections.newSetFromMap(new IdentityHashMap<>());
  private final Deque<Object> open = new ArrayDeque<>();
  private int cells = 0;

  public static void main(String[] args) throws Exception {
    RoomTest fresh = new RoomTest();
    fresh.walk(new DoeRoe());
    check.isTrue("a new one is of " + fresh.seen.size() + " objects",
        fresh.seen.size() <= MOST_OBJECTS);
    check.isTrue("a new one has " + fresh.cells + " fields and elements",
        fresh.cells <= MOST_CELLS);
    RoomTest full = new RoomTest();
    full.walk(Made.full());
    check.due("objects of a full one", full.seen.size(), fresh.seen.size());
    check.due("fields and elements of a full one", full.cells, fresh.cells);
    check.end("RoomTest");
  }

  private void walk(Object from) throws Exception {
    meet(from);
    while (!open.isEmpty()) {
      Object at = open.pop();
      Class<?> type = at.getClass();
      if (type.isArray()) {
        cells += Array.getLength(at);
        for (int i = 0; !type.getComponentType().isPrimitive() && i < Array.getLength(at); i++) {
          meet(Array.get(at, i));
        }
      }
      for (Class<?> c = type; c != null && !type.isArray(); c = c.getSuperclass()) {
        meetFields(at, c);
      }
    }
  }

  private void meetFields(Object at, Class<?> type) throws Exception {
    for (Field f : type.getDeclaredFields()) {
      if (!Modifier.isStatic(f.getModifiers())) {
        cells++;
        f.setAccessible(true);
        if (!f.getType().isPrimitive()) {
          meet(f.get(at));
        }
      }
    }
  }

  private void meet(Object x) {
    if (x != null && seen.add(x)) {
      open.push(x);
    }
  }
}
