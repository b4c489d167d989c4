import java.lang.reflect.Method;
import java.lang.reflect.Modifier;
import java.util.ArrayList;
import java.util.Arrays;
import java.util.List;

/**
 * Every call with every row of numbers out of a few (edges of what is allowed, the least and the greatest
 * of all ints): it never throws, and answers as the oracle does; on an object with something of all.
 */
public final class ExtremesTest {
  private static final int LEAST = Integer.MIN_VALUE, MOST = Integer.MAX_VALUE;
  /** Which numbers are tried, by how many a call takes. */
  private static final int[][] TRIED = {
    {}, {LEAST, LEAST + 1, -2, -1, 0, 1, 2, 3, 4, 5, 6, 7, 8, 9, 10, 11, 30, 31, 51, 52, 53, 59, 60, 64, 65, MOST - 1, MOST},
    {LEAST, -2, -1, 0, 1, 2, 3, 4, 5, 6, 7, 10, 52, 59, 60, 65, 65536, MOST},
    {LEAST, -1, 0, 1, 2, 3, 4, 10, 20, 40, 41, 100000, MOST},
    {LEAST, -1, 0, 1, 2, 4, 40, 65535, MOST},
    {LEAST, -1, 0, 1, 2, MOST},
    {-1, 0, 1, 5, 255, 256}};
  private static final String[] SET_UP = {"deal 12", "head 13 7 78", "head 55 16 65535", "head 42 9 30", "card 3", "card 12", "card 3",
    "card 7", "image", "card 2", "sheet 0 2 3", "cell 0 0 9", "sheet 1 1 2", "cell 1 1 6", "sheet 2 0 0", "feed 3 102 105 114 0 0"};

  private FiftyOneCards x;
  private Oracle y;
  private int calls;

  private Object on(Object o, String name, Object... args) throws Exception {
    for (Method m : o.getClass().getDeclaredMethods()) {
      if (m.getName().equals(name) && m.getParameterCount() == args.length && Modifier.isPublic(m.getModifiers())) {
        return m.invoke(o, args);
      }
    }
    throw new IllegalArgumentException("no call " + name);
  }

  private void anew() throws Exception {
    x = new FiftyOneCards();
    y = new Oracle();
    calls = 0;
    for (String step : SET_UP) {
      String[] words = step.split(" ");
      Object[] args = Arrays.stream(words).skip(1).map(Integer::valueOf).toArray();
      on(x, words[0], args);
      on(y, words[0], args);
    }
  }

  private void all(String name, int arity) throws Exception {
    int[] tried = TRIED[arity];
    int rows = 1;
    for (int i = 0; i < arity; i++) rows *= tried.length;
    int wrong = 0;
    anew();
    for (int row = 0; row < rows; row++) {
      Object[] args = new Object[arity];
      for (int i = 0, left = row; i < arity; i++, left /= tried.length) args[i] = tried[left % tried.length];
      // An object is used for 512 calls at most; what one call changed is soon gone.
      if (++calls > 60) anew();
      Object got = on(x, name, args);
      Object want = on(y, name, args);
      if (!got.equals(want) && wrong++ < 3) System.out.println(name + Arrays.toString(args) + " answered " + got + ", due is " + want);
    }
    Due.due(name + " with " + rows + " rows of numbers: wrong ones", wrong, 0);
  }

  public static void main(String[] args) throws Exception {
    List<Method> every = new ArrayList<>();
    for (Method m : FiftyOneCards.class.getMethods()) if (m.getDeclaringClass() == FiftyOneCards.class) every.add(m);
    Due.due("calls of the face", every.size(), 42);
    for (Method m : every) new ExtremesTest().all(m.getName(), m.getParameterCount());
    Due.end("ExtremesTest");
  }
}
