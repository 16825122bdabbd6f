import java.lang.reflect.Constructor;
import java.lang.reflect.Field;
import java.lang.reflect.Method;
import java.math.BigInteger;
import java.util.Random;

/** The long numbers inside the class against BigInteger, on the patterns that trip up such code. */
public final class NumbersTest {
  private static final int ROOM = 380;
  private static int wrong;

  private final Class<?> nat = Class.forName("MarkovDesk$Nat");
  private final Class<?> ratio = Class.forName("MarkovDesk$Ratio");
  private final Constructor<?> newNat = open(nat.getDeclaredConstructor(int.class));
  private final Constructor<?> newRatio = open(ratio.getDeclaredConstructor());
  private final Field limb = open(nat.getDeclaredField("limb"));
  private final Field size = open(nat.getDeclaredField("size"));
  private final Field top = open(ratio.getDeclaredField("top"));
  private final Field below = open(ratio.getDeclaredField("below"));
  private final Method toQuotient = open(nat.getDeclaredMethod("toQuotient", nat, nat));
  private final Method addProduct = open(nat.getDeclaredMethod("addProduct", nat, nat));
  private final Method subtract = open(nat.getDeclaredMethod("subtract", nat));
  private final Method against = open(nat.getDeclaredMethod("against", nat));
  private final Method bitLength = open(nat.getDeclaredMethod("bitLength"));
  private final Method hold = open(ratio.getDeclaredMethod("hold", nat, nat));
  private final Random random = new Random(20);

  private NumbersTest() throws ReflectiveOperationException {}

  private static <T extends java.lang.reflect.AccessibleObject> T open(T member) {
    member.setAccessible(true);
    return member;
  }

  private Object nat(BigInteger x) throws ReflectiveOperationException {
    Object made = newNat.newInstance(ROOM);
    int[] limbs = (int[]) limb.get(made);
    int n = (x.bitLength() + 30) / 31;
    for (int i = 0; i < n; i++) {
      limbs[i] = x.shiftRight(31 * i).intValue() & 0x7fffffff;
    }
    // What stands above a number must not matter.
    for (int i = n; i < ROOM; i++) {
      limbs[i] = random.nextInt() & 0x7fffffff;
    }
    size.setInt(made, n);
    return made;
  }

  private BigInteger big(Object nat) throws ReflectiveOperationException {
    int[] limbs = (int[]) limb.get(nat);
    int n = size.getInt(nat);
    if (n > 0 && limbs[n - 1] == 0) {
      return BigInteger.ONE.negate();
    }
    BigInteger sum = BigInteger.ZERO;
    for (int i = n - 1; i >= 0; i--) {
      sum = sum.shiftLeft(31).add(BigInteger.valueOf(limbs[i]));
    }
    return sum;
  }

  /** Random bits, or long runs of ones and zeros, or a power of two and its neighbours. */
  private BigInteger some(int most) {
    int bits = random.nextInt(most);
    switch (random.nextInt(4)) {
      case 0: return new BigInteger(bits, random);
      case 1: {
        BigInteger x = BigInteger.ZERO;
        while (x.bitLength() < bits) {
          int run = 1 + random.nextInt(70);
          x = x.add(BigInteger.ONE).shiftLeft(run).subtract(BigInteger.valueOf(random.nextInt(2)));
        }
        return x.shiftRight(Math.max(0, x.bitLength() - bits));
      }
      case 2: return BigInteger.ONE.shiftLeft(bits).add(BigInteger.valueOf(random.nextInt(3) - 1));
      default: return BigInteger.valueOf(random.nextInt(1000)).add(BigInteger.ONE.shiftLeft(bits)).multiply(BigInteger.valueOf(1 + random.nextInt(1000)));
    }
  }

  private void due(String what, Object got, Object want) {
    if (!got.equals(want)) {
      wrong++;
      System.out.println(what + " is " + got + ", due is " + want);
    }
  }

  private void run(int rounds) throws ReflectiveOperationException {
    for (int i = 0; i < rounds && wrong < 10; i++) {
      BigInteger a = some(i % 3 == 0 ? 5000 : 400);
      BigInteger b = some(i % 2 == 0 ? 2500 : 130);
      BigInteger c = some(3000);
      Object sum = nat(c);
      addProduct.invoke(sum, nat(a), nat(b));
      due(c + " + " + a + " * " + b, big(sum), c.add(a.multiply(b)));
      subtract.invoke(sum, nat(c));
      due(a + " * " + b, big(sum), a.multiply(b));
      due(a + " against " + b, against.invoke(nat(a), nat(b)), a.compareTo(b));
      due("bits of " + a, bitLength.invoke(nat(a)), a.bitLength());
      Object x = nat(a);
      Object y = nat(b);
      Object quotient = nat(c);
      toQuotient.invoke(quotient, x, y);
      if (b.signum() > 0) {
        due(a + " / " + b, big(quotient), a.divide(b));
        due(a + " rest of " + b, big(x), a.mod(b));
        due("divisor", big(y), b);
      }
      checkRatio(a, b);
      checkRatio(a.multiply(c), b.multiply(c));
      checkRatio(c.multiply(a).add(b), c);
      checkRatio(c, c.multiply(a).add(b));
    }
    checkFibonacci();
  }

  private void checkRatio(BigInteger a, BigInteger b) throws ReflectiveOperationException {
    if (b.signum() > 0) {
      Object r = newRatio.newInstance();
      hold.invoke(r, nat(a), nat(b));
      BigInteger g = a.gcd(b);
      due(a + " over " + b + ", above", big(top.get(r)), a.divide(g));
      due(a + " over " + b + ", below", big(below.get(r)), b.divide(g));
    }
  }

  /** The longest way through Euclid's algorithm. */
  private void checkFibonacci() throws ReflectiveOperationException {
    BigInteger a = BigInteger.ONE;
    BigInteger b = BigInteger.ONE;
    for (int i = 0; i < 4000; i++) {
      BigInteger sum = a.add(b);
      a = b;
      b = sum;
      if (i % 97 == 0) {
        checkRatio(a.multiply(BigInteger.valueOf(i + 1)), b.multiply(BigInteger.valueOf(i + 1)));
      }
    }
  }

  public static void main(String[] args) throws ReflectiveOperationException {
    new NumbersTest().run(args.length > 0 ? Integer.parseInt(args[0]) : 4000);
    System.exit(wrong > 0 ? 1 : 0);
  }
}
