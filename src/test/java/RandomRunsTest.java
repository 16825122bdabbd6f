/** Random models, right ones and bent ones: MarkovDesk answers as the reference does. */
public final class RandomRunsTest {
  private static int wrong;
  private static int read;
  private static int explored;
  private static int refused;
  private static int broken;
  private static int full;

  private static void run(String name, String text) {
    Both both = new Both(name);
    Object end = both.text(text);
    both.counts();
    if (end instanceof Integer) {
      read++;
      Object states = both.explore();
      if (states instanceof Integer) {
        explored++;
        both.everything();
        both.explore();
        both.check(true);
        both.solve(true);
        both.state(0, 2, 0);
        both.state(0, 3, 0);
      } else if (states.toString().contains("Arithmetic")) {
        broken++;
      } else {
        full++;
      }
    } else {
      refused++;
    }
    both.counts();
    if (both.wrong > 0) {
      wrong += both.wrong;
      System.out.println(text);
    }
  }

  public static void main(String[] args) {
    int scale = args.length > 0 ? Integer.parseInt(args[0]) : 1;
    long first = args.length > 1 ? Long.parseLong(args[1]) : 0;
    for (long seed = first; seed < first + 4000L * scale && wrong < 20; seed++) {
      run("model " + seed, new ModelMaker(seed).model());
      ModelMaker maker = new ModelMaker(seed);
      run("bent " + seed, maker.bend(maker.model()));
      run("heap " + seed, new ModelMaker(seed).heap());
    }
    for (long seed = first; seed < first + 200L * scale && wrong < 20; seed++) {
      run("chain " + seed, new ModelMaker(seed).chain(4 + (int) (seed % 21), 2 + (int) (seed % 5)));
    }
    for (long seed = first; seed < first + 600L * scale && wrong < 20; seed++) {
      run("maze " + seed, new ModelMaker(seed).maze(2 + (int) (seed % 23)));
    }
    for (long seed = first; seed < first + 6L * scale && wrong < 20; seed++) {
      run("spread " + seed, new ModelMaker(seed).spread(18 + (int) (seed % 6), 2 + (int) (seed % 2)));
      run("together " + seed, new ModelMaker(seed).together(2 + (int) (seed % 3), 6));
    }
    run("longest", ModelMaker.longest());
    System.out.println("read " + read + ", explored " + explored + ", wrong " + refused + ", broken " + broken + ", full " + full);
    System.exit(wrong > 0 ? 1 : 0);
  }
}
