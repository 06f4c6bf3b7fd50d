// The constants of the face, by their values in the document.
public final class FaceTest {
  public static void main(String[] args) {
    boolean right = BusRack.NO_SUCH == -1 && BusRack.BAD_VALUE == -2 && BusRack.TOO_MANY == -3
        && BusRack.NOT_POSSIBLE == -4 && BusRack.NONE == -5 && BusRack.ROOT == 12
        && BusRack.MEMORY == 0 && BusRack.PORTS == 1;
    System.out.println(right ? "the constants are as due" : "a constant is not as due");
    if (!right) System.exit(1);
  }
}
