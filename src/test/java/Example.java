/** A ship that is sailed, drifts by herself, and is asked about. */
final class Example {
  public static void main(String[] args) {
    NobodySails x = new NobodySails();
    feed(x, "sea 5 3; wind e 3; wind ne 1; land 4 0; ship 0 2 5 20;");
    feed(x, "man 10 3; man 15 1; sign standing 0; sign told 4;");
    feed(x, "story 3 leaves 0; story 2 bars 0 leaves 1;");
    System.out.println("stories: " + x.sea());
    System.out.println("put into 0, 2 without water: " + x.put(0, 2, 0));
    System.out.println("the hour, two hours unmanned by seed 42: " + x.sailed(2, 0, 42));
    System.out.println("she is at: " + x.ship(0) + ", " + x.ship(1));
    System.out.println("her water: " + x.ship(2));

    // Cells as one number are x + 16 y: from 0, 2 to 2, 2.
    long above = x.herself(32, 34, 0, 2, 0);
    long below = x.herself(32, 34, 0, 2, 1);
    System.out.println("by herself there in two hours: " + above + " by " + below);
    System.out.println("in how many hours she could, as bits: " + x.could(32, 34));
    System.out.println("who leaves at 10 inches, as bits: " + x.leave(10, 0, 0));

    // The set 1 is the sign 0 alone.
    System.out.println("likeliest story, sign 0 seen: " + x.likeliest(1));
    System.out.println("its odds: " + x.odds(0, 1, 0) + " by " + x.odds(0, 1, 1));
    System.out.println("the size of sign 1: " + x.ask(1, 0));
    System.out.println("by the bodies: " + x.trace(0) + ", " + x.trace(1));

    System.out.println("a refusal, NOT less 1: " + x.ship(7));
    feed(x, "sea 5 3; wind up 1;");
    System.out.println("the place of a fault: " + (NobodySails.NOT - 100 - x.sea()));
    System.out.println("its number: " + x.fault());
  }

  /** Eight bytes a call, since an object is good for 512 calls. */
  private static void feed(NobodySails x, String text) {
    for (int i = 0; i < text.length(); i += 8) {
      int n = Math.min(8, text.length() - i);
      long w = 0;
      for (int k = 0; k < n; k++) {
        w = w << 8 | text.charAt(i + k);
      }
      x.feed(w, n);
    }
  }
}
