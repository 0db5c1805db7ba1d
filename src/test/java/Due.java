/** Counts and prints the answers that are not the ones that are due. */
final class Due {
    private final String promise;
    private int looked = 0;
    private int wrong = 0;

    Due(String name) {
        promise = name;
    }

    void is(String call, long got, long want) {
        looked++;
        if (got != want) {
            wrong++;
            System.out.println(promise + ": " + call + " answered " + got + ", due is " + want);
        }
    }

    /** Ends the test: with exit code 1 if an answer was wrong, or if nothing was looked at. */
    void end() {
        System.out.println(promise + ": " + looked + " answers, " + wrong + " of them wrong");
        if (wrong != 0 || looked == 0) {
            System.exit(1);
        }
    }

    /** Empties the text and types another one, as far as it goes. */
    static void text(VineyardBlends x, String text) {
        x.clearText();
        for (int i = 0; i < text.length(); i++) {
            x.type(text.charAt(i));
        }
    }

    /** Types a text and reads it. */
    static int rules(VineyardBlends x, String text) {
        text(x, text);
        return x.read();
    }

    /** A cellar with ten lots of the same twenty grains, 6 in oak and 4 in steel: 200 grains in all. */
    static VineyardBlends fullOfGrains() {
        VineyardBlends x = new VineyardBlends();
        x.set(0, 0);
        int grain = 0;
        for (int round = 0; round < 3; round++) {
            for (int i = 0; i < 6; i++) {
                x.recipe(x.bring(100, grain % 8, 2000 + grain, grain % 10, 1000, 50), 1);
                grain++;
            }
            x.blend(600, 1);
        }
        for (int number : new int[] {6, 13, 20}) {
            x.recipe(number, 6);
        }
        for (int i = 0; i < 2; i++) {
            x.recipe(x.bring(100, grain % 8, 2000 + grain, grain % 10, 1000, 50), 1);
            grain++;
        }
        x.recipe(x.blend(2000, 1), 1);
        for (int i = 0; i < 5; i++) {
            x.blend(200, 1);
        }
        for (int i = 0; i < 4; i++) {
            x.blend(200, 0);
        }
        return x;
    }
}
