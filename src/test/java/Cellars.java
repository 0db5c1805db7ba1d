/** Cellars that several tests begin with. */
final class Cellars {
    private Cellars() {
    }

    /** So many lots of 10 litres in steel, of the origins 0, 1, 2, and so on; nothing is lost by blending. */
    static VineyardBlends withLots(int lots) {
        VineyardBlends x = new VineyardBlends();
        x.set(0, 0);
        for (int i = 0; i < lots; i++) {
            x.bring(10, i, 2000 + i, i, 1000, 50);
        }
        return x;
    }

    /** Lot 0 alone, of 100 litres; lot 1 is gone, and no lot 2 has come. */
    static VineyardBlends withLotGone() {
        VineyardBlends x = new VineyardBlends();
        x.bring(100, 1, 2020, 3, 1200, 60);
        x.bring(50, 2, 2021, 4, 1000, 80);
        x.bottle(1, 50, 100);
        return x;
    }

    /** Twelve lots of 10 litres: 0 to 5 in oak, 6 to 11 in steel. */
    static VineyardBlends fullOfLots() {
        VineyardBlends x = withLots(6);
        for (int i = 0; i < 6; i++) {
            x.move(i, 1);
            x.bring(10, i, 2010 + i, i, 1000, 50);
        }
        return x;
    }

    /** A lot with the next number, in oak, blended from single litres of grains of the years 2000, 2001, and so on. */
    static int blendOfGrains(VineyardBlends x, int origin, int grains) {
        for (int i = 0; i < grains; i++) {
            x.recipe(x.bring(1, origin, 2000 + i, 0, 1000, 50), 1);
        }
        return x.blend(grains, 1);
    }

    /** Ten lots, 23 to 32, of 10 litres of each of the same twenty grains; 23 to 28 are in oak, 29 to 32 in steel. */
    static VineyardBlends fullOfGrains() {
        VineyardBlends x = new VineyardBlends();
        x.set(0, 0);
        int grain = 0;
        for (int round = 0; round < 3; round++) {
            for (int i = 0; i < 6; i++) {
                x.recipe(x.bring(100, grain % 8, 2000 + grain, grain % 10, 1000, 50), 1);
                grain++;
            }
            x.blend(600, 1);
        }
        for (int number : new int[] {6, 13, 20}) {
            x.recipe(number, 6);
        }
        for (int i = 0; i < 2; i++) {
            x.recipe(x.bring(100, grain % 8, 2000 + grain, grain % 10, 1000, 50), 1);
            grain++;
        }
        x.recipe(x.blend(2000, 1), 1);
        for (int i = 0; i < 5; i++) {
            x.blend(200, 1);
        }
        for (int i = 0; i < 4; i++) {
            x.blend(200, 0);
        }
        x.recipe(23, 0);
        return x;
    }

    /** Lots 0 and 1 in steel, lot 2 in oak that is blended from them; scores, two rules, a text, and a full history. */
    static VineyardBlends rich() {
        VineyardBlends x = new VineyardBlends();
        x.set(0, 50);
        x.bring(400, 1, 2020, 3, 1200, 60);
        x.bring(300, 2, 2021, 4, 1000, 80);
        x.sweeten(1, 40);
        x.recipe(0, 3);
        x.recipe(1, 2);
        x.blend(200, 1);
        x.score(0, 0, 100);
        x.score(0, 5, 180);
        x.score(2, 1, 90);
        x.bottle(0, 11, 75);
        x.set(2, 20);
        x.months(2);
        rules(x, "sugar most 400;origin 2 most 99;");
        text(x, "acid most 90;");
        x.recipe(2, 1);
        return x;
    }

    /** Empties the text and types another one, as far as it goes. */
    static void text(VineyardBlends x, String text) {
        x.clearText();
        for (int i = 0; i < text.length(); i++) {
            x.type(text.charAt(i));
        }
    }

    /** Types a text and reads it. */
    static int rules(VineyardBlends x, String text) {
        text(x, text);
        return x.read();
    }
}
