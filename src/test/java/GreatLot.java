/** A cellar with one lot alone, in oak, of 200 grains, made in 480 calls; each grain is another one. */
final class GreatLot {
    final VineyardBlends x = new VineyardBlends();
    final int number;
    private int grains = 0;

    GreatLot() {
        x.set(0, 0);
        intoRecipe(sixGrains(6, 6), 1);
        int great = x.blend(36, 1);
        int[][] steps = {{6, 6, 66}, {6, 11, 96}, {6, 16, 126}, {7, 18, 161}, {9, 18, 206}};
        for (int[] step : steps) {
            intoRecipe(sixGrains(5, step[0]), 1);
            x.recipe(great, step[1]);
            great = x.blend(step[2], 1);
        }
        intoRecipe(sixGrains(2, 103), 1);
        x.recipe(grain(103), 1);
        x.recipe(grain(103), 1);
        x.recipe(great, 2);
        number = x.blend(618, 1);
    }

    private void intoRecipe(int[] lots, int parts) {
        for (int lot : lots) {
            x.recipe(lot, parts);
        }
    }

    /** So many lots of six grains each. */
    private int[] sixGrains(int lots, int litres) {
        int[] made = new int[lots];
        for (int lot = 0; lot < lots; lot++) {
            for (int i = 0; i < 6; i++) {
                int part = litres / 6 + (i < litres % 6 ? 1 : 0);
                x.recipe(grain(part), part);
            }
            made[lot] = x.blend(litres, 1);
        }
        return made;
    }

    private int grain(int litres) {
        int lot = x.bring(litres, grains / 64, 2000 + grains % 64, grains % 10, 1000, 50);
        grains++;
        return lot;
    }
}
