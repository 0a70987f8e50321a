/** Brings churns to where an edge is. */
final class Setup {
    private Setup() {
    }

    /** A churn without phases; its mass, temperature, smoothness and stress are checked. */
    static StoneChurn churn(int mass, int temperature, int smoothness, int stress) {
        StoneChurn x = new StoneChurn();
        if (mass > 0) {
            x.load(mass);
        }
        if (smoothness > 0) {
            bring(x, 80);
            turn(x, smoothness);
        }
        if (stress > 0) {
            bring(x, 130);
            turn(x, stress);
        }
        bring(x, temperature);
        looks(x, mass, temperature, smoothness, stress);
        return x;
    }

    static void looks(StoneChurn x, int mass, int temperature, int smoothness, int stress) {
        Due.is(mass, x.mass());
        Due.is(temperature, x.temperature());
        Due.is(smoothness, x.smoothness());
        Due.is(stress, x.stress());
    }

    /** Lets one phase take place from its beginning to its end, in a churn without phases. */
    static void phase(StoneChurn x, char kind, int minutes, int level) {
        for (int left = minutes; left > 0; left -= 30) {
            x.addPhase(kind, Math.min(30, left), level);
            x.start();
            x.run(Math.min(30, left));
            x.removePhase(0);
        }
    }

    /** From 4 to 197 degrees on: a way that no heating or cooling at level 1 divides begins with the other. */
    static void bring(StoneChurn x, int temperature) {
        int way = temperature - x.temperature();
        if (way >= 0) {
            int coolings = way % 3;
            phase(x, 'c', coolings, 1);
            phase(x, 'h', (way + 2 * coolings) / 3, 1);
        } else {
            int heatings = -way % 2;
            phase(x, 'h', heatings, 1);
            phase(x, 'c', (-way + 3 * heatings) / 2, 1);
        }
    }

    private static void turn(StoneChurn x, int sum) {
        phase(x, 't', sum / 5, 5);
        if (sum % 5 > 0) {
            phase(x, 't', 1, sum % 5);
        }
    }

    /** A cycle of phases, each as "h10:3", that is not started. */
    static void cycle(StoneChurn x, String... phases) {
        for (String phase : phases) {
            int colon = phase.indexOf(':');
            x.addPhase(phase.charAt(0), Integer.parseInt(phase.substring(1, colon)),
                    Integer.parseInt(phase.substring(colon + 1)));
        }
    }
}
