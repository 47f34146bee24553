/** Promises 17, 22, 23 and 24: SHIPS, what became of them, and how many. */
public final class ShipsTest {
    private static final long BAD = -102;
    private static final long FULL = -106;

    public static void main(String[] args) {
        promise17Ship();
        promise17Full();
        promise22ShipOf();
        promise22WhatTheyLack();
        promise23ShipAt();
        promise24Many();
        Check.end();
    }

    private static void promise17Ship() {
        KeptLight light = new KeptLight();
        Check.due("ship(3, 0)", light.ship(3, 0), 0);
        Check.due("ship(7, 999)", light.ship(7, 999), 1);
        for (int kind : new int[] {-1, 0, 1, 2, 8}) {
            Check.due("ship(" + kind + ", 5)", light.ship(kind, 5), BAD);
        }
        Check.due("ship(3, -1)", light.ship(3, -1), BAD);
        Check.due("ship(3, 1000)", light.ship(3, 1000), BAD);
        light.pass(10);
        Check.due("ship(3, 9)", light.ship(3, 9), BAD);
        Check.due("ship(3, 1010)", light.ship(3, 1010), BAD);
        Check.due("ship(3, 10)", light.ship(3, 10), 2);
        Check.due("ship(3, 1009)", light.ship(3, 1009), 3);
        Check.due("status(6)", light.status(6), 4);
        Check.due("status(12)", light.status(12), 9);
    }

    private static void promise17Full() {
        KeptLight light = new KeptLight();
        for (int ship = 0; ship < 200; ship++) {
            Check.due("ship " + ship, light.ship(3 + ship % 5, 999 - ship), ship);
        }
        Check.due("ship(2, 5), full", light.ship(2, 5), BAD);
        Check.due("ship(3, 5), full", light.ship(3, 5), FULL);
        Check.due("status(6)", light.status(6), 200);
        Check.due("status(16)", light.status(16), 1);
        Check.due("shipAt(800, 0)", light.shipAt(800, 0), 199);
        Check.due("shipAt(999, 0)", light.shipAt(999, 0), 0);
    }

    private static void promise22ShipOf() {
        KeptLight light = new KeptLight();
        Check.due("shipOf(0, 0), none", light.shipOf(0, 0), BAD);
        light.ship(4, 7);
        Check.due("shipOf(0, 0)", light.shipOf(0, 0), 4);
        Check.due("shipOf(0, 1)", light.shipOf(0, 1), 7);
        Check.due("shipOf(0, 2)", light.shipOf(0, 2), -1);
        Check.due("shipOf(0, 3)", light.shipOf(0, 3), -1);
        light.pass(7);
        Check.due("shipOf(0, 2), its hour is now", light.shipOf(0, 2), -1);
        light.pass(1);
        Check.due("shipOf(0, 2), passed", light.shipOf(0, 2), 0);
        Check.due("shipOf(0, 3), passed", light.shipOf(0, 3), 0);
        Check.due("shipOf(1, 0)", light.shipOf(1, 0), BAD);
        Check.due("shipOf(-1, 0)", light.shipOf(-1, 0), BAD);
        Check.due("shipOf(0, -1)", light.shipOf(0, -1), BAD);
        Check.due("shipOf(0, 4)", light.shipOf(0, 4), BAD);
        Check.due("status(12)", light.status(12), 5);
    }

    /** One ship of each kind in one hour, under each of the conditions that the document tells apart. */
    private static void promise22WhatTheyLack() {
        //                dark, sky, keeper, oil, coal; met; FISHER, PILOT, COASTER, LINER, MAIL
        int[][] cases = {
            {0, 'c', 0, 9, 9, 0, 0, 0, 0, 0, 0},
            {1, 'c', 1, 9, 9, 1, 0, 0, 0, 0, 0},
            {1, 'c', 0, 9, 9, 0, 1, 0, 1, 1, 1},
            {0, 'f', 0, 9, 9, 0, 0, 1, 1, 1, 1},
            {0, 'f', 1, 9, 9, 2, 0, 0, 0, 0, 0},
            {0, 'f', 1, 9, 0, 0, 0, 1, 1, 1, 1},
            {1, 'f', 1, 9, 9, 3, 0, 0, 0, 0, 0},
            {1, 'f', 1, 9, 0, 1, 0, 1, 1, 1, 1},
            {1, 'f', 0, 9, 9, 0, 1, 1, 2, 2, 2},
            {1, 'f', 1, 0, 9, 2, 1, 0, 1, 1, 1},
            {0, 's', 1, 9, 9, 0, 1, 1, 0, 0, 2},
            {1, 's', 1, 9, 9, 1, 1, 1, 0, 0, 0},
            {1, 's', 0, 9, 9, 0, 2, 1, 2, 2, 2},
        };
        for (int[] c : cases) {
            KeptLight light = new KeptLight();
            light.keeper(0);
            light.tell(0, c[0] == 1 ? 6 : 0);
            Check.sky(light, (char) c[1] + "9");
            light.plan(0, c[2] == 1 ? 0 : -1);
            light.tell(3, c[3]);
            light.tell(4, c[4]);
            for (int kind = 3; kind <= 7; kind++) {
                light.ship(kind, 0);
            }
            light.pass(1);
            for (int ship = 0; ship < 5; ship++) {
                String call = "shipOf(" + ship + ", 2), dark " + c[0] + ", " + (char) c[1] + ", met " + c[5];
                Check.due(call, light.shipOf(ship, 2), c[6 + ship]);
                Check.due(call + ": 3", light.shipOf(ship, 3), c[5]);
            }
        }
    }

    private static void promise23ShipAt() {
        KeptLight light = new KeptLight();
        int[] kinds = {3, 7, 5, 3, 6, 5, 4, 7};
        int[] hours = {9, 9, 9, 8, 9, 9, 10, 9};
        for (int ship = 0; ship < kinds.length; ship++) {
            light.ship(kinds[ship], hours[ship]);
        }
        int[] atNine = {1, 7, 4, 2, 5, 0, -1};
        for (int i = 0; i < atNine.length; i++) {
            Check.due("shipAt(9, " + i + ")", light.shipAt(9, i), atNine[i]);
        }
        Check.due("shipAt(8, 0)", light.shipAt(8, 0), 3);
        Check.due("shipAt(0, 0)", light.shipAt(0, 0), -1);
        Check.due("shipAt(8, 1)", light.shipAt(8, 1), -1);
        Check.due("shipAt(10, 0)", light.shipAt(10, 0), 6);
        Check.due("shipAt(10, 1)", light.shipAt(10, 1), -1);
        Check.due("shipAt(7, 0)", light.shipAt(7, 0), -1);
        Check.due("shipAt(11, 0)", light.shipAt(11, 0), -1);
        Check.due("shipAt(9, -1)", light.shipAt(9, -1), -1);
        Check.due("shipAt(10, -1)", light.shipAt(10, -1), -1);
        Check.due("shipAt(9, MAX)", light.shipAt(9, Integer.MAX_VALUE), -1);
        Check.due("shipAt(9, MIN)", light.shipAt(9, Integer.MIN_VALUE), -1);
        Check.due("shipAt(MAX, 0)", light.shipAt(Integer.MAX_VALUE, 0), -1);
        Check.due("refusals", Check.refusals(light), 0);
        Check.due("shipAt(-1, 0)", light.shipAt(-1, 0), BAD);
        light.pass(20);
        Check.due("shipAt(9, 1), passed", light.shipAt(9, 1), 7);
        Check.due("status(12)", light.status(12), 1);
    }

    private static void promise24Many() {
        KeptLight light = new KeptLight();
        // Dark fog untended: SMALL miss, GREAT are wrecked; by day in the clear all are safe.
        Check.sky(light, "f6 c99");
        for (int kind = 3; kind <= 7; kind++) {
            for (int n = 2; n < kind; n++) {
                light.ship(kind, 0);
            }
            light.ship(kind, 9);
            light.ship(kind, 90);
        }
        Check.due("many(0, 0) ahead", light.many(0, 0), 0);
        light.pass(24);
        long[][] many = {{5, 3, 12}, {2, 3, 0}, {3, 0, 12}, {1, 1, 0}, {1, 2, 0}, {1, 0, 3}, {2, 0, 9}, {1, 0, 5}};
        for (int kind = 0; kind <= 7; kind++) {
            for (int what = 0; what <= 2; what++) {
                Check.due("many(" + kind + ", " + what + ")", light.many(kind, what), many[kind][what]);
            }
        }
        Check.due("many(-1, 0)", light.many(-1, 0), BAD);
        Check.due("many(8, 0)", light.many(8, 0), BAD);
        Check.due("many(0, -1)", light.many(0, -1), BAD);
        Check.due("many(0, 3)", light.many(0, 3), BAD);
        Check.due("status(12)", light.status(12), 4);
    }
}
