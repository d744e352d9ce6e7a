/** Brings texts and rows of bytes onto the TAPE. */
final class Texts {
    /** Twenty bytes of a text from a place on, blanks behind its end, as feed() takes them. */
    static int[] fives(String text, int from) {
        int[] five = new int[5];
        for (int k = 0; k < 20; k++) {
            int c = from + k < text.length() ? text.charAt(from + k) & 255 : 32;
            five[k / 4] = five[k / 4] << 8 | c;
        }
        return five;
    }

    /** The text becomes the whole TAPE: how many bytes it has. */
    static int put(KeyKeepers x, String text) {
        x.end(0);
        for (int i = 0; i < text.length(); i += 20) {
            int[] five = fives(text, i);
            x.feed(five[0], five[1], five[2], five[3], five[4]);
        }
        return x.end(text.length());
    }

    static int law(KeyKeepers x, String text) {
        put(x, text);
        return x.law();
    }

    static int orders(KeyKeepers x, String text) {
        put(x, text);
        return x.orders();
    }

    static int row(KeyKeepers x, String bytes) {
        put(x, bytes);
        return x.row();
    }

    static String many(String what, int n) {
        return what.repeat(Math.max(0, n));
    }

    /** A prison with this law in force and PRISONERS 0 .. 2 of YEARS 10, 20, 30 and WANT 4, 5, 6. */
    static KeyKeepers under(String law) {
        KeyKeepers x = new KeyKeepers();
        for (int p = 0; p < 3; p++) x.prisoner(10 * (p + 1), 4 + p, 1);
        x.force(law(x, law));
        return x;
    }

    /** PLACES 0 - 1 - 2 - .. by DOORS 0, 1, .. and nobody. */
    static KeyKeepers corridor(int doors) {
        KeyKeepers x = new KeyKeepers();
        for (int d = 0; d < doors; d++) x.door(d, d + 1);
        return x;
    }

    /** So many PRISONERS of YEARS 9 and WANT 4 in a PLACE. */
    static KeyKeepers crowd(int many, int place) {
        KeyKeepers x = new KeyKeepers();
        for (int p = 0; p < many; p++) x.prisoner(9, 4, place);
        return x;
    }

    /** DOORS 0 - 1 - 2; PRISONERS 0, 1 in PLACE 1, 2 in PLACE 2; 0 has both KEYS and TRUSTS 1. */
    static KeyKeepers yard() {
        KeyKeepers x = corridor(2);
        x.prisoner(10, 4, 1);
        x.prisoner(20, 5, 1);
        x.prisoner(30, 6, 2);
        x.key(0, 0, 1);
        x.key(0, 1, 1);
        x.trust(0, 1, 1);
        return x;
    }

    /** Eight PRISONERS inside who have 99,984 BREADS, by 6,249 inspections. */
    static KeyKeepers nearlyAllBread() {
        KeyKeepers x = crowd(8, 1);
        String all = many("inspect times 20;", 11) + "inspect times 20";
        for (int i = 0; i < 26; i++) orders(x, all);
        for (int i = 0; i < 9; i++) x.inspect();
        return x;
    }
}
