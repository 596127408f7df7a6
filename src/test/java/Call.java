import java.util.function.ToIntFunction;

/** A call with its name, so that a run of calls can be told, played again and compared. */
record Call(String name, ToIntFunction<ThirdSheets> on) {
    static Call piece() {
        return new Call("piece()", ThirdSheets::piece);
    }

    static Call glue(int p, int f, int q, int g, int map) {
        return new Call("glue(" + p + ", " + f + ", " + q + ", " + g + ", " + map + ")", x -> x.glue(p, f, q, g, map));
    }

    static Call open(int p, int f) {
        return new Call("open(" + p + ", " + f + ")", x -> x.open(p, f));
    }

    static Call clear() {
        return new Call("clear()", ThirdSheets::clear);
    }

    static Call across(int p, int f, int what) {
        return new Call("across(" + p + ", " + f + ", " + what + ")", x -> x.across(p, f, what));
    }

    static Call classOf(int way, int p, int c) {
        return new Call("classOf(" + way + ", " + p + ", " + c + ")", x -> x.classOf(way, p, c));
    }

    static Call bent(int k) {
        return new Call("bent(" + k + ")", x -> x.bent(k));
    }

    static Call link(int k) {
        return new Call("link(" + k + ")", x -> x.link(k));
    }

    static Call count(int what) {
        return new Call("count(" + what + ")", x -> x.count(what));
    }

    static Call holes(int i) {
        return new Call("holes(" + i + ")", x -> x.holes(i));
    }

    static Call least() {
        return new Call("least()", ThirdSheets::least);
    }

    static Call number(int k, int i) {
        return new Call("number(" + k + ", " + i + ")", x -> x.number(k, i));
    }

    static Call put(int i, int v) {
        return new Call("put(" + i + ", " + v + ")", x -> x.put(i, v));
    }

    static Call add(int k, int n) {
        return new Call("add(" + k + ", " + n + ")", x -> x.add(k, n));
    }

    static Call drop() {
        return new Call("drop()", ThirdSheets::drop);
    }

    static Call legal() {
        return new Call("legal()", ThirdSheets::legal);
    }

    static Call euler() {
        return new Call("euler()", ThirdSheets::euler);
    }

    static Call parts() {
        return new Call("parts()", ThirdSheets::parts);
    }

    static Call part(int k, int what) {
        return new Call("part(" + k + ", " + what + ")", x -> x.part(k, what));
    }
}
