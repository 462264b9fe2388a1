import java.util.ArrayList;
import java.util.List;

/** A second LitWick, written plainly from the document, to hold the first against. */
final class Model {
  static final int BAD = -1, STATE = -2, FULL = -3, NONE = -9, NO = -1000000;

  static final class Now {
    int minute;
    int[] left, where, stage, had, wax = new int[5];
    boolean[] lit, shielded, open;

    Now copy() {
      Now n = new Now();
      n.minute = minute;
      n.left = left.clone(); n.where = where.clone(); n.stage = stage.clone(); n.had = had.clone(); n.wax = wax.clone();
      n.lit = lit.clone(); n.shielded = shielded.clone(); n.open = open.clone();
      return n;
    }
  }

  static final class Kept { Now now; List<Now> past; }

  static final class Fault extends Exception {
    private static final long serialVersionUID = 1L;
    final int place;
    Fault(int place) { this.place = place; }
  }

  StringBuilder text = new StringBuilder();
  int rooms;
  List<int[]> doors = new ArrayList<>(), candles = new ArrayList<>(), acts = new ArrayList<>();
  List<Integer> wind = new ArrayList<>(), wanted = new ArrayList<>();
  Now now;
  List<Now> past = new ArrayList<>();
  Kept[] kept = new Kept[2];
  long trace;

  Model() { now = fresh(); }

  Now fresh() {
    Now n = new Now();
    int c = candles.size(), a = acts.size();
    n.left = new int[c]; n.where = new int[c]; n.lit = new boolean[c]; n.shielded = new boolean[c];
    n.stage = new int[a]; n.had = new int[a]; n.open = new boolean[doors.size()];
    for (int i = 0; i < c; i++) { n.left[i] = candles.get(i)[0]; n.where[i] = candles.get(i)[1]; }
    return n;
  }

  int type(int c) {
    if (c < 0 || c > 255) return BAD;
    if (text.length() == 200) return FULL;
    text.append((char) c);
    return text.length();
  }

  int clear() { int n = text.length(); text.setLength(0); return n; }

  // Tokens as text; a token that is none is "!", the end is "".
  int at, place;
  String token() {
    while (at < text.length() && text.charAt(at) == ' ') at++;
    place = at;
    if (at == text.length()) return "";
    String rest = text.substring(at);
    String t = rest.replaceAll("(?s)^([a-z]+|[0-9]+|;|.).*$", "$1");
    at += t.length();
    if (t.matches("[a-z]+|;|[1-9][0-9]?|0")) return t;
    return "!";
  }

  int number(int low, int high) throws Fault {
    String t = token();
    if (!t.matches("[0-9]+")) throw new Fault(place);
    int n = Integer.parseInt(t);
    if (n < low || n > high) throw new Fault(place);
    return n;
  }

  int house() {
    Model m = new Model();
    m.text = text;
    int items = 0;
    try {
      for (String t = m.token(); !t.isEmpty(); t = m.token(), items++) m.item(t);
    } catch (Fault f) {
      return -10 - f.place;
    }
    text.setLength(0);
    rooms = m.rooms; doors = m.doors; candles = m.candles; acts = m.acts; wind = m.wind;
    now = fresh(); past.clear(); kept = new Kept[2]; wanted.clear();
    return items;
  }

  void item(String t) throws Fault {
    boolean stands = t.equals("r") && rooms < 5 || t.equals("d") && doors.size() < 5 || t.equals("c") && candles.size() < 6
      || t.equals("a") && acts.size() < 6 || t.equals("w") && wind.isEmpty();
    if (!stands) throw new Fault(place);
    if (t.equals("r")) rooms++;
    if (t.equals("d")) doors.add(new int[] {number(0, rooms - 1), number(0, rooms - 1)});
    if (t.equals("c")) candles.add(new int[] {number(1, 60), number(0, rooms - 1)});
    if (t.equals("a")) {
      int[] a = {number(1, 20), number(0, 9), number(0, rooms - 1), number(0, 9)};
      if (a[3] != 9 && a[3] >= acts.size()) throw new Fault(place);
      acts.add(a);
    }
    if (t.equals("w")) {
      wind.add(number(0, 1));
      for (;;) {
        String b = token();
        if (b.equals(";")) return;
        if (!b.equals("0") && !b.equals("1") || wind.size() == 8) throw new Fault(place);
        wind.add(Integer.parseInt(b));
      }
    }
    if (!token().equals(";")) throw new Fault(place);
  }

  static int bits(boolean[] is) { int b = 0; for (int i = 0; i < is.length; i++) if (is[i]) b += 1 << i; return b; }
  static int howMany(boolean[] is) { return Integer.bitCount(bits(is)); }
  static int stages(Now n, int s) { int b = 0; for (int i = 0; i < n.stage.length; i++) if (n.stage[i] == s) b += 1 << i; return b; }
  boolean candleIs(int c) { return c >= 0 && c < candles.size(); }
  boolean actIs(int a) { return a >= 0 && a < acts.size(); }
  boolean roomIs(int r) { return r >= 0 && r < rooms; }
  boolean doorIs(int d) { return d >= 0 && d < doors.size(); }
  static boolean bitIs(int b) { return b == 0 || b == 1; }

  int candle(int c, int what) {
    if (!candleIs(c) || what < 0 || what > 4) return BAD;
    return new int[] {candles.get(c)[0], now.left[c], now.where[c], now.lit[c] ? 1 : 0, now.shielded[c] ? 1 : 0}[what];
  }

  int door(int d, int what) {
    if (!doorIs(d) || what < 0 || what > 2) return BAD;
    return what < 2 ? doors.get(d)[what] : now.open[d] ? 1 : 0;
  }

  int act(int a, int what) {
    if (!actIs(a) || what < 0 || what > 5) return BAD;
    return what < 4 ? acts.get(a)[what] : what == 4 ? now.stage[a] : now.had[a];
  }

  boolean draughty(Now n, int r) {
    for (int d = 0; d < doors.size(); d++) if (n.open[d] && (doors.get(d)[0] == r || doors.get(d)[1] == r)) return true;
    return false;
  }

  int room(int r, int what) {
    if (!roomIs(r) || what < 0 || what > 3) return BAD;
    boolean[] there = new boolean[candles.size()], litThere = new boolean[candles.size()];
    for (int c = 0; c < there.length; c++) { there[c] = now.where[c] == r; litThere[c] = there[c] && now.lit[c]; }
    return new int[] {now.wax[r], bits(there), bits(litThere), draughty(now, r) ? 1 : 0}[what];
  }

  void done() { past.add(now.copy()); if (past.size() > 10) past.remove(0); }

  int lights(int c, int is) {
    if (!candleIs(c) || !bitIs(is)) return BAD;
    if (now.lit[c] == (is == 1) || is == 1 && now.left[c] == 0) return STATE;
    done();
    now.lit[c] = is == 1;
    return howMany(now.lit);
  }

  int carries(int c, int r) {
    if (!candleIs(c) || !roomIs(r)) return BAD;
    int from = now.where[c];
    boolean way = false;
    for (int d = 0; d < doors.size(); d++) {
      int[] s = doors.get(d);
      if (now.open[d] && (s[0] == from && s[1] == r || s[1] == from && s[0] == r)) way = true;
    }
    if (from == r || !way) return STATE;
    done();
    now.where[c] = r;
    return from;
  }

  int shields(int c, int is) {
    if (!candleIs(c) || !bitIs(is)) return BAD;
    if (now.shielded[c] == (is == 1)) return STATE;
    done();
    now.shielded[c] = is == 1;
    return howMany(now.shielded);
  }

  int opens(int d, int is) {
    if (!doorIs(d) || !bitIs(is)) return BAD;
    if (now.open[d] == (is == 1)) return STATE;
    done();
    now.open[d] = is == 1;
    return howMany(now.open);
  }

  int begins(int a) {
    if (!actIs(a)) return BAD;
    if (now.stage[a] != 0) return STATE;
    done();
    now.stage[a] = 1;
    return Integer.bitCount(stages(now, 1));
  }

  boolean blows(Now n) { return !wind.isEmpty() && wind.get(n.minute % wind.size()) == 1; }

  void minute(Now n, boolean blows) {
    if (blows) for (int c = 0; c < candles.size(); c++) if (!n.shielded[c] && draughty(n, n.where[c])) n.lit[c] = false;
    for (int a = 0; a < acts.size(); a++) {
      if (n.stage[a] != 1) continue;
      boolean light = false;
      for (int c = 0; c < candles.size(); c++) light |= n.lit[c] && n.where[c] == acts.get(a)[2];
      if (!light) { n.stage[a] = 3; continue; }
      n.had[a]++;
      int on = acts.get(a)[3];
      if (n.had[a] == acts.get(a)[0]) n.stage[a] = on == 9 || n.stage[on] == 2 ? 2 : 3;
    }
    for (int c = 0; c < candles.size(); c++) {
      if (!n.lit[c]) continue;
      n.left[c]--;
      n.wax[n.where[c]]++;
      if (n.left[c] == 0) n.lit[c] = false;
    }
    n.minute++;
  }

  int minutes(int n) {
    if (n < 1 || n > 60) return BAD;
    if (now.minute + n >= 1000) return STATE;
    int before = Integer.bitCount(stages(now, 3));
    for (int i = 0; i < n; i++) { done(); minute(now, blows(now)); }
    return Integer.bitCount(stages(now, 3)) - before;
  }

  int undo() {
    if (past.isEmpty()) return STATE;
    now = past.remove(past.size() - 1).copy();
    return past.size();
  }

  int now(int what) {
    if (what < 0 || what > 6) return BAD;
    int worth = 0;
    for (int a = 0; a < acts.size(); a++) if (now.stage[a] == 2) worth += acts.get(a)[1];
    return new int[] {now.minute, blows(now) ? 1 : 0, bits(now.lit), bits(now.open), stages(now, 2), stages(now, 3), worth}[what];
  }

  int comes(int a, int n) {
    if (!actIs(a) || n < 0 || n > 60) return BAD;
    Now t = now.copy();
    for (int i = 0; i < n; i++) minute(t, blows(t));
    return t.stage[a];
  }

  int first(int what) {
    if (!bitIs(what)) return BAD;
    for (int n = 1; n <= 60; n++)
      for (int a = 0; a < acts.size(); a++) if (now.stage[a] != 3 && comes(a, n) == 3) return what == 0 ? a : n;
    return NONE;
  }

  int bestActs(int t, int what) {
    if (t < 0 || t > 99 || !bitIs(what)) return BAD;
    int[] best = null;
    for (int s = (1 << acts.size()) - 1; s >= 0; s--) {
      int needs = 0, worth = 0, set = 0;
      boolean can = true;
      for (int a = 0; a < acts.size(); a++) {
        if ((s & 1 << a) == 0) continue;
        int on = acts.get(a)[3];
        if (now.stage[a] == 3 || on != 9 && (s & 1 << on) == 0) can = false;
        if (now.stage[a] == 2) continue;
        needs += acts.get(a)[0];
        worth += acts.get(a)[1];
        set |= 1 << a;
      }
      int[] way = {-worth, needs, set};
      if (can && needs <= t && (best == null || java.util.Arrays.compare(way, best) < 0)) best = way;
    }
    return what == 0 ? best[2] : -best[0];
  }

  boolean wholeInTheEnd(Now n, int a, int gusts, int told) {
    Now t = n.copy();
    if (t.stage[a] == 0) t.stage[a] = 1;
    for (int i = 0; i < 60; i++) minute(t, i < told ? (gusts & 1 << i) != 0 : blows(t));
    return t.stage[a] == 2;
  }

  int doorsThat(int a, boolean opened) {
    if (!actIs(a)) return BAD;
    if (now.stage[a] >= 2) return STATE;
    int best = NONE;
    for (int s = 0; s < 1 << doors.size(); s++) {
      Now t = now.copy();
      boolean fits = true;
      for (int d = 0; d < doors.size(); d++) {
        if ((s & 1 << d) == 0) continue;
        if (t.open[d] == opened) fits = false;
        t.open[d] = opened;
      }
      if (!fits || wholeInTheEnd(t, a, 0, 0) == opened) continue;
      if (best == NONE || Integer.bitCount(s) < Integer.bitCount(best)) best = s;
    }
    return best;
  }

  int plot(int a) { return doorsThat(a, true); }
  int guard(int a) { return doorsThat(a, false); }

  int falls(int a) {
    if (!actIs(a)) return BAD;
    int set = 0;
    for (int b = 0; b < acts.size(); b++) {
      for (int on = b; on != 9; on = acts.get(on)[3]) if (on == a) set |= 1 << b;
    }
    return set;
  }

  int wants(int length) {
    if (length < 1 || length > 60) return BAD;
    if (wanted.size() == 6) return FULL;
    wanted.add(length);
    return wanted.size();
  }

  int forget() { int n = wanted.size(); wanted.clear(); return n; }

  int cut(int i) {
    int k = wanted.size(), n = candles.size();
    if (i < -2 || i >= k) return BAD;
    int[] best = null;
    int ways = 1;
    for (int p = 0; p < k; p++) ways *= n;
    for (int w = 0; w < ways; w++) {
      int[] got = new int[n];
      int[] way = new int[k + 2];
      // The first piece is the highest digit: ways come in their order.
      for (int p = k - 1, v = w; p >= 0; p--, v /= n) { way[p + 2] = v % n; got[v % n] += wanted.get(p); }
      boolean can = true;
      for (int c = 0; c < n; c++) {
        if (got[c] == 0) continue;
        if (now.lit[c] || got[c] > now.left[c]) { can = false; break; }
        way[0]++;
        way[1] += now.left[c] - got[c];
      }
      if (can && (best == null || java.util.Arrays.compare(way, best) < 0)) best = way;
    }
    if (best == null) return NONE;
    return i == -1 ? best[0] : i == -2 ? best[1] : best[i + 2];
  }

  int shown(int r, int what) {
    if (!roomIs(r) || !bitIs(what)) return BAD;
    List<Integer> sets = new ArrayList<>();
    for (int s = 0; s < 1 << candles.size(); s++) {
      int sum = 0;
      for (int c = 0; c < candles.size(); c++) if ((s & 1 << c) != 0) sum += candles.get(c)[0] - now.left[c];
      if (sum == now.wax[r]) sets.add(s);
    }
    return what == 0 ? sets.size() : sets.isEmpty() ? NONE : sets.get(0);
  }

  int odds(int a, int x, int n, int what) {
    if (!actIs(a) || x < 0 || x > 10 || n < 0 || n > 6 || !bitIs(what)) return BAD;
    if (now.stage[a] >= 2) return STATE;
    long up = 0, low = 1;
    for (int i = 0; i < n; i++) low *= 10;
    for (int g = 0; g < 1 << n; g++) {
      long weight = 1;
      for (int i = 0; i < n; i++) weight *= (g & 1 << i) != 0 ? x : 10 - x;
      if (wholeInTheEnd(now, a, g, n)) up += weight;
    }
    long common = java.math.BigInteger.valueOf(up).gcd(java.math.BigInteger.valueOf(low)).longValue();
    return (int) ((what == 0 ? up : low) / common);
  }

  int mark(int kind, int c) {
    if (kind < 0 || kind > 5 || !candleIs(c)) return NO;
    int[] above = {-1, 0, 0, 1, 2, 0};
    int[] brackets = {1, 10, 100, 1000, 10000, 100000};
    trace += brackets[kind];
    int up = kind == 0 ? now.left[c] : mark(above[kind], c);
    if (kind == 1) up += candles.get(c)[0];
    if (kind == 2) up -= now.where[c];
    if (kind == 3) up *= 2;
    if (kind == 4) up += howMany(now.lit);
    if (kind == 5) up += now.minute;
    return up;
  }

  int keep(int image) {
    if (!bitIs(image)) return BAD;
    Kept k = new Kept();
    k.now = now.copy();
    k.past = new ArrayList<>(past);
    kept[image] = k;
    return now.minute;
  }

  int back(int image) {
    if (!bitIs(image)) return BAD;
    if (kept[image] == null) return STATE;
    now = kept[image].now.copy();
    past.clear();
    for (Now p : kept[image].past) past.add(p.copy());
    return now.minute;
  }

  int count(int what) {
    if (what < 0 || what > 7) return BAD;
    return new int[] {rooms, doors.size(), candles.size(), acts.size(), wind.size(), wanted.size(), past.size(), text.length()}[what];
  }
}
