/-! cut: what is asked, over numbers -/
def fo {α : Type} (f : Nat → α → α) : Nat → α → α
  | 0, s => s
  | n + 1, s => f n (fo f n s)
theorem fo_id {α : Type} {f : Nat → α → α} {s : α} : ∀ {n : Nat}, (∀ i, i < n → f i s = s) → fo f n s = s
  | 0, _ => rfl
  | n + 1, h => by
    show f n (fo f n s) = s
    rw [fo_id (fun i hi => h i (by omega))]
    exact h n (by omega)
theorem fo_ext {α : Type} {f g : Nat → α → α} {s : α} : ∀ {n : Nat}, (∀ i s, i < n → f i s = g i s) → fo f n s = fo g n s
  | 0, _ => rfl
  | n + 1, h => by
    show f n (fo f n s) = g n (fo g n s)
    rw [fo_ext (n := n) (fun i s hi => h i s (by omega)), h n _ (by omega)]
theorem fo_add {α : Type} (f : Nat → α → α) (s : α) (a : Nat) : ∀ b, fo f (a + b) s = fo (fun i => f (a + i)) b (fo f a s)
  | 0 => rfl
  | b + 1 => by
    show f (a + b) (fo f (a + b) s) = f (a + b) (fo (fun i => f (a + i)) b (fo f a s))
    rw [fo_add f s a b]
theorem fo_mul {α : Type} (f : Nat → α → α) (m : Nat) (s : α) : ∀ n, fo f (n * m) s = fo (fun c => fo (fun i => f (c * m + i)) m) n s
  | 0 => by rw [Nat.zero_mul]; rfl
  | n + 1 => by
    rw [Nat.succ_mul, fo_add, fo_mul f m s n]
    rfl
def dg (nc p a k : Nat) : Nat := if k < p then (a / nc ^ (p - 1 - k)) % nc else 0
theorem dg_next {nc p a c : Nat} (hc : c < nc) (k : Nat) : dg nc (p + 1) (a * nc + c) k = if k = p then c else dg nc p a k := by
  unfold dg
  by_cases e : k = p
  · subst e
    rw [if_pos (by omega), if_pos rfl, show k + 1 - 1 - k = 0 by omega, Nat.pow_zero, Nat.div_one, Nat.mul_comm, Nat.mul_add_mod, Nat.mod_eq_of_lt hc]
  · rw [if_neg e]
    by_cases d : k < p
    · rw [if_pos (by omega), if_pos d, show p + 1 - 1 - k = (p - 1 - k) + 1 by omega, Nat.pow_succ, Nat.mul_comm (nc ^ (p - 1 - k)), ← Nat.div_div_eq_div_mul]
      have : (a * nc + c) / nc = a := by
        rw [Nat.mul_comm, Nat.mul_add_div (by omega), Nat.div_eq_of_lt hc, Nat.add_zero]
      rw [this]
    · rw [if_neg (by omega), if_neg d]
theorem dg_lt {nc p a k : Nat} (hn : 0 < nc) : dg nc p a k < nc := by
  unfold dg
  split
  · exact Nat.mod_lt _ hn
  · exact hn
theorem dg_pre {nc p q a i k : Nat} (hi : i < nc ^ q) (hk : k < p) : dg nc (p + q) (a * nc ^ q + i) k = dg nc p a k := by
  unfold dg
  rw [if_pos (by omega), if_pos hk, show p + q - 1 - k = q + (p - 1 - k) by omega, Nat.pow_add, ← Nat.div_div_eq_div_mul]
  have : (a * nc ^ q + i) / nc ^ q = a := by
    rw [Nat.mul_comm, Nat.mul_add_div (by omega), Nat.div_eq_of_lt hi, Nat.add_zero]
  rw [this]
def px (L d : Nat → Nat) : Nat → Nat → Nat
  | 0, _ => 0
  | j + 1, c => px L d j c + (if d j = c then L j else 0)
def ub (d : Nat → Nat) : Nat → Nat → Bool
  | 0, _ => false
  | j + 1, c => ub d j c || decide (d j = c)
theorem px_ext {L d e : Nat → Nat} {c : Nat} : ∀ {j : Nat}, (∀ k, k < j → d k = e k) → px L d j c = px L e j c
  | 0, _ => rfl
  | j + 1, h => by unfold px; rw [px_ext (fun k hk => h k (by omega)), h j (by omega)]
theorem ub_ext {d e : Nat → Nat} {c : Nat} : ∀ {j : Nat}, (∀ k, k < j → d k = e k) → ub d j c = ub e j c
  | 0, _ => rfl
  | j + 1, h => by unfold ub; rw [ub_ext (fun k hk => h k (by omega)), h j (by omega)]
theorem px_mono {L d : Nat → Nat} {c p : Nat} : ∀ {w : Nat}, p ≤ w → px L d p c ≤ px L d w c
  | 0, h => by rw [show p = 0 by omega]; exact Nat.le_refl _
  | w + 1, h => by
    by_cases e : p = w + 1
    · rw [e]; exact Nat.le_refl _
    · have := px_mono (L := L) (d := d) (c := c) (p := p) (w := w) (by omega)
      show _ ≤ px L d w c + _
      omega
theorem ub_mono {d : Nat → Nat} {c p : Nat} (hb : ub d p c = true) : ∀ {w : Nat}, p ≤ w → ub d w c = true
  | 0, h => by rw [show p = 0 by omega] at hb; exact hb
  | w + 1, h => by
    by_cases e : p = w + 1
    · rw [← e]; exact hb
    · unfold ub; rw [ub_mono hb (w := w) (by omega), Bool.true_or]
theorem px_no {L d : Nat → Nat} {c : Nat} : ∀ {j : Nat}, ub d j c = false → px L d j c = 0
  | 0, _ => rfl
  | j + 1, h => by
    unfold ub at h
    rw [Bool.or_eq_false_iff] at h
    unfold px
    rw [px_no h.1, if_neg (of_decide_eq_false h.2)]
def sn (p : Nat → Bool) (f : Nat → Nat) : Nat → Nat
  | 0 => 0
  | n + 1 => sn p f n + (if p n then f n else 0)
theorem sn_mono {p q : Nat → Bool} {f : Nat → Nat} : ∀ {n : Nat}, (∀ j, j < n → p j = true → q j = true) → sn p f n ≤ sn q f n
  | 0, _ => Nat.le_refl _
  | n + 1, h => by
    have ih := sn_mono (f := f) (n := n) (fun j hj => h j (by omega))
    have hn := h n (by omega)
    unfold sn
    cases hp : p n
    · rw [if_neg (by decide)]; omega
    · rw [if_pos rfl, if_pos (hn hp)]; omega
theorem sn_ext {p q : Nat → Bool} {f g : Nat → Nat} : ∀ {n : Nat}, (∀ j, j < n → p j = q j ∧ (p j = true → f j = g j)) → sn p f n = sn q g n
  | 0, _ => rfl
  | n + 1, h => by
    unfold sn
    rw [sn_ext (n := n) (fun j hj => h j (by omega)), (h n (by omega)).1]
    cases hq : q n
    · rw [if_neg (by decide), if_neg (by decide)]
    · rw [if_pos rfl, if_pos rfl, (h n (by omega)).2 (by rw [(h n (by omega)).1]; exact hq)]
theorem sn_add1 {p : Nat → Bool} {f : Nat → Nat} {c : Nat} : ∀ {n : Nat}, c < n → sn (fun j => p j || decide (c = j)) f n = sn p f n + (if p c then 0 else f c)
  | 0, h => absurd h (by omega)
  | n + 1, h => by
    unfold sn
    by_cases e : c = n
    · subst e
      have : sn (fun j => p j || decide (c = j)) f c = sn p f c := sn_ext (fun j hj => ⟨by rw [decide_eq_false (by omega), Bool.or_false], fun _ => rfl⟩)
      rw [this, decide_eq_true rfl, Bool.or_true, if_pos rfl]
      cases p c
      · rw [if_neg (by decide), if_neg (by decide)]; omega
      · rw [if_pos rfl, if_pos rfl, Nat.add_zero]
    · have ih := sn_add1 (p := p) (f := f) (c := c) (n := n) (by omega)
      rw [ih, decide_eq_false e, Bool.or_false]
      omega
theorem sn_le {p : Nat → Bool} {f : Nat → Nat} {B : Nat} : ∀ {n : Nat}, (∀ j, j < n → f j ≤ B) → sn p f n ≤ n * B
  | 0, _ => Nat.zero_le _
  | n + 1, h => by
    have ih := sn_le (p := p) (n := n) (fun j hj => h j (by omega))
    have := h n (by omega)
    rw [Nat.succ_mul]
    unfold sn
    split <;> omega
def mkd (d : Nat → Nat) (j : Nat) : Nat := mk_ (ub d j) 6
def stk (S d : Nat → Nat) (j : Nat) : Nat := sn (ub d j) S 6
def bt (m t : Nat) (st : Nat × Nat × (Nat → Nat)) : Prop := pop_ m < st.1 ∨ (pop_ m = st.1 ∧ t < st.2.1)
def fea (nc : Nat) (L S : Nat → Nat) (w : Nat) (d : Nat → Nat) : Prop := ∀ c, c < nc → px L d w c ≤ S c
noncomputable def U_ (nc : Nat) (L S : Nat → Nat) (w R : Nat) (st : Nat × Nat × (Nat → Nat)) : Nat × Nat × (Nat → Nat) := by
  classical
  exact if fea nc L S w (dg nc w R) ∧ bt (mkd (dg nc w R) w) (stk S (dg nc w R) w) st then (pop_ (mkd (dg nc w R) w), stk S (dg nc w R) w, dg nc w R) else st
theorem U_yes {nc w R : Nat} {L S : Nat → Nat} {st : Nat × Nat × (Nat → Nat)} (h : fea nc L S w (dg nc w R) ∧ bt (mkd (dg nc w R) w) (stk S (dg nc w R) w) st) : U_ nc L S w R st = (pop_ (mkd (dg nc w R) w), stk S (dg nc w R) w, dg nc w R) := if_pos h
theorem U_no {nc w R : Nat} {L S : Nat → Nat} {st : Nat × Nat × (Nat → Nat)} (h : ¬ (fea nc L S w (dg nc w R) ∧ bt (mkd (dg nc w R) w) (stk S (dg nc w R) w) st)) : U_ nc L S w R st = st := if_neg h
noncomputable def FB (nc : Nat) (L S : Nat → Nat) (w : Nat) : Nat → Nat → (Nat × Nat × (Nat → Nat)) → (Nat × Nat × (Nat → Nat))
  | 0, a, st => U_ nc L S w a st
  | q + 1, a, st => fo (fun c => FB nc L S w q (a * nc + c)) nc st
theorem FB_rows {nc w : Nat} {L S : Nat → Nat} : ∀ (q a : Nat) (st : Nat × Nat × (Nat → Nat)), FB nc L S w q a st = fo (fun i => U_ nc L S w (a * nc ^ q + i)) (nc ^ q) st
  | 0, a, st => by
    show U_ nc L S w a st = U_ nc L S w (a * 1 + 0) st
    rw [Nat.mul_one, Nat.add_zero]
  | q + 1, a, st => by
    rw [show nc ^ (q + 1) = nc * nc ^ q by rw [Nat.pow_succ, Nat.mul_comm], fo_mul]
    show fo (fun c => FB nc L S w q (a * nc + c)) nc st = _
    refine fo_ext (fun c s hc => ?_)
    rw [FB_rows q]
    refine fo_ext (fun i s hi => ?_)
    rw [show (a * nc + c) * nc ^ q + i = a * (nc * nc ^ q) + (c * nc ^ q + i) by rw [Nat.add_mul, Nat.mul_assoc, Nat.add_assoc]]
theorem FB_skip {nc w p q a : Nat} {L S : Nat → Nat} {st : Nat × Nat × (Nat → Nat)} (hw : w = p + q) (h : ∀ d : Nat → Nat, (∀ k, k < p → d k = dg nc p a k) → fea nc L S w d → ¬ bt (mkd d w) (stk S d w) st) : FB nc L S w q a st = st := by
  rw [FB_rows]
  refine fo_id (fun i hi => U_no (fun hx => ?_))
  refine h (dg nc w (a * nc ^ q + i)) (fun k hk => ?_) hx.1 hx.2
  rw [hw]
  exact dg_pre hi hk
theorem mkd_pop {d e : Nat → Nat} {p w : Nat} (hpw : p ≤ w) (h : ∀ k, k < p → d k = e k) : pop_ (mkd d p) ≤ pop_ (mkd e w) := by
  unfold mkd
  rw [pop_mk (Nat.le_refl 6), pop_mk (Nat.le_refl 6)]
  exact pcn_mono (fun c _ hc => ub_mono (by rw [← ub_ext h]; exact hc) hpw)
theorem stk_mono {S d e : Nat → Nat} {p w : Nat} (hpw : p ≤ w) (h : ∀ k, k < p → d k = e k) : stk S d p ≤ stk S e w :=
  sn_mono (fun c _ hc => ub_mono (by rw [← ub_ext h]; exact hc) hpw)
theorem bt_mono {m t m' t' : Nat} {st : Nat × Nat × (Nat → Nat)} (h1 : pop_ m ≤ pop_ m') (h2 : t ≤ t') (h : bt m' t' st) : bt m t st := by
  unfold bt at h ⊢
  omega
/-- the sums -/
def ln_ (L : Nat → Nat) : Nat → Nat
  | 0 => 0
  | j + 1 => ln_ L j + L j
def sa (f : Nat → Nat) : Nat → Nat
  | 0 => 0
  | n + 1 => sa f n + f n
theorem sa_one {c x : Nat} {f : Nat → Nat} : ∀ {n : Nat}, c < n → sa (fun j => f j + (if c = j then x else 0)) n = sa f n + x
  | 0, h => absurd h (by omega)
  | n + 1, h => by
    unfold sa
    by_cases e : c = n
    · subst e
      have : ∀ {m : Nat}, m ≤ c → sa (fun j => f j + (if c = j then x else 0)) m = sa f m := by
        intro m
        induction m with
        | zero => intro _; rfl
        | succ m ih => intro hm; unfold sa; rw [ih (by omega), if_neg (by omega), Nat.add_zero]
      rw [this (Nat.le_refl _), if_pos rfl]
      omega
    · rw [sa_one (n := n) (by omega), if_neg e]
      omega
theorem sa_px {L d : Nat → Nat} (hd : ∀ k, d k < 6) : ∀ j, sa (px L d j) 6 = ln_ L j
  | 0 => rfl
  | j + 1 => by
    show sa (fun c => px L d j c + (if d j = c then L j else 0)) 6 = _
    rw [sa_one (hd j), sa_px hd j]
    rfl
theorem sn_split {p : Nat → Bool} {f g : Nat → Nat} : ∀ {n : Nat}, (∀ j, j < n → (p j = true → g j ≤ f j) ∧ (p j = false → g j = 0)) → sn p (fun j => f j - g j) n + sa g n = sn p f n
  | 0, _ => rfl
  | n + 1, h => by
    have ih := sn_split (p := p) (f := f) (g := g) (n := n) (fun j hj => h j (by omega))
    have hn := h n (by omega)
    unfold sn sa
    cases hp : p n
    · rw [if_neg (by decide), if_neg (by decide), hn.2 hp]; omega
    · rw [if_pos rfl, if_pos rfl]
      have := hn.1 hp
      omega
/-- what is left over -/
theorem left_over {nc w : Nat} {L S d : Nat → Nat} (hd : ∀ k, d k < nc) (hnc : nc ≤ 6) (hf : fea nc L S w d) : sn (ub d w) (fun c => S c - px L d w c) 6 + ln_ L w = stk S d w := by
  rw [← sa_px (L := L) (d := d) (fun k => Nat.lt_of_lt_of_le (hd k) hnc) w]
  refine sn_split (fun c hc => ⟨fun hp => ?_, fun hp => px_no hp⟩)
  by_cases e : c < nc
  · exact hf c e
  · have : ∀ j, ub d j c = false := fun j => by
      induction j with
      | zero => rfl
      | succ j ih => unfold ub; rw [ih, decide_eq_false (by have := hd j; omega)]; rfl
    rw [this w] at hp
    cases hp
theorem all_le {nc w : Nat} {L S d : Nat → Nat} (hd : ∀ k, d k < nc) (hnc : nc ≤ 6) (hf : fea nc L S w d) : ln_ L w ≤ sa S 6 := by
  rw [← sa_px (L := L) (d := d) (fun k => Nat.lt_of_lt_of_le (hd k) hnc) w]
  have : ∀ n, (∀ c, c < n → px L d w c ≤ S c) → sa (px L d w) n ≤ sa S n := by
    intro n
    induction n with
    | zero => intro _; exact Nat.le_refl _
    | succ n ih =>
      intro h
      have := ih (fun c hc => h c (by omega))
      have := h n (by omega)
      unfold sa
      omega
  refine this 6 (fun c hc => ?_)
  by_cases e : c < nc
  · exact hf c e
  · have hn : ∀ j, ub d j c = false := fun j => by
      induction j with
      | zero => rfl
      | succ j ih => unfold ub; rw [ih, decide_eq_false (by have := hd j; omega)]; rfl
    rw [px_no (hn w)]
    exact Nat.zero_le _
theorem mkd_next {d : Nat → Nat} {j : Nat} (hd : d j < 6) : mkd d j ||| 2 ^ (d j) = mkd d (j + 1) := by
  have h64 : mkd d j < 64 := mk_64 (Nat.le_refl 6)
  obtain ⟨o1, o2⟩ := or_bit (mkd d j) h64 (d j) hd
  refine mk_of (n := 6) o1 (fun k hk => ?_)
  rw [o2 k hk]
  unfold mkd ub
  rw [mk_bit hk]
  congr 1
  by_cases e : d j = k
  · rw [decide_eq_true e, e]; simp
  · rw [decide_eq_false e]; simp; omega
theorem stk_next {S d : Nat → Nat} {j : Nat} (hd : d j < 6) : stk S d (j + 1) = stk S d j + (if ub d j (d j) then 0 else S (d j)) := sn_add1 hd
