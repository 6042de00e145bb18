-- ===== pure reasoning: base =====
def q_tr {a : Type} (o : Option a) (Q : a → Prop) : Prop := ∃ r, o = some r ∧ Q r
theorem q_some {a : Type} {r : a} {Q : a → Prop} : q_tr (some r) Q ↔ Q r := ⟨fun ⟨_, h, q⟩ => by cases h; exact q, fun h => ⟨r, rfl, h⟩⟩
theorem q_ret {a : Type} {r : a} {Q : a → Prop} (h : Q r) : q_tr (some r) Q := ⟨r, rfl, h⟩
theorem q_mono {a : Type} {o : Option a} {P Q : a → Prop} (h : q_tr o P) (hi : ∀ r, P r → Q r) : q_tr o Q := by
  obtain ⟨r, h1, h2⟩ := h
  exact ⟨r, h1, hi r h2⟩
theorem q_if {a : Type} {c : Prop} {_ : Decidable c} {t e : Option a} {Q : a → Prop} (ht : c → q_tr t Q) (he : ¬ c → q_tr e Q) : q_tr (tg_if c t e) Q := by
  unfold tg_if
  split
  · exact ht ‹_›
  · exact he ‹_›
theorem q_ifT {a : Type} {c : Prop} {_ : Decidable c} {t e : a} (h : c) : tg_if c t e = t := if_pos h
theorem q_ifF {a : Type} {c : Prop} {_ : Decidable c} {t e : a} (h : ¬ c) : tg_if c t e = e := if_neg h
theorem q_bd {a b : Type} {o : Option (tg_S × a)} {k : tg_S → a → Option b} {P : tg_S × a → Prop} {Q : b → Prop} (h : q_tr o P) (hk : ∀ S r, P (S, r) → q_tr (k S r) Q) : q_tr (tg_bd o k) Q := by
  obtain ⟨⟨S, r⟩, h1, h2⟩ := h
  rw [h1]
  exact hk S r h2
theorem q_bv {b : Type} {o : Option tg_S} {k : tg_S → Option b} {P : tg_S → Prop} {Q : b → Prop} (h : q_tr o P) (hk : ∀ S, P S → q_tr (k S) Q) : q_tr (tg_bv o k) Q := by
  obtain ⟨S, h1, h2⟩ := h
  rw [h1]
  exact hk S h2
theorem q_bdS {a b : Type} {S : tg_S} {r : a} {k : tg_S → a → Option b} : tg_bd (some (S, r)) k = k S r := rfl
theorem q_bvS {b : Type} {S : tg_S} {k : tg_S → Option b} : tg_bv (some S) k = k S := rfl
theorem q_bdI {a b : Type} {c : Prop} {_ : Decidable c} {t e : Option (tg_S × a)} {k : tg_S → a → Option b} : tg_bd (tg_if c t e) k = tg_if c (tg_bd t k) (tg_bd e k) := by
  unfold tg_if
  split <;> rfl
theorem q_bvI {b : Type} {c : Prop} {_ : Decidable c} {t e : Option tg_S} {k : tg_S → Option b} : tg_bv (tg_if c t e) k = tg_if c (tg_bv t k) (tg_bv e k) := by
  unfold tg_if
  split <;> rfl
def q_st (S : tg_S) (k i : Nat) (v : Int32) : tg_S := tg_sw S k (upd (S k) i v)
theorem q_stS (S : tg_S) (k i : Nat) (v : Int32) : q_st S k i v k = upd (S k) i v := by simp [q_st, tg_sw]
theorem q_stN (S : tg_S) {k k2 : Nat} (i : Nat) (v : Int32) (h : k2 ≠ k) : q_st S k i v k2 = S k2 := by simp [q_st, tg_sw, h]
theorem q_stA (S : tg_S) (k i : Nat) (v : Int32) (k2 j : Nat) : q_st S k i v k2 j = if k2 = k ∧ j = i then v else S k2 j := by
  by_cases h : k2 = k
  · subst h
    by_cases h2 : j = i <;> simp [q_stS, upd, h2]
  · simp [q_stN S i v h, h]
theorem q_nm {a b : Type} (e : a) (k : a → b) : tg_nm e k = k e := rfl
theorem q_pf {a : Type} (S : tg_S) (k j : Nat) (v : Int32) (K : tg_S → Option a) : tg_pf S k j v K = K (q_st S k j v) := rfl
theorem q_ib {i n : Nat} (h : i < n) (hn : n < 2147483648) : tg_ib (nI i) n = true := by
  have := vp_in_nI h hn
  unfold vp_in at this
  unfold tg_ib
  exact decide_eq_true this
theorem q_rd {a : Type} (S : tg_S) (k : Nat) {i n : Nat} (K : Int32 → Option a) (h : i < n) (hn : n < 2147483648) : tg_rd S k n (nI i) K = K (S k i) := by
  unfold tg_rd
  rw [q_ib h hn, nI_clamp (by omega)]
  rfl
theorem q_wr {a : Type} (S : tg_S) (k : Nat) {i n : Nat} (v : Int32) (K : tg_S → Option a) (h : i < n) (hn : n < 2147483648) : tg_wr S k n (nI i) v K = K (q_st S k i v) := by
  unfold tg_wr
  rw [q_ib h hn, nI_clamp (by omega)]
  rfl
theorem q_wz {a : Type} (S : tg_S) (k : Nat) {i n : Nat} (v : Int32) (K : tg_S → Option a) (h : i < n) (hn : n < 2147483648) : tg_wz S k n (nI i) v K = K (q_st S k i (vp_nar .boolean v)) := by
  unfold tg_wz
  rw [q_ib h hn, nI_clamp (by omega)]
  rfl
theorem q_cp {a : Type} (S : tg_S) (k0 k1 : Nat) {n0 n1 sp dp n : Nat} (K : tg_S → Option a) (h0 : sp + n ≤ n0) (h1 : dp + n ≤ n1) (h2 : n0 < 2147483648) (h3 : n1 < 2147483648) : tg_cp S k0 k1 n0 n1 (nI sp) (nI dp) (nI n) K = K (tg_sw S k1 (va_cpy (S k0) (S k1) sp dp n)) := by
  unfold tg_cp
  have : tg_cb2 (nI sp) (nI dp) (nI n) n0 n1 = true := by
    unfold tg_cb2
    apply decide_eq_true
    rw [nI_clamp (by omega), nI_clamp (by omega), nI_clamp (by omega)]
    exact ⟨nI_pos (by omega), nI_pos (by omega), nI_pos (by omega), h0, h1⟩
  rw [this, nI_clamp (by omega), nI_clamp (by omega), nI_clamp (by omega)]
  rfl
-- numerals and nI
theorem q_lit (n : Nat) : (no_index (OfNat.ofNat n) : Int32) = nI (OfNat.ofNat n) := Eq.trans (b := nI n) rfl rfl
theorem q_add (a b : Nat) : nI a + nI b = nI (a + b) := nI_add a b
theorem q_mul (a b : Nat) : nI a * nI b = nI (a * b) := pk_mul a b
theorem q_div {a d : Nat} (ha : a < 2147483648) (h0 : 0 < d) (hd : d < 2147483648) : nI a / nI d = nI (a / d) := pk_div ha h0 hd
theorem q_rem {a d : Nat} (ha : a < 2147483648) (h0 : 0 < d) (hd : d < 2147483648) : nI a - nI a / nI d * nI d = nI (a % d) := pk_rem ha h0 hd
theorem q_sub {a b : Nat} (h : b ≤ a) : nI a - nI b = nI (a - b) := pk_sub h
theorem q_le {a b : Nat} (ha : a < 2147483648) (hb : b < 2147483648) : (nI a ≤ nI b) = (a ≤ b) := propext (nI_leI ha hb)
theorem q_lt {a b : Nat} (ha : a < 2147483648) (hb : b < 2147483648) : (nI a < nI b) = (a < b) := propext (nI_ltI ha hb)
theorem q_eq {a b : Nat} (ha : a < 2147483648) (hb : b < 2147483648) : (nI a = nI b) = (a = b) := propext (nI_eq ha hb)
theorem q_eqm {a : Nat} (ha : a < 2147483648) : (nI a = -nI 1) = False := by
  apply propext
  constructor
  · intro h
    have := congrArg Int32.toInt h
    rw [nI_toInt ha] at this
    have h2 : (-nI 1 : Int32).toInt = -1 := by decide
    omega
  · exact False.elim
theorem q_max {a b : Nat} (ha : a < 2147483648) (hb : b < 2147483648) : tg_max (nI a) (nI b) = nI (if a < b then b else a) := by
  unfold tg_max
  simp only [q_lt ha hb]
  split <;> rfl
theorem q_min {a b : Nat} (ha : a < 2147483648) (hb : b < 2147483648) : tg_min (nI a) (nI b) = nI (if b < a then b else a) := by
  unfold tg_min
  simp only [q_lt hb ha]
  split <;> rfl
-- loops with a counter that goes up to N
theorem q_loop {R : Type} (L : Nat → tg_S → Int32 → Option R) (B : (tg_S → Int32 → Option R) → tg_S → Int32 → Option R) (N : Nat) (I : Nat → tg_S → Prop) (Q : R → Prop) (hL : ∀ n, L (n + 1) = B (L n))
    (hs : ∀ (rec : tg_S → Int32 → Option R) (i : Nat) (S : tg_S), i < N → I i S → (∀ S2, I (i + 1) S2 → q_tr (rec S2 (nI (i + 1))) Q) → q_tr (B rec S (nI i)) Q)
    (he : ∀ (rec : tg_S → Int32 → Option R) (S : tg_S), I N S → q_tr (B rec S (nI N)) Q) : ∀ (n i : Nat) (S : tg_S), N - i < n → i ≤ N → I i S → q_tr (L n S (nI i)) Q := by
  intro n
  induction n with
  | zero => intro i S h; omega
  | succ n ih =>
    intro i S h hi hI
    rw [hL]
    by_cases hlt : i < N
    · exact hs _ i S hlt hI (fun S2 h2 => ih (i + 1) S2 (by omega) (by omega) h2)
    · have : i = N := by omega
      subst this
      exact he _ S hI
/-- the same with another int that is carried along -/
theorem q_loop2 {R : Type} (L : Nat → tg_S → Int32 → Int32 → Option R) (B : (tg_S → Int32 → Int32 → Option R) → tg_S → Int32 → Int32 → Option R) (N : Nat) (I : Nat → tg_S → Int32 → Prop) (Q : R → Prop) (hL : ∀ n, L (n + 1) = B (L n))
    (hs : ∀ (rec : tg_S → Int32 → Int32 → Option R) (i : Nat) (S : tg_S) (x : Int32), i < N → I i S x → (∀ S2 x2, I (i + 1) S2 x2 → q_tr (rec S2 x2 (nI (i + 1))) Q) → q_tr (B rec S x (nI i)) Q)
    (he : ∀ (rec : tg_S → Int32 → Int32 → Option R) (S : tg_S) (x : Int32), I N S x → q_tr (B rec S x (nI N)) Q) : ∀ (n i : Nat) (S : tg_S) (x : Int32), N - i < n → i ≤ N → I i S x → q_tr (L n S x (nI i)) Q := by
  intro n
  induction n with
  | zero => intro i S x h; omega
  | succ n ih =>
    intro i S x h hi hI
    rw [hL]
    by_cases hlt : i < N
    · exact hs _ i S x hlt hI (fun S2 x2 h2 => ih (i + 1) S2 x2 (by omega) (by omega) h2)
    · have : i = N := by omega
      subst this
      exact he _ S x hI
