/-! ===== 33: the order of freezing; who feeds whom; needs, pores, excesses ===== -/
theorem cnt_lt {p : Nat → Bool} {n a : Nat} (ha : a < n) (hp : p a = false) : cnt p n < n := by
  induction n with
  | zero => omega
  | succ n ih =>
    unfold cnt
    have := cnt_le p n
    by_cases q : a = n
    · subst q
      rw [hp]
      simp
      omega
    · have := ih (by omega)
      split <;> omega
theorem cnt_mono {p q : Nat → Bool} {n : Nat} (h : ∀ i, i < n → p i = true → q i = true) : cnt p n ≤ cnt q n := by
  induction n with
  | zero => exact Nat.le_refl _
  | succ n ih =>
    unfold cnt
    have h1 := ih (fun i hi => h i (by omega))
    have h2 := h n (by omega)
    cases e : p n with
    | false => simp; split <;> omega
    | true => rw [h2 e]; simp; omega
theorem cnt_less {p q : Nat → Bool} {n a : Nat} (h : ∀ i, i < n → p i = true → q i = true) (ha : a < n) (hq : q a = true) (hp : p a = false) : cnt p n < cnt q n := by
  induction n with
  | zero => omega
  | succ n ih =>
    unfold cnt
    by_cases c : a = n
    · subst c
      have := cnt_mono (n := a) (fun i hi => h i (by omega))
      rw [hp, hq]
      simp
      omega
    · have h1 := ih (fun i hi => h i (by omega)) (by omega)
      have h2 := h n (by omega)
      cases e : p n with
      | false => simp; split <;> omega
      | true => rw [h2 e]; simp; omega
theorem cnt_same {p q : Nat → Bool} {n : Nat} (h : ∀ i, i < n → p i = true → q i = true) (he : cnt p n = cnt q n) : ∀ i, i < n → p i = q i := by
  intro i hi
  cases e : p i with
  | true => rw [h i hi e]
  | false =>
    cases f : q i with
    | false => rfl
    | true => have := cnt_less h hi f e; omega
/-- a map of the numbers below n into themselves that is one to one reaches each of them -/
theorem onto : ∀ (n : Nat) (f : Nat → Nat), (∀ i, i < n → f i < n) → (∀ i j, i < n → j < n → f i = f j → i = j) → ∀ t, t < n → ∃ i, i < n ∧ f i = t
  | 0, _, _, _, t, ht => by omega
  | n + 1, f, h1, h2, t, ht => by
    have hfn := h1 n (by omega)
    -- g: f, with the value n sent to f n
    by_cases q : t = f n
    · exact ⟨n, by omega, q.symm⟩
    · have g1 : ∀ i, i < n → (if f i = n then f n else f i) < n := fun i hi => by
        have a := h1 i (by omega)
        by_cases c : f i = n
        · rw [if_pos c]
          have : f n ≠ n := fun z => by have := h2 i n (by omega) (by omega) (c.trans z.symm); omega
          omega
        · rw [if_neg c]; omega
      have g2 : ∀ i j, i < n → j < n → (if f i = n then f n else f i) = (if f j = n then f n else f j) → i = j := fun i j hi hj e => by
        by_cases c : f i = n <;> by_cases d : f j = n
        · exact h2 i j (by omega) (by omega) (c.trans d.symm)
        · rw [if_pos c, if_neg d] at e
          have := h2 n j (by omega) (by omega) e
          omega
        · rw [if_neg c, if_pos d] at e
          have := h2 i n (by omega) (by omega) e
          omega
        · rw [if_neg c, if_neg d] at e
          exact h2 i j (by omega) (by omega) e
      have ih := onto n (fun i => if f i = n then f n else f i) g1 g2
      by_cases c : t = n
      · have hfn' : f n < n := by omega
        obtain ⟨i, hi, e⟩ := ih (f n) hfn'
        try dsimp only at e
        by_cases d : f i = n
        · exact ⟨i, by omega, by rw [c]; exact d⟩
        · rw [if_neg d] at e
          have := h2 i n (by omega) (by omega) e
          omega
      · obtain ⟨i, hi, e⟩ := ih t (by omega)
        try dsimp only at e
        by_cases d : f i = n
        · rw [if_pos d] at e; exact absurd e.symm q
        · rw [if_neg d] at e; exact ⟨i, by omega, e⟩
theorem bef_iff {S : SC} {j i : Nat} : bef S j i = true ↔ (s_vo S j * (s_ar S i + s_ch S i) < s_vo S i * (s_ar S j + s_ch S j) ∨ (s_vo S j * (s_ar S i + s_ch S i) = s_vo S i * (s_ar S j + s_ch S j) ∧ j < i)) := by
  unfold bef
  exact decide_eq_true_iff
theorem bef_irr {S : SC} {i : Nat} : bef S i i = false := by
  cases e : bef S i i with
  | false => rfl
  | true => rcases bef_iff.mp e with h | h <;> omega
theorem bef_tot {S : SC} {i j : Nat} (h : i ≠ j) : bef S i j = true ∨ bef S j i = true := by
  rcases Nat.lt_trichotomy (s_vo S i * (s_ar S j + s_ch S j)) (s_vo S j * (s_ar S i + s_ch S i)) with q | q | q
  · exact Or.inl (bef_iff.mpr (Or.inl q))
  · rcases Nat.lt_or_ge i j with c | c
    · exact Or.inl (bef_iff.mpr (Or.inr ⟨q, c⟩))
    · exact Or.inr (bef_iff.mpr (Or.inr ⟨q.symm, by omega⟩))
  · exact Or.inr (bef_iff.mpr (Or.inl q))
theorem bef_tr {S : SC} {a b c : Nat} (ha : 0 < s_ar S a + s_ch S a) (hb : 0 < s_ar S b + s_ch S b) (hc : 0 < s_ar S c + s_ch S c) (h1 : bef S a b = true) (h2 : bef S b c = true) : bef S a c = true := by
  rw [bef_iff] at h1 h2 ⊢
  generalize s_ar S a + s_ch S a = A at *
  generalize s_ar S b + s_ch S b = B at *
  generalize s_ar S c + s_ch S c = C at *
  generalize s_vo S a = x at *
  generalize s_vo S b = y at *
  generalize s_vo S c = z at *
  have e1 : x * C * B = x * B * C := Nat.mul_right_comm _ _ _
  have e2 : y * A * C = y * C * A := Nat.mul_right_comm _ _ _
  have e3 : z * B * A = z * A * B := Nat.mul_right_comm _ _ _
  have le1 : x * B ≤ y * A := by omega
  have le2 : y * C ≤ z * B := by omega
  have k1 : x * B * C ≤ y * A * C := Nat.mul_le_mul_right C le1
  have k2 : y * C * A ≤ z * B * A := Nat.mul_le_mul_right A le2
  rcases h1 with h1 | h1
  · left
    have k3 : x * B * C < y * A * C := Nat.mul_lt_mul_of_pos_right h1 hc
    exact Nat.lt_of_mul_lt_mul_right (a := B) (by omega)
  · rcases h2 with h2 | h2
    · left
      have k3 : y * C * A < z * B * A := Nat.mul_lt_mul_of_pos_right h2 ha
      exact Nat.lt_of_mul_lt_mul_right (a := B) (by omega)
    · right
      have f1 : x * B * C = y * A * C := by rw [h1.1]
      have f2 : y * C * A = z * B * A := by rw [h2.1]
      exact ⟨Nat.eq_of_mul_eq_mul_right hb (by omega), by omega⟩
theorem area_pos {S : SC} (hO : OkC S) {i : Nat} (hi : i < s_n S) : 0 < s_ar S i + s_ch S i := by
  have := (hO.ar hi).1
  omega
theorem rk_lt {S : SC} {i : Nat} (hi : i < s_n S) : rk S i < s_n S := cnt_lt hi bef_irr
theorem rk_mono {S : SC} (hO : OkC S) {a b : Nat} (ha : a < s_n S) (hb : b < s_n S) (h : bef S a b = true) : rk S a < rk S b :=
  cnt_less (fun i hi hp => bef_tr (area_pos hO hi) (area_pos hO ha) (area_pos hO hb) hp h) ha h bef_irr
theorem rk_inj {S : SC} (hO : OkC S) {a b : Nat} (ha : a < s_n S) (hb : b < s_n S) (h : rk S a = rk S b) : a = b := by
  rcases Nat.decEq a b with q | q
  · rcases bef_tot (S := S) q with c | c
    · have := rk_mono hO ha hb c; omega
    · have := rk_mono hO hb ha c; omega
  · exact q
theorem rk_iff {S : SC} (hO : OkC S) {a b : Nat} (ha : a < s_n S) (hb : b < s_n S) : bef S a b = true ↔ rk S a < rk S b := by
  constructor
  · exact rk_mono hO ha hb
  · intro h
    by_cases q : a = b
    · subst q; omega
    · rcases bef_tot (S := S) q with c | c
      · exact c
      · have := rk_mono hO hb ha c; omega
noncomputable def ord (S : SC) (t : Nat) : Nat := Classical.epsilon (fun i => i < s_n S ∧ rk S i = t)
theorem ord_ok {S : SC} (hO : OkC S) {t : Nat} (ht : t < s_n S) : ord S t < s_n S ∧ rk S (ord S t) = t :=
  Classical.epsilon_spec (onto (s_n S) (rk S) (fun i hi => rk_lt hi) (fun i j hi hj h => rk_inj hO hi hj h) t ht)
theorem ord_rk {S : SC} (hO : OkC S) {i : Nat} (hi : i < s_n S) : ord S (rk S i) = i := by
  obtain ⟨h1, h2⟩ := ord_ok hO (rk_lt hi)
  exact rk_inj hO h1 hi h2
/-! who feeds -/
/-- o is the best of those of P that freeze after i -/
def Best (S : SC) (P : Nat → Prop) (i : Nat) (o : Option Nat) : Prop := match o with
  | none => ∀ g, P g → ¬ rk S i < rk S g
  | some f => P f ∧ rk S i < rk S f ∧ ∀ g, P g → rk S i < rk S g → rk S g ≤ rk S f
def nbs (S : SC) (i g : Nat) : Prop := nb S i g = true
noncomputable def src (S : SC) (i : Nat) : Option Nat := Classical.epsilon (Best S (nbs S i) i)
theorem nb_lt {S : SC} (hO : OkC S) {i g : Nat} (h : nb S i g = true) : i < s_n S ∧ g < s_n S ∧ i ≠ g := by
  obtain ⟨j, hj, h⟩ := nbk_iff.mp h
  obtain ⟨a, b, c⟩ := hO.jj hj
  omega
theorem best_ex {S : SC} (P : Nat → Prop) (i : Nat) : ∀ k : Nat, ∃ o, Best S (fun g => P g ∧ g < k) i o
  | 0 => ⟨none, fun g h => by omega⟩
  | k + 1 => by
    obtain ⟨o, ho⟩ := best_ex P i k
    by_cases c : P k ∧ rk S i < rk S k
    · cases o with
      | none =>
        refine ⟨some k, ⟨⟨c.1, by omega⟩, c.2, fun g hg h => ?_⟩⟩
        by_cases e : g = k
        · subst e; exact Nat.le_refl _
        · exact absurd h (ho g ⟨hg.1, by omega⟩)
      | some f =>
        obtain ⟨h1, h2, h3⟩ := ho
        by_cases d : rk S f < rk S k
        · refine ⟨some k, ⟨⟨c.1, by omega⟩, c.2, fun g hg h => ?_⟩⟩
          by_cases e : g = k
          · subst e; exact Nat.le_refl _
          · have := h3 g ⟨hg.1, by omega⟩ h; omega
        · refine ⟨some f, ⟨⟨h1.1, by omega⟩, h2, fun g hg h => ?_⟩⟩
          by_cases e : g = k
          · subst e; omega
          · exact h3 g ⟨hg.1, by omega⟩ h
    · cases o with
      | none =>
        refine ⟨none, fun g hg h => ?_⟩
        by_cases e : g = k
        · subst e; exact c ⟨hg.1, h⟩
        · exact ho g ⟨hg.1, by omega⟩ h
      | some f =>
        obtain ⟨h1, h2, h3⟩ := ho
        refine ⟨some f, ⟨⟨h1.1, by omega⟩, h2, fun g hg h => ?_⟩⟩
        by_cases e : g = k
        · subst e; exact absurd ⟨hg.1, h⟩ c
        · exact h3 g ⟨hg.1, by omega⟩ h
theorem best_congr {S : SC} {P P' : Nat → Prop} {i : Nat} {o : Option Nat} (h : ∀ g, P g ↔ P' g) (hb : Best S P i o) : Best S P' i o := by
  cases o with
  | none => exact fun g hg => hb g ((h g).mpr hg)
  | some f => exact ⟨(h f).mp hb.1, hb.2.1, fun g hg => hb.2.2 g ((h g).mpr hg)⟩
theorem src_best {S : SC} (hO : OkC S) (i : Nat) : Best S (nbs S i) i (src S i) := by
  obtain ⟨o, ho⟩ := best_ex (S := S) (nbs S i) i (s_n S)
  exact Classical.epsilon_spec ⟨o, best_congr (fun g => ⟨fun h => h.1, fun h => ⟨h, (nb_lt hO h).2.1⟩⟩) ho⟩
theorem src_uniq {S : SC} (hO : OkC S) {i : Nat} {o : Option Nat} (h : Best S (nbs S i) i o) : o = src S i := by
  have h2 := src_best hO i
  generalize src S i = o2 at h2 ⊢
  cases o with
  | none =>
    cases o2 with
    | none => rfl
    | some f => exact absurd h2.2.1 (h f h2.1)
  | some f =>
    cases o2 with
    | none => exact absurd h.2.1 (h2 f h.1)
    | some g =>
      have a := h.2.2 g h2.1 h2.2.1
      have b := h2.2.2 f h.1 h.2.1
      rw [rk_inj hO (nb_lt hO h.1).2.1 (nb_lt hO h2.1).2.1 (by omega)]
theorem src_some {S : SC} (hO : OkC S) {i f : Nat} (h : src S i = some f) : f < s_n S ∧ i < s_n S ∧ rk S i < rk S f ∧ nb S i f = true := by
  have h2 := src_best hO i
  rw [h] at h2
  have := nb_lt hO h2.1
  exact ⟨this.2.1, this.1, h2.2.1, h2.1⟩
def enc (o : Option Nat) : Int32 := match o with
  | none => -1
  | some f => nI f
theorem enc_m1 {S : SC} (hO : OkC S) {i : Nat} : enc (src S i) = -1 ↔ src S i = none := by
  cases e : src S i with
  | none => exact ⟨fun _ => rfl, fun _ => rfl⟩
  | some f =>
    have := (src_some hO e).1
    have := hO.n
    exact ⟨fun h => absurd h (m1_ne f (by omega)), fun h => by cases h⟩
theorem br_src {S : SC} (hO : OkC S) {i : Nat} {α : Type} {p q : Option α} : br (enc (src S i) = (-1)) p q = if src S i = none then p else q := by
  by_cases c : src S i = none
  · rw [if_pos c, br_T ((enc_m1 hO).mpr c)]
  · rw [if_neg c, br_F (fun z => c ((enc_m1 hO).mp z))]
/-! needs -/
noncomputable def nd (S : SC) : Nat → Nat → Nat
  | 0 => fneed S
  | t + 1 => match src S (ord S t) with
    | none => nd S t
    | some f => va_up (nd S t) f (nd S t f + nd S t (ord S t))
theorem nd_n {S : SC} {t : Nat} (h : src S (ord S t) = none) : nd S (t + 1) = nd S t := by
  show (match src S (ord S t) with | none => nd S t | some f => va_up (nd S t) f (nd S t f + nd S t (ord S t))) = _
  rw [h]
theorem nd_f {S : SC} {t f : Nat} (h : src S (ord S t) = some f) : nd S (t + 1) = va_up (nd S t) f (nd S t f + nd S t (ord S t)) := by
  show (match src S (ord S t) with | none => nd S t | some f => va_up (nd S t) f (nd S t f + nd S t (ord S t))) = _
  rw [h]
theorem nd_le {S : SC} (hO : OkC S) : ∀ t : Nat, t ≤ s_n S → ∀ i, i < s_n S → nd S t i ≤ 1000 * 2 ^ t
  | 0, _, i, hi => by
    have := fneed_le hO hi
    simpa [nd] using this
  | t + 1, ht, i, hi => by
    have ih := nd_le hO t (by omega)
    have ho := (ord_ok hO (t := t) (by omega)).1
    have e2 : 2 ^ (t + 1) = 2 * 2 ^ t := by rw [Nat.pow_succ, Nat.mul_comm]
    have hi' := ih i hi
    cases hf : src S (ord S t) with
    | none => rw [nd_n hf, e2]; omega
    | some f =>
      rw [nd_f hf]
      unfold va_up
      by_cases c : i = f
      · rw [if_pos c, e2]
        have a := ih f (src_some hO hf).1
        have b := ih _ ho
        omega
      · rw [if_neg c, e2]; omega
noncomputable def need (S : SC) : Nat → Nat := nd S (s_n S)
theorem nd_small {S : SC} (hO : OkC S) {t i : Nat} (ht : t ≤ s_n S) (hi : i < s_n S) : nd S t i ≤ 4096000 := by
  have h1 := nd_le hO t ht i hi
  have h2 := hO.n
  have h3 : 2 ^ t ≤ 2 ^ 12 := Nat.pow_le_pow_right (by omega) (by omega)
  have : 1000 * 2 ^ t ≤ 1000 * 2 ^ 12 := Nat.mul_le_mul_left _ h3
  omega
theorem need_small {S : SC} (hO : OkC S) {i : Nat} (hi : i < s_n S) : need S i ≤ 4096000 := nd_small hO (Nat.le_refl _) hi
noncomputable def pores (S : SC) (i : Nat) : Nat := if src S i = none then need S i else 0
theorem pores_small {S : SC} (hO : OkC S) {i : Nat} (hi : i < s_n S) : pores S i ≤ 4096000 := by
  unfold pores
  split
  · exact need_small hO hi
  · omega
noncomputable def exc (S : SC) (i : Nat) : Nat := pores S i - bear S i
theorem exc_small {S : SC} (hO : OkC S) {i : Nat} (hi : i < s_n S) : exc S i ≤ 4096000 := by
  have := pores_small hO hi
  unfold exc
  omega
noncomputable def exAll (S : SC) : Nat := sm (exc S) (s_n S)
theorem sm_small {S : SC} (hO : OkC S) {f : Nat → Nat} (h : ∀ i, i < s_n S → f i ≤ 4096000) : ∀ k, k ≤ s_n S → sm f k ≤ 49152000 := by
  intro k hk
  have h1 := hO.n
  have h2 : sm f k ≤ k * 4096000 := sm_le (fun i hi => h i (by omega))
  have h3 : k * 4096000 ≤ 12 * 4096000 := Nat.mul_le_mul_right _ (by omega)
  omega
