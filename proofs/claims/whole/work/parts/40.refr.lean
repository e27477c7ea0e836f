/-! ===== 40: the model's numbers ===== -/
def RepM (r : AF) (S : SC) : Prop := r 0 = nI (s_n S) ∧ r 1 = nI (s_m S) ∧ r 2 = nI (s_sh S) ∧ r 3 = nI (s_pi S) ∧ (∀ i, i < s_n S → r (4 + 4 * i) = nI (s_vo S i)) ∧ (∀ i, i < s_n S → r (4 + 4 * i + 1) = nI (s_ar S i)) ∧ (∀ i, i < s_n S → r (4 + 4 * i + 2) = nI (s_ch S i)) ∧ (∀ i, i < s_n S → r (4 + 4 * i + 3) = nI (s_fe S i)) ∧ (∀ j, j < s_m S → r (52 + 2 * j) = nI (s_ja S j)) ∧ (∀ j, j < s_m S → r (52 + 2 * j + 1) = nI (s_jb S j))
theorem RepM.n {r : AF} {S : SC} (h : RepM r S) : r 0 = nI (s_n S) := h.1
theorem RepM.m {r : AF} {S : SC} (h : RepM r S) : r 1 = nI (s_m S) := h.2.1
theorem RepM.sh {r : AF} {S : SC} (h : RepM r S) : r 2 = nI (s_sh S) := h.2.2.1
theorem RepM.pi {r : AF} {S : SC} (h : RepM r S) : r 3 = nI (s_pi S) := h.2.2.2.1
theorem RepM.vo {r : AF} {S : SC} (h : RepM r S) : ∀ i, i < s_n S → r (4 + 4 * i) = nI (s_vo S i) := h.2.2.2.2.1
theorem RepM.ar {r : AF} {S : SC} (h : RepM r S) : ∀ i, i < s_n S → r (4 + 4 * i + 1) = nI (s_ar S i) := h.2.2.2.2.2.1
theorem RepM.ch {r : AF} {S : SC} (h : RepM r S) : ∀ i, i < s_n S → r (4 + 4 * i + 2) = nI (s_ch S i) := h.2.2.2.2.2.2.1
theorem RepM.fe {r : AF} {S : SC} (h : RepM r S) : ∀ i, i < s_n S → r (4 + 4 * i + 3) = nI (s_fe S i) := h.2.2.2.2.2.2.2.1
theorem RepM.ja {r : AF} {S : SC} (h : RepM r S) : ∀ j, j < s_m S → r (52 + 2 * j) = nI (s_ja S j) := h.2.2.2.2.2.2.2.2.1
theorem RepM.jb {r : AF} {S : SC} (h : RepM r S) : ∀ j, j < s_m S → r (52 + 2 * j + 1) = nI (s_jb S j) := h.2.2.2.2.2.2.2.2.2
theorem RepM.congr {r r' : AF} {S : SC} (h : RepM r S) (hO : OkC S) (e : ∀ x, x < 92 → r' x = r x) : RepM r' S := by
  have hn := hO.n
  have hm := hO.m
  exact ⟨(e _ (by omega)).trans h.n, (e _ (by omega)).trans h.m, (e _ (by omega)).trans h.sh, (e _ (by omega)).trans h.pi, fun i hi => (e _ (by omega)).trans (h.vo i hi), fun i hi => (e _ (by omega)).trans (h.ar i hi), fun i hi => (e _ (by omega)).trans (h.ch i hi), fun i hi => (e _ (by omega)).trans (h.fe i hi), fun j hj => (e _ (by omega)).trans (h.ja j hj), fun j hj => (e _ (by omega)).trans (h.jb j hj)⟩
def shf (r : AF) (o : Nat) : AF := fun x => r (o + x)
def sr (v : MV) (r : AF) : MV := (r, M_sa v, M_od v, M_st v, M_ne v, M_fd v, M_tx v, M_le v, M_at v, M_nu v, M_it v, M_h v)
theorem sr_self {v : MV} : sr v (M_ro v) = v := rfl
theorem z0 : (0 : Int32).toNatClampNeg = 0 := rfl
theorem z1 : (1 : Int32).toNatClampNeg = 1 := rfl
theorem z2 : (2 : Int32).toNatClampNeg = 2 := rfl
theorem z3 : (3 : Int32).toNatClampNeg = 3 := rfl
theorem ck0 {α : Type} {k : Option α} : ck (vp_in (0 : Int32) 644) k = k := ck_in (i := 0) (by omega) (by omega)
theorem ck1 {α : Type} {k : Option α} : ck (vp_in (1 : Int32) 644) k = k := ck_in (i := 1) (by omega) (by omega)
theorem ck2 {α : Type} {k : Option α} : ck (vp_in (2 : Int32) 644) k = k := ck_in (i := 2) (by omega) (by omega)
theorem ck3 {α : Type} {k : Option α} : ck (vp_in (3 : Int32) 644) k = k := ck_in (i := 3) (by omega) (by omega)
theorem lin (a b i : Nat) : nI a + nI b * nI i = nI (a + b * i) := by rw [pk_mul, nI_add]
theorem of_g {v : MV} {i c : Nat} (hi : i < 12) (hc : c < 4) : f_X5_of v (nI i) (nI c) = some (M_ro v (4 + 4 * i + c)) := by
  unfold f_X5_of
  rw [show (4 : Int32) = nI 4 from rfl, lin, nI_add, nm_s, ck_in (by omega) (by omega), cl_ (by omega)]
theorem of0 {v : MV} {S : SC} (h : RepM (M_ro v) S) (hO : OkC S) {i : Nat} (hi : i < s_n S) : f_X5_of v (nI i) 0 = some (nI (s_vo S i)) := by
  have := hO.n
  rw [show (0 : Int32) = nI 0 from rfl, of_g (by omega) (by omega), Nat.add_zero, h.vo i hi]
theorem of1 {v : MV} {S : SC} (h : RepM (M_ro v) S) (hO : OkC S) {i : Nat} (hi : i < s_n S) : f_X5_of v (nI i) 1 = some (nI (s_ar S i)) := by
  have := hO.n
  rw [show (1 : Int32) = nI 1 from rfl, of_g (by omega) (by omega), h.ar i hi]
theorem of2 {v : MV} {S : SC} (h : RepM (M_ro v) S) (hO : OkC S) {i : Nat} (hi : i < s_n S) : f_X5_of v (nI i) 2 = some (nI (s_ch S i)) := by
  have := hO.n
  rw [show (2 : Int32) = nI 2 from rfl, of_g (by omega) (by omega), h.ch i hi]
theorem of3 {v : MV} {S : SC} (h : RepM (M_ro v) S) (hO : OkC S) {i : Nat} (hi : i < s_n S) : f_X5_of v (nI i) 3 = some (nI (s_fe S i)) := by
  have := hO.n
  rw [show (3 : Int32) = nI 3 from rfl, of_g (by omega) (by omega), h.fe i hi]
theorem in_below {n : Nat} (hn : n < 2 ^ 31) (x : Int32) : (0 ≤ x ∧ x ≤ nI n - 1) ↔ inN n x := by
  cases n with
  | zero =>
    constructor
    · intro q
      have h1 := Int32.le_iff_toInt_le.mp q.1
      have h2 := Int32.le_iff_toInt_le.mp q.2
      have h3 : (nI 0 - 1).toInt = -1 := by decide
      have h4 : (0 : Int32).toInt = 0 := by decide
      omega
    · intro q; exact absurd q.2 (Int32.not_lt.mpr q.1)
  | succ n =>
    rw [nI_pred]
    constructor
    · intro q
      obtain ⟨k, hk, rfl⟩ := dig (by omega) q
      exact inN_nI hn (by omega)
    · intro q
      rcases in_out x hn with ⟨k, hk, rfl⟩ | z
      · exact ⟨nI_pos' (by omega), nI_le (by omega) (by omega)⟩
      · exact absurd q (inN_out z)
theorem isSec_ok {v : MV} {S : SC} (h : RepM (M_ro v) S) (hO : OkC S) (x : Int32) : f_X5_isSection v x = some (if inN (s_n S) x then 1 else 0) := by
  have hn := hO.n
  unfold f_X5_isSection
  rw [ck0, z0, h.n, in_ok, bd_s, ck_t (b01 _)]
  by_cases c : inN (s_n S) x
  · rw [if_pos ((in_below (by omega) x).mpr c), if_pos c]
  · rw [if_neg (fun z => c ((in_below (by omega) x).mp z)), if_neg c]
theorem isJnt_ok {v : MV} {S : SC} (h : RepM (M_ro v) S) (hO : OkC S) (x : Int32) : f_X5_isJoint v x = some (if inN (s_m S) x then 1 else 0) := by
  have hm := hO.m
  unfold f_X5_isJoint
  rw [ck1, z1, h.m, in_ok, bd_s, ck_t (b01 _)]
  by_cases c : inN (s_m S) x
  · rw [if_pos ((in_below (by omega) x).mpr c), if_pos c]
  · rw [if_neg (fun z => c ((in_below (by omega) x).mp z)), if_neg c]
def b2 (b : Bool) : Int32 := if b = true then 1 else 0
theorem b2_br {α : Type} {p q : Option α} {b : Bool} : br (b2 b = 0) p q = if b = true then q else p := by
  cases b
  · exact br_T rfl
  · exact br_F (by decide)
theorem b2_01 (b : Bool) : b2 b = 0 ∨ b2 b = 1 := by
  cases b
  · exact Or.inl rfl
  · exact Or.inr rfl
theorem neigh_ok {v : MV} {S : SC} (h : RepM (M_ro v) S) (hO : OkC S) {a b : Nat} (ha : a < 2 ^ 31) (hb : b < 2 ^ 31) : f_X5_areNeighbours v (nI a) (nI b) = some (b2 (nb S a b)) := by
  have hn := hO.n
  have hm := hO.m
  unfold f_X5_areNeighbours
  refine (?_ : f_X5_areNeighbours_b5 v (nI a) (nI b) FU (b2 (nbk S a b 0)) (nI 0) = _)
  refine loop0 (fun fu j => f_X5_areNeighbours_b5 v (nI a) (nI b) fu (b2 (nbk S a b j)) (nI j)) (s_m S) _ (by omega) (fun fu j hj => ?_) (fun fu => ?_)
  · obtain ⟨j1, j2, j3⟩ := hO.jj hj
    try dsimp only
    rw [f_X5_areNeighbours_b5]
    dsimp only
    rw [ck1, z1, h.m, br_le _ _ (by omega) (by omega), if_neg (by omega), show (52 : Int32) = nI 52 from rfl, show (2 : Int32) = nI 2 from rfl, lin, nm_s, ck_in (by omega) (by omega), nm_s, nI_1, nm_s, ck_in (by omega) (by omega), nm_s, cl_ (by omega), cl_ (by omega), h.ja j hj, h.jb j hj]
    unfold f_X5_areNeighbours_b62 f_X5_areNeighbours_b74 f_X5_areNeighbours_b78
    simp only [nm_s, nI_1]
    rw [br_eq _ _ (by omega) ha, br_eq _ _ (by omega) hb, br_eq _ _ (by omega) hb, br_eq _ _ (by omega) ha, b2_br, nbk_s]
    cases e : nbk S a b j with
    | true => rfl
    | false =>
      rw [Bool.false_or, if_neg (by simp)]
      by_cases c1 : s_ja S j = a
      · by_cases c2 : s_jb S j = b
        · rw [if_pos c1, if_pos c2, decide_eq_true (Or.inl ⟨c1, c2⟩)]; rfl
        · rw [if_pos c1, if_neg c2]
          by_cases c3 : s_ja S j = b
          · by_cases c4 : s_jb S j = a
            · rw [if_pos c3, if_pos c4, decide_eq_true (Or.inr ⟨c3, c4⟩)]; rfl
            · rw [if_pos c3, if_neg c4, decide_eq_false (by omega)]; rfl
          · rw [if_neg c3, decide_eq_false (by omega)]; rfl
      · rw [if_neg c1]
        by_cases c3 : s_ja S j = b
        · by_cases c4 : s_jb S j = a
          · rw [if_pos c3, if_pos c4, decide_eq_true (Or.inr ⟨c3, c4⟩)]; rfl
          · rw [if_pos c3, if_neg c4, decide_eq_false (by omega)]; rfl
        · rw [if_neg c3, decide_eq_false (by omega)]; rfl
  · try dsimp only
    rw [f_X5_areNeighbours_b5]
    dsimp only
    rw [ck1, z1, h.m, br_le _ _ (by omega) (by omega), if_pos (by omega), ck_b (b2_01 _)]
    rfl
/-! copies -/
def cpd (r : AF) (p q i : Nat) : AF := fun x => if 92 * q ≤ x ∧ x < 92 * q + i then r (92 * p + (x - 92 * q)) else r x
theorem cpd_0 {r : AF} {p q : Nat} : cpd r p q 0 = r := by
  funext x
  unfold cpd
  rw [if_neg (by omega)]
theorem cpd_s {r : AF} {p q i : Nat} {y : Int32} (hi : i < 92) (hy : y = cpd r p q i (92 * p + i)) : upd (cpd r p q i) (92 * q + i) y = cpd r p q (i + 1) := by
  have e : cpd r p q i (92 * p + i) = r (92 * p + i) := by
    unfold cpd
    rw [if_neg (by omega)]
  funext x
  unfold upd
  by_cases c : x = 92 * q + i
  · subst c
    rw [if_pos rfl, hy, e]
    unfold cpd
    rw [if_pos (by omega), show 92 * q + i - 92 * q = i from by omega]
  · rw [if_neg c]
    unfold cpd
    by_cases d : 92 * q ≤ x ∧ x < 92 * q + i
    · rw [if_pos d, if_pos (by omega)]
    · rw [if_neg d, if_neg (by omega)]
theorem copies_ok {v : MV} {p q : Nat} (hp : p ≤ 6) (hq : q ≤ 6) : f_X5_copies v (nI p) (nI q) = some (sr v (cpd (M_ro v) p q 92)) := by
  unfold f_X5_copies
  have e0 : v = sr v (cpd (M_ro v) p q 0) := by rw [cpd_0]; rfl
  refine (congrArg (fun z => f_X5_copies_b2 (nI p) (nI q) FU z (nI 0)) e0).trans ?_
  refine loop0 (fun fu i => f_X5_copies_b2 (nI p) (nI q) fu (sr v (cpd (M_ro v) p q i)) (nI i)) 92 _ (by omega) (fun fu i hi => ?_) (fun fu => ?_)
  · try dsimp only
    rw [f_X5_copies_b2]
    dsimp only [sr, M_ro, M_sa, M_od, M_st, M_ne, M_fd, M_tx, M_le, M_at, M_nu, M_it, M_h]
    rw [show (92 : Int32) = nI 92 from rfl, br_le _ _ (by omega) (by omega), if_neg (by omega)]
    rw [pk_mul, nI_add, pk_mul, nI_add, nm_s, ck_in (by omega) (by omega), nm_s, nm_s, ck_in (by omega) (by omega), nm_s, nm_s, nI_1, cl_ (by omega), cl_ (by omega), cpd_s hi rfl]
  · try dsimp only
    rw [f_X5_copies_b2]
    dsimp only
    rw [show (92 : Int32) = nI 92 from rfl, br_le _ _ (by omega) (by omega), if_pos (by omega)]
theorem cpd_in {r : AF} {p q x : Nat} (hx : x < 92) : cpd r p q 92 (92 * q + x) = r (92 * p + x) := by
  unfold cpd
  rw [if_pos (by omega), show 92 * q + x - 92 * q = x from by omega]
theorem cpd_out {r : AF} {p q x : Nat} (hx : x < 92 * q ∨ 92 * q + 92 ≤ x) : cpd r p q 92 x = r x := by
  unfold cpd
  rw [if_neg (by omega)]
/-- the kth casting kept in r -/
abbrev RepK (r : AF) (k : Nat) (S : SC) : Prop := RepM (shf r (92 * k)) S
theorem repK_0 {r : AF} {S : SC} : RepK r 0 S ↔ RepM r S := by
  have : shf r (92 * 0) = r := by
    funext x
    unfold shf
    rw [Nat.mul_zero, Nat.zero_add]
  show RepM (shf r (92 * 0)) S ↔ _
  rw [this]
theorem cpd_to {r : AF} {p q : Nat} {S : SC} (h : RepK r p S) (hO : OkC S) : RepK (cpd r p q 92) q S :=
  h.congr hO (fun x hx => cpd_in hx)
theorem cpd_else {r : AF} {p q k : Nat} {S : SC} (hk : k ≠ q) (h : RepK r k S) (hO : OkC S) : RepK (cpd r p q 92) k S :=
  h.congr hO (fun x hx => cpd_out (by omega))
def HistM (r : AF) (k : Nat) (hs : Nat → SC) : Prop := ∀ t, t < k → RepK r (t + 1) (hs t)
theorem HistM.congr {r r' : AF} {k : Nat} {hs : Nat → SC} (h : HistM r k hs) (e : ∀ x, 92 ≤ x → r' x = r x) : HistM r' k hs := by
  intro t ht
  have : shf r' (92 * (t + 1)) = shf r (92 * (t + 1)) := by
    funext x
    exact e _ (by omega)
  show RepM (shf r' (92 * (t + 1))) (hs t)
  rw [this]
  exact h t ht
/-- the kept castings moved on by one, from the first to the ith -/
def mvd (r : AF) : Nat → AF
  | 0 => r
  | i + 1 => cpd (mvd r i) (i + 2) (i + 1) 92
theorem mvd_ok {r : AF} {hs : Nat → SC} (h : HistM r 5 hs) (hO : ∀ t, t < 5 → OkC (hs t)) : ∀ i, i ≤ 4 → (∀ t, t < i → RepK (mvd r i) (t + 1) (hs (t + 1))) ∧ (∀ t, i ≤ t → t < 5 → RepK (mvd r i) (t + 1) (hs t)) ∧ ∀ x, x < 92 → mvd r i x = r x := by
  intro i
  induction i with
  | zero => intro _; exact ⟨fun t ht => by omega, fun t _ ht => h t ht, fun x _ => rfl⟩
  | succ i ih =>
    intro hi
    obtain ⟨a, b, c⟩ := ih (by omega)
    refine ⟨fun t ht => ?_, fun t h1 h2 => ?_, fun x hx => ?_⟩
    · by_cases q : t = i
      · subst q
        exact cpd_to (b (t + 1) (by omega) (by omega)) (hO _ (by omega))
      · exact cpd_else (by omega) (a t (by omega)) (hO _ (by omega))
    · exact cpd_else (by omega) (b t (by omega) h2) (hO _ (by omega))
    · exact (cpd_out (by omega)).trans (c x hx)
def sv (v : MV) (r : AF) (k : Nat) : MV := (r, nI k, M_od v, M_st v, M_ne v, M_fd v, M_tx v, M_le v, M_at v, M_nu v, M_it v, M_h v)
theorem b29_ok {v : MV} {k : Nat} (hk : k ≤ 5) (hsa : M_sa v = nI k) : f_X5_saves_b29 v = some (sv v (cpd (M_ro v) 0 (pkk k) 92) (pkk k)) := by
  unfold f_X5_saves_b29 pkk
  rw [hsa, show (5 : Int32) = nI 5 from rfl, br_eq _ _ (by omega) (by omega)]
  by_cases c : k = 5
  · subst c
    rw [if_pos rfl, if_neg (by omega), nm_s, nm_s, show (nI 5 - 1 + 1 : Int32) = nI 5 from by decide, show (0 : Int32) = nI 0 from rfl, copies_ok (by omega) (by omega), bd_s]
    rfl
  · rw [if_neg c, if_pos (by omega), nm_s, nm_s, show (nI k - 0 : Int32) = nI k from by simp, nI_1, show (0 : Int32) = nI 0 from rfl, copies_ok (by omega) (by omega), bd_s]
    rfl
theorem saves_ok {v : MV} {S : SC} {k : Nat} {hs : Nat → SC} (hk : k ≤ 5) (hsa : M_sa v = nI k) (h : RepM (M_ro v) S) (hO : OkC S) (hh : HistM (M_ro v) k hs) (hhO : ∀ t, t < k → OkC (hs t)) : ∃ r', f_X5_saves v = some (sv v r' (pkk k)) ∧ RepM r' S ∧ HistM r' (pkk k) (ph k hs S) := by
  unfold f_X5_saves
  by_cases c : k = 5
  · subst c
    refine ⟨cpd (mvd (M_ro v) 4) 0 5 92, ?_, ?_, ?_⟩
    · refine (?_ : f_X5_saves_b2 FU (sr v (mvd (M_ro v) 0)) (nI (0 + 1)) = _)
      refine loop0 (fun fu i => f_X5_saves_b2 fu (sr v (mvd (M_ro v) i)) (nI (i + 1))) 4 _ (by omega) (fun fu i hi => ?_) (fun fu => ?_)
      · try dsimp only
        rw [f_X5_saves_b2]
        dsimp only
        rw [show M_sa (sr v (mvd (M_ro v) i)) = nI 5 from hsa, show (5 : Int32) = nI 5 from rfl, br_le _ _ (by omega) (by omega), if_neg (by omega), br_eq _ _ (by omega) (by omega), if_pos rfl, nI_1, copies_ok (by omega) (by omega), bd_s, nm_s]
        rfl
      · try dsimp only
        rw [f_X5_saves_b2]
        dsimp only
        rw [show (5 : Int32) = nI 5 from rfl, br_le _ _ (by omega) (by omega), if_pos (by omega)]
        exact b29_ok (v := sr v (mvd (M_ro v) 4)) (k := 5) (by omega) hsa
    · obtain ⟨a, b, c⟩ := mvd_ok hh hhO 4 (by omega)
      exact (h.congr hO c).congr hO (fun x hx => cpd_out (by omega))
    · obtain ⟨a, b, c⟩ := mvd_ok hh hhO 4 (by omega)
      intro t ht
      have ht' : t < 5 := ht
      show RepK (cpd (mvd (M_ro v) 4) 0 5 92) (t + 1) (va_up (fun t => hs (t + 1)) 4 S t)
      unfold va_up
      by_cases d : t = 4
      · subst d
        rw [if_pos rfl]
        exact cpd_to (repK_0.mpr (h.congr hO c)) hO
      · rw [if_neg d]
        exact cpd_else (by omega) (a t (by omega)) (hhO _ (by omega))
  · have hk' : k < 5 := by omega
    refine ⟨cpd (M_ro v) 0 (pkk k) 92, ?_, ?_, ?_⟩
    · show f_X5_saves_b2 (999999 + 1) v 1 = _
      rw [f_X5_saves_b2]
      dsimp only
      rw [hsa, show (5 : Int32) = nI 5 from rfl, show (1 : Int32) = nI 1 from rfl, br_le _ _ (by omega) (by omega), if_neg (by omega), br_eq _ _ (by omega) (by omega), if_neg c, b29_ok hk hsa]
    · unfold pkk
      rw [if_pos hk']
      exact h.congr hO (fun x hx => cpd_out (by omega))
    · unfold pkk ph
      rw [if_pos hk', if_pos hk']
      intro t ht
      unfold va_up
      by_cases d : t = k
      · subst d
        rw [if_pos rfl]
        exact cpd_to (repK_0.mpr h) hO
      · rw [if_neg d]
        exact cpd_else (by omega) (hh t (by omega)) (hhO _ (by omega))
