/-! ===== 54: the least feeder and the least chill ===== -/
/-- the casting with its freezing, its history; whatever stands in the trial -/
def Ls (vt : TV) (v : CV) (w : FV) (g : HV) (σ : ST) : Prop := RelC v w g vt σ ∧ OkT σ
theorem Ls.cg {vt : TV} {v : CV} {w : FV} {g : HV} {σ : ST} (h : Ls vt v w g σ) : Cg v w (t_S σ) := ⟨h.1.c, h.1.f, h.2.S⟩
theorem Ls.dg {vt : TV} {v : CV} {w : FV} {g : HV} {σ : ST} (h : Ls vt v w g σ) : f_X4_digest v w = some (dig_ (t_S σ)) := digest_ok h.1.c h.1.f h.2.S
theorem pkk_pos (k : Nat) : 0 < pkk k := by unfold pkk; split <;> omega
theorem ph_top {k : Nat} {hs : Nat → SC} {S : SC} : ph k hs S (pkk k - 1) = S := by
  by_cases c : k < 5
  · rw [show pkk k = k + 1 from if_pos c, show ph k hs S = va_up hs k S from if_pos c]
    exact if_pos (show k + 1 - 1 = k from by omega)
  · rw [show pkk k = 5 from if_neg c, show ph k hs S = va_up (fun t => hs (t + 1)) 4 S from if_neg c]
    exact if_pos (show 5 - 1 = 4 from rfl)
theorem ph_two {k : Nat} {hs : Nat → SC} {S S1 : SC} (hk : k ≤ 5) : ph (pkk k) (ph k hs S) S1 (pkk (pkk k) - 1 - 1) = S ∧ ¬ pkk (pkk k) - 1 = 0 := by
  rcases (show k < 4 ∨ k = 4 ∨ k = 5 from by omega) with c | rfl | rfl
  · have e1 : pkk k = k + 1 := if_pos (by omega)
    have e2 : pkk (k + 1) = k + 1 + 1 := if_pos (by omega)
    have e3 : ph (k + 1) (ph k hs S) S1 = va_up (ph k hs S) (k + 1) S1 := if_pos (by omega)
    have e4 : ph k hs S = va_up hs k S := if_pos (by omega)
    rw [e1, e2, e3, e4, show k + 1 + 1 - 1 - 1 = k from by omega]
    refine ⟨?_, by omega⟩
    show (if k = k + 1 then S1 else (if k = k then S else hs k)) = S
    rw [if_neg (by omega), if_pos rfl]
  · exact ⟨rfl, by decide⟩
  · exact ⟨rfl, by decide⟩
/-- what is put on the history comes back -/
theorem undo_put {σ : ST} (S' : SC) : ∃ j k hs, spUndo (put σ S') = (nI j, (t_S σ, k, hs, t_c σ, t_L σ)) ∧ j < 2 ^ 31 := by
  have hp : t_k (put σ S') = pkk (t_k σ) := rfl
  have h0 : ¬ t_k (put σ S') = 0 := by
    have := pkk_pos (t_k σ)
    rw [hp]
    omega
  have hS : t_h (put σ S') (t_k (put σ S') - 1) = t_S σ := ph_top
  refine ⟨t_k (put σ S') - 1, t_k (put σ S') - 1, t_h (put σ S'), ?_, ?_⟩
  · unfold spUndo
    rw [if_neg h0, hS]
    rfl
  · have := pkk_le (t_k σ)
    rw [hp]
    omega
/-! the least feeder's number -/
theorem lf_spec {S : SC} {i : Nat} : ∀ (d k : Nat), k + d = 16 → (lf S i d k = -1 ∧ ∀ z, k ≤ z → z ≤ 15 → exAll (trial S i z) ≠ 0) ∨ ∃ z, k ≤ z ∧ z ≤ 15 ∧ lf S i d k = nI z ∧ exAll (trial S i z) = 0 ∧ ∀ y, k ≤ y → y < z → exAll (trial S i y) ≠ 0
  | 0, k, h => Or.inl ⟨rfl, fun z h1 h2 => by omega⟩
  | d + 1, k, h => by
    unfold lf
    by_cases c : exAll (trial S i k) = 0
    · rw [if_pos c]
      exact Or.inr ⟨k, Nat.le_refl _, by omega, rfl, c, fun y h1 h2 => by omega⟩
    · rw [if_neg c]
      rcases lf_spec d (k + 1) (by omega) with ⟨e, q⟩ | ⟨z, h1, h2, e, q1, q2⟩
      · refine Or.inl ⟨e, fun z h1 h2 => ?_⟩
        by_cases y : z = k
        · subst y; exact c
        · exact q z (by omega) h2
      · refine Or.inr ⟨z, by omega, h2, e, q1, fun y h3 h4 => ?_⟩
        by_cases x : y = k
        · subst x; exact c
        · exact q2 y (by omega) h4
theorem lc_spec {S : SC} {i : Nat} : ∀ (d c : Nat), c + d = 501 → (lc S i d c = -1 ∧ ∀ z, c ≤ z → z ≤ 500 → exAll (sChill S i z) ≠ 0) ∨ ∃ z, c ≤ z ∧ z ≤ 500 ∧ lc S i d c = nI z ∧ exAll (sChill S i z) = 0 ∧ ∀ y, c ≤ y → y < z → exAll (sChill S i y) ≠ 0
  | 0, k, h => Or.inl ⟨rfl, fun z h1 h2 => by omega⟩
  | d + 1, k, h => by
    unfold lc
    by_cases c : exAll (sChill S i k) = 0
    · rw [if_pos c]
      exact Or.inr ⟨k, Nat.le_refl _, by omega, rfl, c, fun y h1 h2 => by omega⟩
    · rw [if_neg c]
      rcases lc_spec d (k + 1) (by omega) with ⟨e, q⟩ | ⟨z, h1, h2, e, q1, q2⟩
      · refine Or.inl ⟨e, fun z h1 h2 => ?_⟩
        by_cases y : z = k
        · subst y; exact c
        · exact q z (by omega) h2
      · refine Or.inr ⟨z, by omega, h2, e, q1, fun y h3 h4 => ?_⟩
        by_cases x : y = k
        · subst x; exact c
        · exact q2 y (by omega) h4
/-! the best of all -/
theorem bi_spec {S : SC} {k : Nat} : ∀ (d x : Nat), (bi S k d x = none ∧ ∀ z, x ≤ z → z < x + d → exAll (trial S z k) ≠ 0) ∨ ∃ z, x ≤ z ∧ z < x + d ∧ bi S k d x = some (nI (100 * k + z)) ∧ exAll (trial S z k) = 0 ∧ ∀ y, x ≤ y → y < z → exAll (trial S y k) ≠ 0
  | 0, x => Or.inl ⟨rfl, fun z h1 h2 => by omega⟩
  | d + 1, x => by
    unfold bi
    by_cases c : exAll (trial S x k) = 0
    · rw [if_pos c]
      refine Or.inr ⟨x, Nat.le_refl _, by omega, ?_, c, fun y h1 h2 => by omega⟩
      rw [show (100 : Int32) = nI 100 from rfl, pk_mul, nI_add]
    · rw [if_neg c]
      rcases bi_spec (S := S) (k := k) d (x + 1) with ⟨e, q⟩ | ⟨z, h1, h2, e, q1, q2⟩
      · refine Or.inl ⟨e, fun z h1 h2 => ?_⟩
        by_cases y : z = x
        · subst y; exact c
        · exact q z (by omega) (by omega)
      · refine Or.inr ⟨z, by omega, by omega, e, q1, fun y h3 h4 => ?_⟩
        by_cases w : y = x
        · subst w; exact c
        · exact q2 y (by omega) h4
/-- some feeder does, and none that is smaller: its number; or none does -/
def BestF (S : SC) (n : Nat) (o : Option (Nat × Nat)) : Prop := match o with
  | none => ∀ z i, 1 ≤ z → z ≤ 15 → i < n → exAll (trial S i z) ≠ 0
  | some (z, i) => (1 ≤ z ∧ z ≤ 15) ∧ i < n ∧ exAll (trial S i z) = 0 ∧ ∀ y j, 1 ≤ y → y ≤ 15 → j < n → 100 * y + j < 100 * z + i → exAll (trial S j y) ≠ 0
def bnum (o : Option (Nat × Nat)) : Int32 := match o with
  | none => -1
  | some (z, i) => nI (100 * z + i)
theorem bo_spec {S : SC} (hn : s_n S ≤ 12) : ∀ (d k : Nat), k + d = 16 → 1 ≤ k → (∀ y j, 1 ≤ y → y < k → j < s_n S → exAll (trial S j y) ≠ 0) → ∃ o, BestF S (s_n S) o ∧ bo S d k = bnum o
  | 0, k, h, _, h1 => ⟨none, fun z i a b c => h1 z i a (by omega) c, rfl⟩
  | d + 1, k, h, h0, h1 => by
    rcases bi_spec (S := S) (k := k) (s_n S) 0 with ⟨e, q⟩ | ⟨z, a1, a2, e, q1, q2⟩
    · rw [bo_n e]
      refine bo_spec hn d (k + 1) (by omega) (by omega) (fun y j b1 b2 b3 => ?_)
      by_cases c : y = k
      · subst c; exact q j (Nat.zero_le _) (by omega)
      · exact h1 y j b1 (by omega) b3
    · rw [bo_s e]
      refine ⟨some (k, z), ⟨⟨h0, by omega⟩, by omega, q1, fun y j b1 b2 b3 b4 => ?_⟩, rfl⟩
      by_cases c : y = k
      · subst c; exact q2 j (Nat.zero_le _) (by omega)
      · exact h1 y j b1 (by omega) b3
theorem bestF_uniq {S : SC} {n : Nat} (hn : n ≤ 12) {o p : Option (Nat × Nat)} (h1 : BestF S n o) (h2 : BestF S n p) : bnum o = bnum p := by
  cases o with
  | none =>
    cases p with
    | none => rfl
    | some p => exact absurd h2.2.2.1 (h1 _ _ h2.1.1 h2.1.2 h2.2.1)
  | some o =>
    cases p with
    | none => exact absurd h1.2.2.1 (h2 _ _ h1.1.1 h1.1.2 h1.2.1)
    | some p =>
      obtain ⟨z, i⟩ := o
      obtain ⟨y, j⟩ := p
      show nI (100 * z + i) = nI (100 * y + j)
      have a : ¬ 100 * z + i < 100 * y + j := fun q => h2.2.2.2 z i h1.1.1 h1.1.2 h1.2.1 q h1.2.2.1
      have b : ¬ 100 * y + j < 100 * z + i := fun q => h1.2.2.2 y j h2.1.1 h2.1.2 h2.2.1 q h2.2.2.1
      rw [show 100 * z + i = 100 * y + j from by omega]
/-! the last piece: the chill -/
theorem chill_self {S : SC} {i : Nat} : sChill S i (s_ch S i) = S := by
  have : va_up (s_ch S) i (s_ch S i) = s_ch S := by
    funext j
    unfold va_up
    by_cases c : j = i
    · rw [if_pos c, c]
    · rw [if_neg c]
  show (s_n S, s_m S, s_sh S, s_pi S, s_vo S, s_ar S, va_up (s_ch S) i (s_ch S i), s_fe S, s_ja S, s_jb S) = S
  rw [this]
  rfl
theorem exw {v vr : CV} {vd : FV} {S : SC} (h : RepC v S) (hO : OkC S) {i a : Nat} (hi : i < s_n S) (ha : a ≤ 500) : ∃ vr' vd', f_X4_excessWith v vr vd (nI i) (nI a) = some (nI (exAll (sChill S i a)), vr', vd') := by
  obtain ⟨vr', vd', e⟩ := excessWith_ok (vr := vr) (vd := vd) h hO hi (nI a)
  rw [if_pos ⟨nI_pos' (by omega), nI_le (b := 500) ha (by omega)⟩, cl_ (by omega)] at e
  exact ⟨vr', vd', e⟩
/-- the end of isLeast: what it answers, over which casting -/
def LsE (vt : TV) (σ : ST) (r : Option (Int32 × CV × FV × HV × CV × FV)) : Prop := ∃ v w g vr vd k hs, r = some (1, v, w, g, vr, vd) ∧ Ls vt v w g (t_S σ, k, hs, t_c σ, t_L σ)
theorem b372_ok {vt : TV} {v vr : CV} {w vd : FV} {g : HV} {σ : ST} (h : Ls vt v w g σ) : LsE vt σ (f_L_isLeast_b372 v w g vr vd (dig_ (t_S σ))) := by
  unfold f_L_isLeast_b372
  rw [h.dg, bd_s, br_T ((lg_cmp_eq _ _).mpr rfl)]
  exact ⟨v, w, g, vr, vd, t_k σ, t_h σ, rfl, h⟩
theorem b336_ok {vt : TV} {v vr : CV} {w vd : FV} {g : HV} {σ : ST} (h : Ls vt v w g σ) {i : Nat} (hi : i < s_n (t_S σ)) : LsE vt σ (f_L_isLeast_b336 v w g vr vd (nI i) (dig_ (t_S σ)) (lc (t_S σ) i 501 0) (nI (s_ch (t_S σ) i))) := by
  have hn := h.2.S.n
  unfold f_L_isLeast_b336
  rcases lc_spec (S := t_S σ) (i := i) 501 0 rfl with ⟨e, -⟩ | ⟨z, -, h2, e, q1, -⟩
  · rw [e, br_T m1_lt]
    exact b372_ok h
  · rw [e, br_F (nI_pos (by omega))]
    obtain ⟨v1, w1, g1, e1, hR⟩ := chill_c h.1 h.2 (x1 := nI i) (x2 := nI z)
    have hz : spChill σ (nI i) (nI z) = (nI (s_ch (t_S σ) i), put σ (sChill (t_S σ) i z)) := by
      unfold spChill
      rw [if_pos (inN_nI (by omega) hi), if_pos ⟨nI_pos' (by omega), nI_le (b := 500) h2 (by omega)⟩, cl_ (by omega), cl_ (by omega)]
    rw [hz] at e1 hR
    have hO1 : OkT (put σ (sChill (t_S σ) i z)) := put_ok h.2 (sChill_ok h.2.S h2)
    have hg1 : Cg v1 w1 (sChill (t_S σ) i z) := ⟨hR.c, hR.f, hO1.S⟩
    rw [e1]
    show LsE vt σ (br (nI (s_ch (t_S σ) i) = nI (s_ch (t_S σ) i)) _ _)
    rw [br_T rfl, cnt9 hg1, bd_s, if_pos q1, br_T (show nI 1 = 1 from rfl)]
    obtain ⟨v2, w2, g2, e2, hR2⟩ := undo_c hR hO1
    obtain ⟨j, k, hs, e3, hj⟩ := undo_put (σ := σ) (sChill (t_S σ) i z)
    have hO2 := spUndo_ok hO1
    rw [e3] at e2 hR2 hO2
    rw [e2]
    show LsE vt σ (br (0 ≤ nI j) _ _)
    rw [br_T (nI_pos' hj)]
    obtain ⟨v3, w3, g3, vr3, vd3, k3, hs3, q, hq⟩ := b372_ok (σ := (t_S σ, k, hs, t_c σ, t_L σ)) (vr := vr) (vd := vd) ⟨hR2, hO2⟩
    exact ⟨v3, w3, g3, vr3, vd3, k3, hs3, q, hq⟩
theorem b312_ok {vt : TV} {v vr : CV} {w vd : FV} {g : HV} {σ : ST} (h : Ls vt v w g σ) {i : Nat} (hi : i < s_n (t_S σ)) : LsE vt σ (f_L_isLeast_b312 v w g vr vd (nI i) (dig_ (t_S σ)) (lc (t_S σ) i 501 0) (nI (s_ch (t_S σ) i))) := by
  unfold f_L_isLeast_b312
  rcases lc_spec (S := t_S σ) (i := i) 501 0 rfl with ⟨e, q⟩ | ⟨z, -, h2, e, q1, -⟩
  · have e' := e
    obtain ⟨vr1, vd1, x1⟩ := exw (vr := vr) (vd := vd) h.1.c h.2.S hi (a := 500) (Nat.le_refl _)
    have hx := exAll_small (sChill_ok h.2.S (i := i) (Nat.le_refl 500))
    have x1 : f_X4_excessWith v vr vd (nI i) 500 = some (nI (exAll (sChill (t_S σ) i 500)), vr1, vd1) := x1
    rw [br_F (by rw [e]; decide), br_T e, x1, bd3_s, br_F (nI_ne0 (Nat.pos_of_ne_zero (q 500 (by omega) (Nat.le_refl _))) (by omega))]
    exact b336_ok h hi
  · rw [br_T (by rw [e]; exact nI_pos' (by omega))]
    exact b336_ok h hi
theorem b297_ok {vt : TV} {v vr : CV} {w vd : FV} {g : HV} {σ : ST} (h : Ls vt v w g σ) {i : Nat} (hi : i < s_n (t_S σ)) : LsE vt σ (f_L_isLeast_b297 v w g vr vd (nI i) (dig_ (t_S σ)) (lc (t_S σ) i 501 0) (nI (s_ch (t_S σ) i))) := by
  unfold f_L_isLeast_b297
  rcases lc_spec (S := t_S σ) (i := i) 501 0 rfl with ⟨e, q⟩ | ⟨z, -, h2, e, q1, -⟩
  · rw [br_T (by rw [e]; decide)]
    exact b312_ok h hi
  · obtain ⟨vr1, vd1, x1⟩ := exw (vr := vr) (vd := vd) h.1.c h.2.S hi (a := z) h2
    rw [← e] at x1
    rw [br_F (by rw [e]; exact nI_pos (by omega)), x1, bd3_s, q1, br_T (show nI 0 = 0 from rfl)]
    exact b312_ok h hi
theorem b249_ok {vt : TV} {v vr : CV} {w vd : FV} {g : HV} {σ : ST} (h : Ls vt v w g σ) {i : Nat} (hi : i < s_n (t_S σ)) : LsE vt σ (f_L_isLeast_b249 v w g vr vd (nI i) (dig_ (t_S σ))) := by
  have hc := h.2.S.ch hi
  have hx := exAll_small h.2.S
  obtain ⟨vr1, vd1, e1⟩ := leastChill_ok (vr := vr) (vd := vd) h.1.c h.2.S hi
  obtain ⟨vr2, vd2, e2⟩ := exw (vr := vr1) (vd := vd1) h.1.c h.2.S hi (a := s_ch (t_S σ) i) hc
  rw [chill_self] at e2
  unfold f_L_isLeast_b249
  rw [e1, bd3_s, sec2 h.cg hi, bd_s, e2, bd3_s, cnt7 h.cg, bd_s, br_T rfl]
  rcases lc_spec (S := t_S σ) (i := i) 501 0 rfl with ⟨e, q⟩ | ⟨z, -, h2, e, q1, q2⟩
  · rw [br_T (by rw [e]; decide)]
    exact b297_ok h hi
  · by_cases z0 : z = 0
    · subst z0
      rw [br_T (by rw [e]; decide)]
      exact b297_ok h hi
    · obtain ⟨vr3, vd3, e3⟩ := exw (vr := vr2) (vd := vd2) h.1.c h.2.S hi (a := z - 1) (by omega)
      have hx3 := exAll_small (sChill_ok h.2.S (i := i) (a := z - 1) (by omega))
      have e3 : f_X4_excessWith v vr2 vd2 (nI i) (lc (t_S σ) i 501 0 - 1) = some (nI (exAll (sChill (t_S σ) i (z - 1))), vr3, vd3) := by
        rw [e, pred_nI (by omega)]
        exact e3
      rw [br_F (by rw [e]; exact nI_nle (by omega) (by omega)), e3, bd3_s, br_F (nI_ne0 (Nat.pos_of_ne_zero (q2 (z - 1) (by omega) (by omega))) (by omega))]
      exact b297_ok h hi
/-! the best of the least feeders -/
theorem bnum_neg {o : Option (Nat × Nat)} (h : ∀ q, o = some q → q.1 ≤ 15 ∧ q.2 < 12) : bnum o < 0 ↔ o = none := by
  cases o with
  | none => exact ⟨fun _ => rfl, fun _ => m1_lt⟩
  | some q =>
    obtain ⟨a, b⟩ := h q rfl
    exact ⟨fun z => absurd z (nI_pos (n := 100 * q.1 + q.2) (by omega)), fun z => by cases z⟩
theorem b181_loop {vt : TV} {v : CV} {w : FV} {g : HV} {σ : ST} (h : Ls vt v w g σ) (hn : s_n (t_S σ) < 12) (hm : s_m (t_S σ) < 20) {i : Nat} (hi : i < s_n (t_S σ)) :
    ∀ (d k fu : Nat) (o : Option (Nat × Nat)) (vr : CV) (vd : FV), k + d = s_n (t_S σ) → d < fu → BestF (t_S σ) k o → LsE vt σ (f_L_isLeast_b181 (nI i) (dig_ (t_S σ)) (nI (s_n (t_S σ))) (bo (t_S σ) 15 1) fu v w g vr vd (bnum o) (nI k)) := by
  intro d
  induction d with
  | zero =>
    intro k fu o vr vd h1 h2 h3
    obtain ⟨fu, rfl⟩ : ∃ z, fu = z + 1 := ⟨fu - 1, by omega⟩
    obtain rfl : k = s_n (t_S σ) := by omega
    obtain ⟨p, p1, p2⟩ := bo_spec (S := t_S σ) (by omega) 15 1 rfl (Nat.le_refl _) (fun y j a b c => by omega)
    rw [f_L_isLeast_b181]
    dsimp only
    rw [br_le _ _ (by omega) (by omega), if_pos (Nat.le_refl _), br_T (p2.trans (bestF_uniq (by omega) p1 h3))]
    exact b249_ok h hi
  | succ d ih =>
    intro k fu o vr vd h1 h2 h3
    obtain ⟨fu, rfl⟩ : ∃ z, fu = z + 1 := ⟨fu - 1, by omega⟩
    have hk : k < s_n (t_S σ) := by omega
    obtain ⟨vr1, vd1, e1⟩ := leastFeeder_ok (vr := vr) (vd := vd) h.1.c h.2.S hk
    have ea : aLF (t_S σ) k = lf (t_S σ) k 15 1 := if_pos ⟨hn, hm⟩
    rw [ea] at e1
    have ho : ∀ q, o = some q → q.1 ≤ 15 ∧ q.2 < 12 := by
      intro q e
      subst e
      obtain ⟨a, b⟩ := q
      exact ⟨h3.1.2, Nat.lt_trans h3.2.1 (by omega)⟩
    rw [f_L_isLeast_b181]
    dsimp only
    rw [br_le _ _ (by omega) (by omega), if_neg (by omega), e1, bd3_s]
    -- the two ways on
    have stay : ∀ o', o' = o → BestF (t_S σ) (k + 1) o → LsE vt σ (f_L_isLeast_b230 (f_L_isLeast_b181 (nI i) (dig_ (t_S σ)) (nI (s_n (t_S σ))) (bo (t_S σ) 15 1) fu) (nI i) (dig_ (t_S σ)) (nI (s_n (t_S σ))) (bo (t_S σ) 15 1) v w g vr1 vd1 (bnum o') (nI k)) := by
      intro o' e hb
      subst e
      unfold f_L_isLeast_b230
      rw [nm_s, nI_1]
      exact ih (k + 1) fu o' vr1 vd1 (by omega) (by omega) hb
    have take : ∀ z, BestF (t_S σ) (k + 1) (some (z, k)) → LsE vt σ (f_L_isLeast_b219 (f_L_isLeast_b181 (nI i) (dig_ (t_S σ)) (nI (s_n (t_S σ))) (bo (t_S σ) 15 1) fu) (nI i) (dig_ (t_S σ)) (nI (s_n (t_S σ))) (bo (t_S σ) 15 1) v w g vr1 vd1 (nI k) (nI z)) := by
      intro z hb
      unfold f_L_isLeast_b219
      rw [nm_s, nm_s, nI_1, show (100 : Int32) = nI 100 from rfl, pk_mul, nI_add]
      exact ih (k + 1) fu (some (z, k)) vr1 vd1 (by omega) (by omega) hb
    rcases lf_spec (S := t_S σ) (i := k) 15 1 rfl with ⟨e, q⟩ | ⟨z, z1, z2, e, q1, q2⟩
    · rw [e, br_T (show (-1 : Int32) ≤ 0 from by decide)]
      refine stay o rfl ?_
      cases o with
      | none =>
        intro z j a b c
        by_cases x : j = k
        · subst x; exact q z a b
        · exact h3 z j a b (by omega)
      | some p =>
        obtain ⟨z, j⟩ := p
        refine ⟨h3.1, Nat.lt_succ_of_lt h3.2.1, h3.2.2.1, fun y j' a b c c' => ?_⟩
        by_cases x : j' = k
        · subst x; exact q y a b
        · exact h3.2.2.2 y j' a b (by omega) c'
    · rw [e, br_F (nI_nle (by omega) (by omega))]
      cases o with
      | none =>
        rw [br_T (show bnum none < 0 from m1_lt)]
        refine take z ⟨⟨z1, z2⟩, Nat.lt_succ_self _, q1, fun y j a b c c' => ?_⟩
        by_cases x : j = k
        · subst x; exact q2 y a (by omega)
        · exact h3 y j a b (by omega)
      | some p =>
        obtain ⟨zp, ip⟩ := p
        obtain ⟨p1, p2, p3, p4⟩ := h3
        rw [br_F (show ¬ bnum (some (zp, ip)) < 0 from nI_pos (n := 100 * zp + ip) (by omega)), show (100 : Int32) = nI 100 from rfl, pk_mul, nI_add, show bnum (some (zp, ip)) = nI (100 * zp + ip) from rfl, br_le _ _ (by omega) (by omega)]
        by_cases c : 100 * zp + ip ≤ 100 * z + k
        · rw [if_pos c]
          refine stay (some (zp, ip)) rfl ⟨p1, Nat.lt_succ_of_lt p2, p3, fun y j a b d1 d2 => ?_⟩
          by_cases x : j = k
          · subst x; exact q2 y a (by omega)
          · exact p4 y j a b (by omega) d2
        · rw [if_neg c]
          refine take z ⟨⟨z1, z2⟩, Nat.lt_succ_self _, q1, fun y j a b d1 d2 => ?_⟩
          by_cases x : j = k
          · subst x; exact q2 y a (by omega)
          · exact p4 y j a b (by omega) (by omega)
/-! the feeders, one after the other -/
/-- what must hold of a size: it does if it is the least one, and doesn't if it is smaller -/
theorem lf_does {S : SC} {i k : Nat} (hk : 1 ≤ k ∧ k ≤ 15) : (lf S i 15 1 < 0 ∨ ¬ lf S i 15 1 ≤ nI k → exAll (trial S i k) ≠ 0) ∧ (nI k = lf S i 15 1 → exAll (trial S i k) = 0) := by
  rcases lf_spec (S := S) (i := i) 15 1 rfl with ⟨e, q⟩ | ⟨z, z1, z2, e, q1, q2⟩
  · rw [e]
    exact ⟨fun _ => q k hk.1 hk.2, fun z => absurd z (m1_ne k (by omega))⟩
  · rw [e]
    refine ⟨fun a => ?_, fun a => ?_⟩
    · rcases a with a | a
      · exact absurd a (nI_pos (by omega))
      · exact q2 k hk.1 (by rw [nI_leI (by omega) (by omega)] at a; omega)
    · have := nI_inj (by omega) (by omega) a
      subst this
      exact q1
theorem b149_ok {v vr : CV} {w vd : FV} {g : HV} {S : SC} {i k n : Nat} {D : Int64} {kk : CV → FV → HV → CV → FV → Int32 → Option (Int32 × CV × FV × HV × CV × FV)} (hk : 1 ≤ k ∧ k ≤ 15) : f_L_isLeast_b149 kk (nI i) D (nI n) (lf S i 15 1) v w g vr vd (nI k) (nI (if exAll (trial S i k) = 0 then 1 else 0)) = kk v w g vr vd (nI (k + 1)) := by
  unfold f_L_isLeast_b149
  by_cases c : nI k = lf S i 15 1
  · rw [br_T c, if_pos ((lf_does hk).2 c), br_F (show ¬ nI 1 = 0 from by decide), nm_s, nI_1]
  · rw [br_F c, nm_s, nI_1]
theorem b144_ok {v vr : CV} {w vd : FV} {g : HV} {S : SC} {i k n : Nat} {D : Int64} {kk : CV → FV → HV → CV → FV → Int32 → Option (Int32 × CV × FV × HV × CV × FV)} (hk : 1 ≤ k ∧ k ≤ 15) (h : lf S i 15 1 < 0 ∨ ¬ lf S i 15 1 ≤ nI k) : f_L_isLeast_b144 kk (nI i) D (nI n) (lf S i 15 1) v w g vr vd (nI k) (nI (if exAll (trial S i k) = 0 then 1 else 0)) = kk v w g vr vd (nI (k + 1)) := by
  have e : exAll (trial S i k) ≠ 0 := (lf_does hk).1 h
  have b := b149_ok (v := v) (vr := vr) (w := w) (vd := vd) (g := g) (S := S) (i := i) (k := k) (n := n) (D := D) (kk := kk) hk
  unfold f_L_isLeast_b144
  rw [if_neg e] at b ⊢
  rw [br_T (show nI 0 = 0 from rfl)]
  exact b
theorem b116_ok {vt : TV} {v vr : CV} {w vd : FV} {g : HV} {σ : ST} {S1 S2 : SC} (hO : OkT σ) (h1 : OkC S1) (h2 : OkC S2) (hR : RelC v w g vt (put (put σ S1) S2)) {i k n : Nat} {D : Int64} {kk : CV → FV → HV → CV → FV → Int32 → Option (Int32 × CV × FV × HV × CV × FV)} (hk : 1 ≤ k ∧ k ≤ 15) :
    ∃ v' w' g' k' hs, f_L_isLeast_b116 kk (nI i) D (nI n) (lf (t_S σ) i 15 1) v w g vr vd (nI k) (nI (if exAll (trial (t_S σ) i k) = 0 then 1 else 0)) = kk v' w' g' vr vd (nI (k + 1)) ∧ Ls vt v' w' g' (t_S σ, k', hs, t_c σ, t_L σ) := by
  have hO1 : OkT (put σ S1) := put_ok hO h1
  have hO2 : OkT (put (put σ S1) S2) := put_ok hO1 h2
  obtain ⟨v1, w1, g1, e1, hR1⟩ := undo_c hR hO2
  obtain ⟨j1, k1, hs1, u1, hj1⟩ := undo_put (σ := put σ S1) S2
  have hP1 := spUndo_ok hO2
  have keepH : t_h (spUndo (put (put σ S1) S2)).2 = t_h (put (put σ S1) S2) ∧ t_k (spUndo (put (put σ S1) S2)).2 = pkk (pkk (t_k σ)) - 1 := by
    have hp : t_k (put (put σ S1) S2) = pkk (pkk (t_k σ)) := rfl
    have h0 : ¬ t_k (put (put σ S1) S2) = 0 := by
      have := pkk_pos (pkk (t_k σ))
      rw [hp]
      omega
    unfold spUndo
    rw [if_neg h0]
    exact ⟨rfl, rfl⟩
  -- the state behind the first undo: the casting S1, with the first record on top
  have top : t_h (spUndo (put (put σ S1) S2)).2 (t_k (spUndo (put (put σ S1) S2)).2 - 1) = t_S σ ∧ ¬ t_k (spUndo (put (put σ S1) S2)).2 = 0 := by
    rw [keepH.1, keepH.2]
    exact ph_two hO.k
  obtain ⟨v2, w2, g2, e2, hR2⟩ := undo_c hR1 hP1
  have hP2 := spUndo_ok hP1
  have u2 : ∃ j2 k2 hs2, spUndo (spUndo (put (put σ S1) S2)).2 = (nI j2, (t_S σ, k2, hs2, t_c σ, t_L σ)) ∧ j2 < 2 ^ 31 := by
    have hk2 := hP1.k
    refine ⟨t_k (spUndo (put (put σ S1) S2)).2 - 1, t_k (spUndo (put (put σ S1) S2)).2 - 1, t_h (spUndo (put (put σ S1) S2)).2, ?_, by omega⟩
    have ec : t_c (spUndo (put (put σ S1) S2)).2 = t_c σ ∧ t_L (spUndo (put (put σ S1) S2)).2 = t_L σ := by
      rw [u1]
      exact ⟨rfl, rfl⟩
    rw [spUndo, if_neg top.2, top.1, ec.1, ec.2]
  obtain ⟨j2, k2, hs2, u2, hj2⟩ := u2
  rw [u2] at e2 hR2 hP2
  rw [u1] at e1
  refine ⟨v2, w2, g2, k2, hs2, ?_, hR2, hP2⟩
  unfold f_L_isLeast_b116
  rw [e1]
  show br (nI j1 < 0) _ _ = _
  rw [br_F (nI_pos hj1), e2]
  show br (nI j2 < 0) _ _ = _
  rw [br_F (nI_pos hj2)]
  by_cases c1 : lf (t_S σ) i 15 1 < 0
  · rw [br_T c1]
    exact b144_ok hk (Or.inl c1)
  · rw [br_F c1]
    by_cases c2 : lf (t_S σ) i 15 1 ≤ nI k
    · rw [br_T c2]
      exact b149_ok hk
    · rw [br_F c2]
      exact b144_ok hk (Or.inr c2)
theorem b57_loop {vt : TV} {S : SC} {tc : Nat → Int32} {tL : Nat} (hn : s_n S < 12) (hm : s_m S < 20) {i : Nat} (hi : i < s_n S) :
    ∀ (d k fu : Nat) (v : CV) (w : FV) (g : HV) (vr : CV) (vd : FV) (kh : Nat) (hs : Nat → SC), 1 ≤ k → k + d = 16 → d < fu → Ls vt v w g (S, kh, hs, tc, tL) → LsE vt (S, kh, hs, tc, tL) (f_L_isLeast_b57 (nI i) (dig_ S) (nI (s_n S)) (lf S i 15 1) fu v w g vr vd (nI k)) := by
  intro d
  induction d with
  | zero =>
    intro k fu v w g vr vd kh hs h0 h1 h2 h3
    obtain ⟨fu, rfl⟩ : ∃ z, fu = z + 1 := ⟨fu - 1, by omega⟩
    obtain rfl : k = 16 := by omega
    obtain ⟨vr1, vd1, e1⟩ := bestFeeder_ok (vr := vr) (vd := vd) h3.1.c h3.2.S
    have ea : aBF S = bo S 15 1 := if_pos ⟨hn, hm⟩
    have e1 : f_X4_bestFeeder v vr vd = some (bo S 15 1, vr1, vd1) := by rw [← ea]; exact e1
    rw [f_L_isLeast_b57]
    dsimp only
    rw [br_T (show (15 : Int32) < nI 16 from by decide), e1, bd3_s]
    exact b181_loop h3 hn hm hi (s_n S) 0 FU none vr1 vd1 (Nat.zero_add _) (FU_big (by omega)) (fun z j a b c => absurd c (Nat.not_lt_zero _))
  | succ d ih =>
    intro k fu v w g vr vd kh hs h0 h1 h2 h3
    obtain ⟨fu, rfl⟩ : ∃ z, fu = z + 1 := ⟨fu - 1, by omega⟩
    have hk : 1 ≤ k ∧ k ≤ 15 := ⟨h0, by omega⟩
    obtain ⟨q1, q2⟩ := cube hk
    have hO : OkC S := h3.2.S
    have e5 : (nI k * nI k) * nI k = nI (k * k * k) ∧ (5 * nI k) * nI k = nI (5 * k * k) := by
      rw [show (5 : Int32) = nI 5 from rfl, pk_mul, pk_mul, pk_mul, pk_mul]
      exact ⟨rfl, rfl⟩
    obtain ⟨v1, w1, g1, x1, hR1⟩ := add_c h3.1 h3.2 (x1 := nI (k * k * k)) (x2 := nI (5 * k * k)) (x3 := 1) (Or.inr rfl)
    have s1 : spAdd (S, kh, hs, tc, tL) (nI (k * k * k)) (nI (5 * k * k)) 1 = (nI (s_n S), put (S, kh, hs, tc, tL) (sApp S (k * k * k) (5 * k * k) 0 1)) := by
      unfold spAdd
      rw [if_pos ⟨⟨nI_le (a := 1) q1.1 (by omega), nI_le (b := 5000) q1.2 (by omega)⟩, ⟨nI_le (a := 1) q2.1 (by omega), nI_le (b := 5000) q2.2 (by omega)⟩⟩, if_pos (show s_n (t_S ((S, kh, hs, tc, tL) : ST)) < 12 from hn), cl_ (by omega), cl_ (by omega)]
      rfl
    rw [s1] at x1 hR1
    have hO1 : OkT (put (S, kh, hs, tc, tL) (sApp S (k * k * k) (5 * k * k) 0 1)) := put_ok h3.2 (trialA_ok hO hn hk)
    obtain ⟨v2, w2, g2, x2, hR2⟩ := join_c hR1 hO1 (x1 := nI i) (x2 := nI (s_n S))
    have s2 : spJoin (put (S, kh, hs, tc, tL) (sApp S (k * k * k) (5 * k * k) 0 1)) (nI i) (nI (s_n S)) = (nI (s_m S), put (put (S, kh, hs, tc, tL) (sApp S (k * k * k) (5 * k * k) 0 1)) (trial S i k)) := by
      unfold spJoin
      have nn : s_n (t_S (put (S, kh, hs, tc, tL) (sApp S (k * k * k) (5 * k * k) 0 1))) = s_n S + 1 := rfl
      have mm : s_m (t_S (put (S, kh, hs, tc, tL) (sApp S (k * k * k) (5 * k * k) 0 1))) = s_m S := rfl
      rw [nn, mm, if_pos ⟨inN_nI (by omega) (by omega), inN_nI (by omega) (by omega)⟩, cl_ (by omega), cl_ (by omega), if_pos, if_pos hm]
      · rfl
      · refine ⟨by omega, ?_⟩
        show nbk (sApp S (k * k * k) (5 * k * k) 0 1) i (s_n S) (s_m S) = false
        rw [nbk_app]
        exact nb_new hO hi
    rw [s2] at x2 hR2
    have hT : OkC (trial S i k) := trial_ok hO hn hm hi hk
    have hO2 : OkT (put (put (S, kh, hs, tc, tL) (sApp S (k * k * k) (5 * k * k) 0 1)) (trial S i k)) := put_ok hO1 hT
    have hg2 : Cg v2 w2 (trial S i k) := ⟨hR2.c, hR2.f, hT⟩
    have hmm := hO.m
    rw [f_L_isLeast_b57]
    dsimp only
    rw [br_F (show ¬ (15 : Int32) < nI k from by rw [show (15 : Int32) = nI 15 from rfl, nI_ltI (by omega) (by omega)]; omega), e5.1, e5.2, x1]
    show LsE vt _ (br (nI (s_n S) = nI (s_n S)) _ _)
    rw [br_T rfl, x2]
    show LsE vt _ (br (0 ≤ nI (s_m S)) _ _)
    rw [br_T (nI_pos' (by omega)), cnt9 hg2, bd_s]
    obtain ⟨v3, w3, g3, k3, hs3, x3, hR3⟩ := b116_ok (kk := f_L_isLeast_b57 (nI i) (dig_ S) (nI (s_n S)) (lf S i 15 1) fu) (σ := (S, kh, hs, tc, tL)) (vr := vr) (vd := vd) (i := i) (n := s_n S) (D := dig_ S) h3.2 (trialA_ok hO hn hk) hT hR2 hk
    have x3 : f_L_isLeast_b116 (f_L_isLeast_b57 (nI i) (dig_ S) (nI (s_n S)) (lf S i 15 1) fu) (nI i) (dig_ S) (nI (s_n S)) (lf S i 15 1) v2 w2 g2 vr vd (nI k) (nI (if exAll (trial S i k) = 0 then 1 else 0)) = f_L_isLeast_b57 (nI i) (dig_ S) (nI (s_n S)) (lf S i 15 1) fu v3 w3 g3 vr vd (nI (k + 1)) := x3
    have fin : LsE vt (S, kh, hs, tc, tL) (f_L_isLeast_b57 (nI i) (dig_ S) (nI (s_n S)) (lf S i 15 1) fu v3 w3 g3 vr vd (nI (k + 1))) := by
      obtain ⟨v4, w4, g4, vr4, vd4, k4, hs4, y1, y2⟩ := ih (k + 1) fu v3 w3 g3 vr vd k3 hs3 (by omega) (by omega) (by omega) hR3
      exact ⟨v4, w4, g4, vr4, vd4, k4, hs4, y1, y2⟩
    by_cases c : exAll (trial S i k) = 0
    · rw [if_pos c] at x3 ⊢
      rw [br_T (show nI 1 = 1 from rfl)]
      exact x3 ▸ fin
    · rw [if_neg c] at x3 ⊢
      rw [br_F (show ¬ nI 0 = 1 from by decide)]
      exact x3 ▸ fin
theorem isLeast_ok {vt : TV} {v vr : CV} {w vd : FV} {g : HV} {σ : ST} (h : Ls vt v w g σ) {i : Nat} (hi : i < s_n (t_S σ)) : LsE vt σ (f_L_isLeast v w g vr vd (nI i)) := by
  have hn := h.2.S.n
  have hm := h.2.S.m
  obtain ⟨vr1, vd1, e1⟩ := leastFeeder_ok (vr := vr) (vd := vd) h.1.c h.2.S hi
  have full : ¬ (s_n (t_S σ) < 12 ∧ s_m (t_S σ) < 20) → LsE vt σ (f_L_isLeast_b36 v w g vr1 vd1 (nI i) (dig_ (t_S σ)) (aLF (t_S σ) i)) := by
    intro c
    have ea : aLF (t_S σ) i = -5 := if_neg c
    obtain ⟨vr2, vd2, e2⟩ := bestFeeder_ok (vr := vr1) (vd := vd1) h.1.c h.2.S
    have eb : aBF (t_S σ) = -5 := if_neg c
    rw [eb] at e2
    unfold f_L_isLeast_b36
    rw [ea, br_T rfl, e2, bd3_s, br_T rfl]
    exact b249_ok h hi
  unfold f_L_isLeast
  rw [h.dg, bd_s, cnt0 h.cg, bd_s, e1, bd3_s, show (12 : Int32) = nI 12 from rfl, br_eq _ _ (by omega) (by omega)]
  by_cases c1 : s_n (t_S σ) = 12
  · rw [if_pos c1]
    exact full (fun z => by omega)
  · rw [if_neg c1, cnt1 h.cg, bd_s, show (20 : Int32) = nI 20 from rfl, br_eq _ _ (by omega) (by omega)]
    by_cases c2 : s_m (t_S σ) = 20
    · rw [if_pos c2]
      exact full (fun z => by omega)
    · rw [if_neg c2, show aLF (t_S σ) i = lf (t_S σ) i 15 1 from if_pos ⟨by omega, by omega⟩]
      exact b57_loop (S := t_S σ) (tc := t_c σ) (tL := t_L σ) (by omega) (by omega) hi 15 1 FU v w g vr1 vd1 (t_k σ) (t_h σ) (Nat.le_refl _) rfl (FU_big (by omega)) h
