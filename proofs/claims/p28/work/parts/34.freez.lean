/-! ===== 34: the program's Freezing ===== -/
/-- what the program keeps of the freezing of S -/
def FrF (w : FV) (S : SC) : Prop := F_se w = nI (s_n S) ∧ (∀ i, i < s_n S → F_st w i = nI (rk S i)) ∧ (∀ t, t < s_n S → F_od w t = nI (ord S t)) ∧ (∀ i, i < s_n S → F_so w i = enc (src S i)) ∧ (∀ i, i < s_n S → F_ne w i = nI (need S i)) ∧ (∀ i, i < s_n S → F_po w i = nI (pores S i)) ∧ ∀ i, i < s_n S → F_ex w i = nI (exc S i)
theorem FrF.se {w : FV} {S : SC} (h : FrF w S) : F_se w = nI (s_n S) := h.1
theorem FrF.st {w : FV} {S : SC} (h : FrF w S) : ∀ i, i < s_n S → F_st w i = nI (rk S i) := h.2.1
theorem FrF.od {w : FV} {S : SC} (h : FrF w S) : ∀ t, t < s_n S → F_od w t = nI (ord S t) := h.2.2.1
theorem FrF.so {w : FV} {S : SC} (h : FrF w S) : ∀ i, i < s_n S → F_so w i = enc (src S i) := h.2.2.2.1
theorem FrF.ne {w : FV} {S : SC} (h : FrF w S) : ∀ i, i < s_n S → F_ne w i = nI (need S i) := h.2.2.2.2.1
theorem FrF.po {w : FV} {S : SC} (h : FrF w S) : ∀ i, i < s_n S → F_po w i = nI (pores S i) := h.2.2.2.2.2.1
theorem FrF.ex {w : FV} {S : SC} (h : FrF w S) : ∀ i, i < s_n S → F_ex w i = nI (exc S i) := h.2.2.2.2.2.2
theorem upd_self {f : AF} {x : Nat} : upd f x (f x) = f := by
  funext j
  unfold upd
  by_cases h : j = x
  · rw [if_pos h, h]
  · rw [if_neg h]
theorem not_le_m1 {a : Nat} (ha : a < 2 ^ 31) : ¬ nI a ≤ (-1) := by
  intro h
  rw [Int32.le_iff_toInt_le, nI_toInt ha] at h
  have : (-1 : Int32).toInt = -1 := by decide
  omega
theorem offer_ok {se : Int32} {st od so ne po ex : AF} {S : SC} (hO : OkC S) (hst : ∀ i, i < s_n S → st i = nI (rk S i)) {x y : Nat} (hx : x < s_n S) (hy : y < s_n S) {P : Nat → Prop} {o : Option Nat} (ho : so x = enc o) (hb : Best S P x o) (hlt : ∀ f, o = some f → f < s_n S) :
    ∃ o', f_X1_offer (se, st, od, so, ne, po, ex) (nI x) (nI y) = some (se, st, od, upd so x (enc o'), ne, po, ex) ∧ Best S (fun g => P g ∨ g = y) x o' ∧ ∀ f, o' = some f → f < s_n S := by
  have hn := hO.n
  have r1 := rk_lt hx
  have r2 := rk_lt hy
  unfold f_X1_offer
  try dsimp only [F_se, F_st, F_od, F_so, F_ne, F_po, F_ex]
  rw [at_in (by omega) (by omega), bd_s, at_in (by omega) (by omega), bd_s, hst x hx, hst y hy, br_le _ _ (by omega) (by omega)]
  by_cases c : rk S y ≤ rk S x
  · rw [if_pos c]
    refine ⟨o, by rw [← ho, upd_self], ?_, hlt⟩
    cases o with
    | none =>
      rintro g (hg | rfl) h
      · exact hb g hg h
      · omega
    | some f =>
      refine ⟨Or.inl hb.1, hb.2.1, ?_⟩
      rintro g (hg | rfl) h
      · exact hb.2.2 g hg h
      · omega
  · rw [if_neg c, at_in (by omega) (by omega), bd_s, ho]
    cases o with
    | none =>
      rw [show enc none = -1 from rfl, at_m1, bd_s, br_F (not_le_m1 (by omega)), put_in (by omega) (by omega), bd_s]
      refine ⟨some y, rfl, ⟨Or.inr rfl, by omega, ?_⟩, fun f hf => by cases hf; exact hy⟩
      rintro g (hg | rfl) h
      · exact absurd h (hb g hg)
      · exact Nat.le_refl _
    | some f =>
      have hf := hlt f rfl
      have r3 := rk_lt hf
      rw [show enc (some f) = nI f from rfl, at_in (by omega) (by omega), bd_s, hst f hf, br_le _ _ (by omega) (by omega)]
      by_cases d : rk S y ≤ rk S f
      · rw [if_pos d]
        refine ⟨some f, by rw [show enc (some f) = so x from ho.symm, upd_self], ⟨Or.inl hb.1, hb.2.1, ?_⟩, hlt⟩
        rintro g (hg | rfl) h
        · exact hb.2.2 g hg h
        · exact d
      · rw [if_neg d, put_in (by omega) (by omega), bd_s]
        refine ⟨some y, rfl, ⟨Or.inr rfl, by omega, ?_⟩, fun f hf => by cases hf; exact hy⟩
        rintro g (hg | rfl) h
        · have := hb.2.2 g hg h
          omega
        · exact Nat.le_refl _
/-- the sources, as the first k joints give them -/
def InvSo (S : SC) (k : Nat) (so : AF) : Prop := ∀ i, i < s_n S → ∃ o, so i = enc o ∧ Best S (fun g => nbk S i g k = true) i o ∧ ∀ f, o = some f → f < s_n S
theorem src_loop {v : CV} {S : SC} (hR : RepC v S) (hO : OkC S) {se : Int32} {st od ne po ex : AF} (hst : ∀ i, i < s_n S → st i = nI (rk S i)) : ∀ (d k fu : Nat) (so : AF), k + d = s_m S → d < fu → InvSo S k so → ∃ so', f_X1_findSources_b25 v fu (se, st, od, so, ne, po, ex) (nI k) = some (se, st, od, so', ne, po, ex) ∧ InvSo S (s_m S) so' := by
  have hm := hO.m
  have hn := hO.n
  intro d
  induction d with
  | zero =>
    intro k fu so h1 h2 h3
    obtain ⟨fu, rfl⟩ : ∃ z, fu = z + 1 := ⟨fu - 1, by omega⟩
    have : k = s_m S := by omega
    subst this
    rw [f_X1_findSources_b25]
    try dsimp only
    rw [hR.jo, br_le _ _ (by omega) (by omega), if_pos (by omega)]
    exact ⟨so, rfl, h3⟩
  | succ d ih =>
    intro k fu so h1 h2 h3
    obtain ⟨fu, rfl⟩ : ∃ z, fu = z + 1 := ⟨fu - 1, by omega⟩
    have hk : k < s_m S := by omega
    obtain ⟨ja, jb, jab⟩ := hO.jj hk
    obtain ⟨o1, e1, b1, l1⟩ := h3 _ ja
    obtain ⟨o1', f1, b1', l1'⟩ := offer_ok (se := se) (od := od) (ne := ne) (po := po) (ex := ex) hO hst ja jb e1 b1 l1
    obtain ⟨o2, e2, b2, l2⟩ := h3 _ jb
    have e2' : upd so (s_ja S k) (enc o1') (s_jb S k) = enc o2 := by rw [upd_n (Ne.symm jab)]; exact e2
    obtain ⟨o2', f2, b2', l2'⟩ := offer_ok (se := se) (od := od) (ne := ne) (po := po) (ex := ex) hO hst jb ja e2' b2 l2
    rw [f_X1_findSources_b25]
    try dsimp only
    rw [hR.jo, br_le _ _ (by omega) (by omega), if_neg (by omega), at_in (by omega) (by omega), bd_s, at_in (by omega) (by omega), bd_s, hR.fi k hk, hR.sd k hk, f1, bd_s, f2, bd_s, nm_s, nI_1]
    refine ih (k + 1) fu _ (by omega) (by omega) (fun i hi => ?_)
    by_cases ci : i = s_jb S k
    · subst ci
      refine ⟨o2', upd_s, best_congr (fun g => ?_) b2', l2'⟩
      show (nbk S (s_jb S k) g k = true ∨ g = s_ja S k) ↔ nbk S (s_jb S k) g (k + 1) = true
      rw [nbk_s, Bool.or_eq_true, decide_eq_true_eq]
      constructor
      · rintro (h | h)
        · exact Or.inl h
        · exact Or.inr (Or.inr ⟨h.symm, rfl⟩)
      · rintro (h | h)
        · exact Or.inl h
        · right; omega
    · by_cases ca : i = s_ja S k
      · subst ca
        refine ⟨o1', (upd_n jab).trans upd_s, best_congr (fun g => ?_) b1', l1'⟩
        show (nbk S (s_ja S k) g k = true ∨ g = s_jb S k) ↔ nbk S (s_ja S k) g (k + 1) = true
        rw [nbk_s, Bool.or_eq_true, decide_eq_true_eq]
        constructor
        · rintro (h | h)
          · exact Or.inl h
          · exact Or.inr (Or.inl ⟨rfl, h.symm⟩)
        · rintro (h | h)
          · exact Or.inl h
          · right; omega
      · obtain ⟨o, e, b, l⟩ := h3 i hi
        refine ⟨o, (upd_n ci).trans ((upd_n ca).trans e), best_congr (fun g => ?_) b, l⟩
        show nbk S i g k = true ↔ nbk S i g (k + 1) = true
        rw [nbk_s, Bool.or_eq_true, decide_eq_true_eq]
        constructor
        · exact Or.inl
        · rintro (h | h)
          · exact h
          · omega
theorem sources_ok {v : CV} {S : SC} (hR : RepC v S) (hO : OkC S) {st od so ne po ex : AF} (hst : ∀ i, i < s_n S → st i = nI (rk S i)) : ∃ so', f_X1_findSources (nI (s_n S), st, od, so, ne, po, ex) v = some (nI (s_n S), st, od, so', ne, po, ex) ∧ ∀ i, i < s_n S → so' i = enc (src S i) := by
  have hn := hO.n
  have h0 : InvSo S 0 (mix (fun _ => -1) so (s_n S)) := fun i hi => ⟨none, mix_in hi, fun g hg => (by cases hg), fun f hf => by cases hf⟩
  obtain ⟨so', e, h⟩ := src_loop hR hO (se := nI (s_n S)) (od := od) (ne := ne) (po := po) (ex := ex) hst (s_m S) 0 FU _ (by omega) (FU_big (by have := hO.m; omega)) h0
  refine ⟨so', ?_, fun i hi => ?_⟩
  · unfold f_X1_findSources
    rw [show ((nI (s_n S), st, od, so, ne, po, ex) : FV) = (nI (s_n S), st, od, mix (fun _ => -1) so 0, ne, po, ex) from by rw [mix_0]]
    refine loop0 (fun fu i => f_X1_findSources_b2 v fu (nI (s_n S), st, od, mix (fun _ => -1) so i, ne, po, ex) (nI i)) (s_n S) _ (by omega) (fun fu i hi => ?_) (fun fu => ?_)
    · try dsimp only
      rw [f_X1_findSources_b2]
      try dsimp only [F_se, F_st, F_od, F_so, F_ne, F_po, F_ex]
      rw [br_le _ _ (by omega) (by omega), if_neg (by omega), ck_in (by omega) (by omega), nm_s, nm_s, cl_ (by omega), nI_1, mix_s rfl]
    · try dsimp only
      rw [f_X1_findSources_b2]
      try dsimp only [F_se]
      rw [br_le _ _ (by omega) (by omega), if_pos (by omega)]
      exact e
  · obtain ⟨o, e1, b, -⟩ := h i hi
    rw [e1, src_uniq hO b]
/-! needs -/
theorem nd_loop {v : CV} {S : SC} (hO : OkC S) {st od so po ex : AF} (hod : ∀ t, t < s_n S → od t = nI (ord S t)) (hso : ∀ i, i < s_n S → so i = enc (src S i)) : ∀ (d t fu : Nat) (ne : AF), t + d = s_n S → d < fu → (∀ i, i < s_n S → ne i = nI (nd S t i)) → ∃ ne', f_X1_drawNeeds_b29 v fu (nI (s_n S), st, od, so, ne, po, ex) (nI t) = some (nI (s_n S), st, od, so, ne', po, ex) ∧ ∀ i, i < s_n S → ne' i = nI (need S i) := by
  have hn := hO.n
  intro d
  induction d with
  | zero =>
    intro t fu ne h1 h2 h3
    obtain ⟨fu, rfl⟩ : ∃ z, fu = z + 1 := ⟨fu - 1, by omega⟩
    have : t = s_n S := by omega
    subst this
    rw [f_X1_drawNeeds_b29]
    try dsimp only [F_se]
    rw [br_le _ _ (by omega) (by omega), if_pos (by omega)]
    exact ⟨ne, rfl, h3⟩
  | succ d ih =>
    intro t fu ne h1 h2 h3
    obtain ⟨fu, rfl⟩ : ∃ z, fu = z + 1 := ⟨fu - 1, by omega⟩
    have ht : t < s_n S := by omega
    obtain ⟨o1, o2⟩ := ord_ok hO ht
    rw [f_X1_drawNeeds_b29]
    try dsimp only [F_se, F_st, F_od, F_so, F_ne, F_po, F_ex]
    rw [br_le _ _ (by omega) (by omega), if_neg (by omega), ck_in (by omega) (by omega), nm_s, cl_ (by omega), hod t ht, at_in (by omega) (by omega), bd_s, hso _ o1]
    cases e : src S (ord S t) with
    | none =>
      rw [show enc none = -1 from rfl, at_m1, bd_s, at_in (by omega) (by omega), bd_s, put_m1, bd_s, nm_s, nI_1]
      refine ih (t + 1) fu ne (by omega) (by omega) (fun i hi => ?_)
      rw [h3 i hi]
      rw [nd_n e]
    | some f =>
      have hf := (src_some hO e).1
      rw [show enc (some f) = nI f from rfl, at_in (by omega) (by omega), bd_s, at_in (by omega) (by omega), bd_s, put_in (by omega) (by omega), bd_s, nm_s, nI_1, h3 f hf, h3 _ o1, nI_add]
      refine ih (t + 1) fu _ (by omega) (by omega) (fun i hi => ?_)
      rw [nd_f e]
      unfold upd va_up
      by_cases c : i = f
      · rw [if_pos c, if_pos c]
      · rw [if_neg c, if_neg c]
        exact h3 i hi
theorem needs_ok {v : CV} {S : SC} (hR : RepC v S) (hO : OkC S) {st od so ne po ex : AF} (hod : ∀ t, t < s_n S → od t = nI (ord S t)) (hso : ∀ i, i < s_n S → so i = enc (src S i)) : ∃ ne', f_X1_drawNeeds (nI (s_n S), st, od, so, ne, po, ex) v = some (nI (s_n S), st, od, so, ne', po, ex) ∧ ∀ i, i < s_n S → ne' i = nI (need S i) := by
  have hn := hO.n
  obtain ⟨ne', e, h⟩ := nd_loop (v := v) hO (st := st) (po := po) (ex := ex) hod hso (s_n S) 0 FU (mix (fun i => nI (fneed S i)) ne (s_n S)) (by omega) (FU_big (by omega)) (fun i hi => mix_in hi)
  refine ⟨ne', ?_, h⟩
  unfold f_X1_drawNeeds
  rw [show ((nI (s_n S), st, od, so, ne, po, ex) : FV) = (nI (s_n S), st, od, so, mix (fun i => nI (fneed S i)) ne 0, po, ex) from by rw [mix_0]]
  refine loop0 (fun fu i => f_X1_drawNeeds_b2 v fu (nI (s_n S), st, od, so, mix (fun i => nI (fneed S i)) ne i, po, ex) (nI i)) (s_n S) _ (by omega) (fun fu i hi => ?_) (fun fu => ?_)
  · try dsimp only
    rw [f_X1_drawNeeds_b2]
    try dsimp only [F_se, F_st, F_od, F_so, F_ne, F_po, F_ex]
    rw [br_le _ _ (by omega) (by omega), if_neg (by omega), firstNeed_ok hR hO hi, bd_s, ck_in (by omega) (by omega), nm_s, nm_s, cl_ (by omega), nI_1, mix_s rfl]
  · try dsimp only
    rw [f_X1_drawNeeds_b2]
    try dsimp only [F_se]
    rw [br_le _ _ (by omega) (by omega), if_pos (by omega)]
    exact e
theorem max_sub {p b : Nat} (hp : p < 2 ^ 30) (hb : b < 2 ^ 30) : (if (0 : Int32) < nI p - nI b then nI p - nI b else 0) = nI (p - b) := by
  rcases Nat.lt_or_ge b p with h | h
  · rw [pk_sub (by omega), if_pos (by rw [show (0 : Int32) = nI 0 from rfl]; exact nI_lt (by omega) (by omega))]
  · rw [if_neg, show p - b = 0 from by omega]
    · rfl
    · intro q
      rw [Int32.lt_iff_toInt_lt, pk_sub_toInt hp hb, Int32.toInt_zero] at q
      omega
theorem pores_ok {v : CV} {S : SC} (hR : RepC v S) (hO : OkC S) {st od so ne po ex : AF} (hso : ∀ i, i < s_n S → so i = enc (src S i)) (hne : ∀ i, i < s_n S → ne i = nI (need S i)) : f_X1_findPores (nI (s_n S), st, od, so, ne, po, ex) v = some (nI (s_n S), st, od, so, ne, mix (fun i => nI (pores S i)) po (s_n S), mix (fun i => nI (exc S i)) ex (s_n S)) := by
  have hn := hO.n
  unfold f_X1_findPores
  rw [show ((nI (s_n S), st, od, so, ne, po, ex) : FV) = (nI (s_n S), st, od, so, ne, mix (fun i => nI (pores S i)) po 0, mix (fun i => nI (exc S i)) ex 0) from by rw [mix_0, mix_0]]
  refine loop0 (fun fu i => f_X1_findPores_b2 v fu (nI (s_n S), st, od, so, ne, mix (fun i => nI (pores S i)) po i, mix (fun i => nI (exc S i)) ex i) (nI i)) (s_n S) _ (by omega) (fun fu i hi => ?_) (fun fu => ?_)
  · have hb := bear_le hO hi
    have hp := need_small hO hi
    try dsimp only
    rw [f_X1_findPores_b2]
    try dsimp only [F_se, F_st, F_od, F_so, F_ne, F_po, F_ex]
    rw [br_le _ _ (by omega) (by omega), if_neg (by omega), ck_in (by omega) (by omega), cl_ (by omega), hso i hi, br_src hO]
    by_cases c : src S i = none
    · rw [if_pos c]
      simp only [ck_in (by omega : i < 12) (by omega : 12 < 2 ^ 31), nm_s, bear_ok hR hO hi, bd_s, upd_s, hne i hi, nI_1]
      rw [max_sub (by omega) (by omega), mix_s (by unfold pores; rw [if_pos c]), mix_s (by unfold exc pores; rw [if_pos c])]
    · rw [if_neg c]
      simp only [ck_in (by omega : i < 12) (by omega : 12 < 2 ^ 31), nm_s, bear_ok hR hO hi, bd_s, upd_s, nI_1]
      rw [show (0 : Int32) - nI (bear S i) = nI 0 - nI (bear S i) from rfl, max_sub (by omega) (by omega), mix_s (by unfold pores; rw [if_neg c]; rfl), mix_s (by unfold exc pores; rw [if_neg c])]
  · try dsimp only
    rw [f_X1_findPores_b2]
    try dsimp only [F_se]
    rw [br_le _ _ (by omega) (by omega), if_pos (by omega)]
/-- the order, as it is written down one by one -/
def odw (S : SC) (f : AF) : Nat → AF
  | 0 => f
  | i + 1 => upd (odw S f i) (rk S i) (nI i)
theorem odw_ok {S : SC} (hO : OkC S) {f : AF} : ∀ (k : Nat), k ≤ s_n S → ∀ i, i < k → odw S f k (rk S i) = nI i
  | 0, _, i, hi => by omega
  | k + 1, hk, i, hi => by
    unfold odw
    by_cases c : i = k
    · subst c; exact upd_s
    · rw [upd_n (fun e => c (rk_inj hO (by omega) (by omega) e))]
      exact odw_ok hO k (by omega) i (by omega)
theorem odw_all {S : SC} (hO : OkC S) {f : AF} {t : Nat} (ht : t < s_n S) : odw S f (s_n S) t = nI (ord S t) := by
  obtain ⟨h1, h2⟩ := ord_ok hO ht
  have := odw_ok hO (f := f) (s_n S) (Nat.le_refl _) _ h1
  rwa [h2] at this
theorem follow_ok {v : CV} {S : SC} (hR : RepC v S) (hO : OkC S) (w : FV) : ∃ w', f_X1_follow w v = some w' ∧ FrF w' S := by
  have hn := hO.n
  obtain ⟨se, st, od, so, ne, po, ex⟩ := w
  have hst : ∀ i, i < s_n S → mix (fun i => nI (rk S i)) st (s_n S) i = nI (rk S i) := fun i hi => mix_in hi
  obtain ⟨so', e1, h1⟩ := sources_ok hR hO (od := odw S od (s_n S)) (so := so) (ne := ne) (po := po) (ex := ex) hst
  obtain ⟨ne', e2, h2⟩ := needs_ok hR hO (st := mix (fun i => nI (rk S i)) st (s_n S)) (od := odw S od (s_n S)) (so := so') (ne := ne) (po := po) (ex := ex) (fun t ht => odw_all hO ht) h1
  have e3 := pores_ok hR hO (st := mix (fun i => nI (rk S i)) st (s_n S)) (od := odw S od (s_n S)) (so := so') (ne := ne') (po := po) (ex := ex) h1 h2
  refine ⟨(nI (s_n S), mix (fun i => nI (rk S i)) st (s_n S), odw S od (s_n S), so', ne', mix (fun i => nI (pores S i)) po (s_n S), mix (fun i => nI (exc S i)) ex (s_n S)), ?_, rfl, fun i hi => (mix_in hi : mix (fun i => nI (rk S i)) st (s_n S) i = _), fun t ht => odw_all hO ht, h1, h2, fun i hi => (mix_in hi : mix (fun i => nI (pores S i)) po (s_n S) i = _), fun i hi => (mix_in hi : mix (fun i => nI (exc S i)) ex (s_n S) i = _)⟩
  unfold f_X1_follow
  rw [nm_s, hR.se, if_neg (by rw [show (12 : Int32) = nI 12 from rfl, nI_ltI (by omega) (by omega)]; omega)]
  try dsimp only [F_st, F_od, F_so, F_ne, F_po, F_ex]
  rw [show ((nI (s_n S), st, od, so, ne, po, ex) : FV) = (nI (s_n S), mix (fun i => nI (rk S i)) st 0, odw S od 0, so, ne, po, ex) from by rw [mix_0]; rfl]
  refine loop0 (fun fu i => f_X1_follow_b15 v fu (nI (s_n S), mix (fun i => nI (rk S i)) st i, odw S od i, so, ne, po, ex) (nI i)) (s_n S) _ (by omega) (fun fu i hi => ?_) (fun fu => ?_)
  · have := rk_lt hi
    try dsimp only
    rw [f_X1_follow_b15]
    try dsimp only [F_se, F_st, F_od, F_so, F_ne, F_po, F_ex]
    rw [br_le _ _ (by omega) (by omega), if_neg (by omega), stepOf_ok hR hO hi, bd_s, ck_in (by omega) (by omega), nm_s, ck_in (by omega) (by omega), cl_ (by omega), upd_s, put_in (by omega) (by omega), bd_s, nm_s, nI_1, mix_s rfl]
    rfl
  · try dsimp only
    rw [f_X1_follow_b15]
    try dsimp only [F_se]
    rw [br_le _ _ (by omega) (by omega), if_pos (by omega), e1, bd_s, e2, bd_s, e3, bd_s]
