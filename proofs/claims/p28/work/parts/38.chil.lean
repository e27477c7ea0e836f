/-! ===== 38: the least chill: the program looks only where the section's step has changed ===== -/
theorem exAll_congr {S T : SC} (hO : OkC S) (hT : OkC T) (e1 : s_n T = s_n S) (e2 : ∀ a b, nb T a b = nb S a b) (e3 : fneed T = fneed S) (e4 : bear T = bear S) (e5 : ∀ j i, j < s_n S → i < s_n S → bef T j i = bef S j i) : exAll T = exAll S := by
  have hr : ∀ i, i < s_n S → rk T i = rk S i := fun i hi => by
    unfold rk
    rw [e1]
    exact cnt_congr (fun j hj => e5 j i hj hi)
  have hs : ∀ i, i < s_n S → src T i = src S i := fun i hi => by
    refine (src_uniq hT ?_).symm
    have hb := src_best hO i
    cases e : src S i with
    | none =>
      rw [e] at hb
      intro g hg
      have hg' : nb S i g = true := (e2 i g).symm.trans hg
      rw [hr i hi, hr g (nb_lt hO hg').2.1]
      exact hb g hg'
    | some f =>
      rw [e] at hb
      obtain ⟨b1, b2, b3⟩ := hb
      have hf := (nb_lt hO b1).2.1
      refine ⟨(e2 i f).trans b1, by rw [hr i hi, hr f hf]; exact b2, fun g hg hlt => ?_⟩
      have hg' : nb S i g = true := (e2 i g).symm.trans hg
      have hgn := (nb_lt hO hg').2.1
      rw [hr i hi, hr g hgn] at hlt
      rw [hr g hgn, hr f hf]
      exact b3 g hg' hlt
  have ho : ∀ t, t < s_n S → ord T t = ord S t := fun t ht => by
    obtain ⟨a1, a2⟩ := ord_ok hT (t := t) (by omega)
    obtain ⟨b1, b2⟩ := ord_ok hO ht
    exact rk_inj hT a1 (by omega) (by rw [a2, hr _ b1, b2])
  have hd : ∀ t, t ≤ s_n S → ∀ i, i < s_n S → nd T t i = nd S t i := by
    intro t
    induction t with
    | zero => intro _ i hi; exact congrFun e3 i
    | succ t ih =>
      intro ht i hi
      have ih := ih (by omega)
      have hl := (ord_ok hO (t := t) (by omega)).1
      have q : src T (ord T t) = src S (ord S t) := by rw [ho t (by omega), hs _ hl]
      cases e : src S (ord S t) with
      | none => rw [nd_n e, nd_n (q.trans e)]; exact ih i hi
      | some f =>
        have hf := (src_some hO e).1
        rw [nd_f e, nd_f (q.trans e), ho t (by omega)]
        unfold va_up
        by_cases c : i = f
        · rw [if_pos c, if_pos c, ih f hf, ih _ hl]
        · rw [if_neg c, if_neg c]; exact ih i hi
  unfold exAll
  rw [e1]
  refine sm_congr (fun i hi => ?_)
  unfold exc pores need
  rw [hs i hi, e1, hd _ (Nat.le_refl _) i hi, e4]
theorem bef_anti {S : SC} (hO : OkC S) {i j : Nat} (hi : i < s_n S) (hj : j < s_n S) (h : i ≠ j) : bef S i j = !bef S j i := by
  cases e : bef S j i with
  | true =>
    cases q : bef S i j with
    | false => rfl
    | true =>
      have := rk_mono hO hi hj q
      have := rk_mono hO hj hi e
      omega
  | false =>
    rcases bef_tot (S := S) h with q | q
    · exact q
    · rw [e] at q; cases q
theorem chill_nb {S : SC} {i a x y : Nat} : nb (sChill S i a) x y = nb S x y := by
  have : ∀ k, nbk (sChill S i a) x y k = nbk S x y k := by
    intro k
    induction k with
    | zero => rfl
    | succ k ih => rw [nbk_s, nbk_s, ih]; rfl
  exact this (s_m S)
theorem chill_same {S : SC} (hO : OkC S) {i a b : Nat} (hi : i < s_n S) (hab : a < b) (hb : b ≤ 500) (h : rk (sChill S i b) i = rk (sChill S i a) i) : exAll (sChill S i b) = exAll (sChill S i a) := by
  have hA : OkC (sChill S i a) := sChill_ok hO (by omega)
  have hB : OkC (sChill S i b) := sChill_ok hO hb
  have ca : ∀ j, s_ch (sChill S i a) j = if j = i then a else s_ch S j := fun j => rfl
  have cb : ∀ j, s_ch (sChill S i b) j = if j = i then b else s_ch S j := fun j => rfl
  have mono : ∀ j, j < s_n S → bef (sChill S i b) j i = true → bef (sChill S i a) j i = true := by
    intro j hj q
    by_cases c : j = i
    · subst c; rw [bef_irr] at q; cases q
    · rw [bef_iff] at q ⊢
      rw [ca, ca, if_pos rfl, if_neg c]
      rw [cb, cb, if_pos rfl, if_neg c] at q
      have q' : s_vo S j * (s_ar S i + b) < s_vo S i * (s_ar S j + s_ch S j) ∨ (s_vo S j * (s_ar S i + b) = s_vo S i * (s_ar S j + s_ch S j) ∧ j < i) := q
      show s_vo S j * (s_ar S i + a) < s_vo S i * (s_ar S j + s_ch S j) ∨ _
      have lt : s_vo S j * (s_ar S i + a) < s_vo S j * (s_ar S i + b) := Nat.mul_lt_mul_of_pos_left (by omega) (hO.vo hj).1
      left
      omega
  have same : ∀ j, j < s_n S → bef (sChill S i b) j i = bef (sChill S i a) j i := cnt_same mono h
  refine exAll_congr hA hB rfl (fun x y => chill_nb.trans chill_nb.symm) rfl rfl (fun j k hj hk => ?_)
  have hj' : j < s_n S := hj
  have hk' : k < s_n S := hk
  by_cases c : k = i
  · subst c; exact same j hj'
  · by_cases d : j = i
    · subst d
      rw [bef_anti hB hj hk (fun z => c z.symm), bef_anti hA hj hk (fun z => c z.symm), same k hk']
    · unfold bef
      rw [ca, ca, cb, cb, if_neg c, if_neg d, if_neg c, if_neg d]
      rfl
noncomputable def lc (S : SC) (i : Nat) : Nat → Nat → Int32
  | 0, _ => -1
  | d + 1, c => if exAll (sChill S i c) = 0 then nI c else lc S i d (c + 1)
theorem chill_again {S : SC} {i a b : Nat} : sChill (sChill S i a) i b = sChill S i b := by
  have : va_up (va_up (s_ch S) i a) i b = va_up (s_ch S) i b := by
    funext j
    unfold va_up
    by_cases c : j = i
    · rw [if_pos c, if_pos c]
    · rw [if_neg c, if_neg c, if_neg c]
  show (s_n S, s_m S, s_sh S, s_pi S, s_vo S, s_ar S, va_up (va_up (s_ch S) i a) i b, s_fe S, s_ja S, s_jb S) = _
  rw [this]
  rfl
/-- what the program has seen, ahead of the chill c -/
def Seen (S : SC) (i c : Nat) (x : Int32) : Prop := x = -1 ∨ ∃ a, c = a + 1 ∧ x = nI (rk (sChill S i a) i) ∧ exAll (sChill S i a) ≠ 0
theorem lc_loop {v : CV} {S : SC} (hO : OkC S) {i : Nat} (hi : i < s_n S) : ∀ (d c fu : Nat) (vr : CV) (vd : FV) (x : Int32), c + d = 501 → d < fu → (∃ T, RepC vr T ∧ ∀ c, sChill T i c = sChill S i c) → Seen S i c x → ∃ vr' vd', f_X4_leastChill_b29 v (nI i) fu vr vd x (nI c) = some (lc S i d c, vr', vd') := by
  have hn := hO.n
  intro d
  induction d with
  | zero =>
    intro c fu vr vd x h1 h2 h3 h4
    obtain ⟨fu, rfl⟩ : ∃ z, fu = z + 1 := ⟨fu - 1, by omega⟩
    rw [f_X4_leastChill_b29]
    dsimp only
    rw [show (500 : Int32) = nI 500 from rfl, br_lt _ _ (by omega) (by omega), if_pos (by omega)]
    exact ⟨vr, vd, rfl⟩
  | succ d ih =>
    intro c fu vr vd x h1 h2 h3 h4
    obtain ⟨fu, rfl⟩ : ∃ z, fu = z + 1 := ⟨fu - 1, by omega⟩
    obtain ⟨T, hT, hTe⟩ := h3
    have hC : OkC (sChill S i c) := sChill_ok hO (by omega)
    have hv := rep_chill hT (i := i) (a := c)
    rw [hTe] at hv
    have hrl : rk (sChill S i c) i < s_n S := rk_lt (S := sChill S i c) hi
    rw [f_X4_leastChill_b29]
    dsimp only
    rw [show (500 : Int32) = nI 500 from rfl, br_lt _ _ (by omega) (by omega), if_neg (by omega), put_in (by omega) (by omega), bd_s, stepOf_ok hv hC hi, bd_s]
    unfold lc
    by_cases q : nI (rk (sChill S i c) i) = x
    · rw [br_T q, nm_s, nI_1]
      rcases h4 with h4 | ⟨a, rfl, h5, h6⟩
      · exact absurd (q.trans h4) (m1_ne _ (by omega))
      · have hr2 : rk (sChill S i a) i < s_n S := rk_lt (S := sChill S i a) hi
        have hs := chill_same hO hi (by omega : a < a + 1) (by omega) (nI_inj (by omega) (by omega) (q.trans h5))
        rw [if_neg (by rw [hs]; exact h6)]
        exact ih (a + 1 + 1) fu _ vd x (by omega) (by omega) ⟨_, hv, fun c => chill_again⟩ (Or.inr ⟨a + 1, rfl, q.symm, by rw [hs]; exact h6⟩)
    · obtain ⟨w', e, hw⟩ := follow_ok hv hC vd
      rw [br_F q, e, bd_s, sound_ok hw hC, bd_s, b1_ne]
      by_cases z : exAll (sChill S i c) = 0
      · rw [if_pos z, if_pos z]; exact ⟨_, w', rfl⟩
      · rw [if_neg z, if_neg z, nm_s, nI_1]
        exact ih (c + 1) fu _ w' _ (by omega) (by omega) ⟨_, hv, fun c => chill_again⟩ (Or.inr ⟨c, rfl, rfl, z⟩)
theorem leastChill_ok {v vr : CV} {vd : FV} {S : SC} (h : RepC v S) (hO : OkC S) {i : Nat} (hi : i < s_n S) : ∃ vr' vd', f_X4_leastChill v vr vd (nI i) = some (lc S i 501 0, vr', vd') := by
  obtain ⟨v1, e1, h1⟩ := copyFrom_rep (v := vr) h hO
  unfold f_X4_leastChill
  rw [has_yes h hO hi, bd_s, br_F (by decide), e1, bd_s]
  exact lc_loop hO hi 501 0 FU v1 vd (-1) (by omega) (FU_big (by omega)) ⟨S, h1, fun c => rfl⟩ (Or.inl rfl)
theorem leastChill_no {v vr : CV} {vd : FV} {S : SC} (h : RepC v S) {x : Int32} (hx : outN (s_n S) x) : f_X4_leastChill v vr vd x = some (-2, vr, vd) := by
  unfold f_X4_leastChill
  rw [has_no h hx, bd_s, br_T rfl]
