/-! ===== 42: the model's questions ===== -/
/-- all but what freezing writes -/
def Same (v v' : MV) : Prop := M_ro v' = M_ro v ∧ M_sa v' = M_sa v ∧ M_tx v' = M_tx v ∧ M_le v' = M_le v ∧ M_at v' = M_at v ∧ M_nu v' = M_nu v ∧ M_it v' = M_it v ∧ M_h v' = M_h v
theorem Same.rfl' {v : MV} : Same v v := ⟨rfl, rfl, rfl, rfl, rfl, rfl, rfl, rfl⟩
theorem Same.tr {u v w : MV} (h1 : Same u v) (h2 : Same v w) : Same u w := by
  obtain ⟨a1, a2, a3, a4, a5, a6, a7, a8⟩ := h1
  obtain ⟨b1, b2, b3, b4, b5, b6, b7, b8⟩ := h2
  exact ⟨b1.trans a1, b2.trans a2, b3.trans a3, b4.trans a4, b5.trans a5, b6.trans a6, b7.trans a7, b8.trans a8⟩
abbrev Frz (v : MV) (S : SC) : Prop := FrM S (M_od v) (M_st v) (M_ne v) (M_fd v)
theorem frz_ok {v : MV} {S : SC} (h : RepM (M_ro v) S) (hO : OkC S) : ∃ v', f_X5_freezes v = some v' ∧ Same v v' ∧ RepM (M_ro v') S ∧ Frz v' S := by
  obtain ⟨r, sa, od, st, ne, fd, tx, le, a, nu, it, hh⟩ := v
  obtain ⟨od', st', ne', fd', e, q⟩ := freezes_ok (r := r) (tx := tx) (sa := sa) (le := le) (a := a) (nu := nu) (it := it) (hh := hh) h hO od st ne fd
  exact ⟨_, e, ⟨rfl, rfl, rfl, rfl, rfl, rfl, rfl, rfl⟩, h, q⟩
theorem mpores_ok {v : MV} {S : SC} (hF : Frz v S) (hO : OkC S) {i : Nat} (hi : i < s_n S) : f_X5_pores v (nI i) = some (nI (pores S i)) := by
  have hn := hO.n
  obtain ⟨-, -, f3, f4⟩ := hF
  unfold f_X5_pores pores
  rw [ck_in (by omega) (by omega), cl_ (by omega), f4 i hi, br_src hO, ck_in (by omega) (by omega), f3 i hi]
  by_cases c : src S i = none
  · rw [if_pos c, if_pos c]
  · rw [if_neg c, if_neg c]; rfl
theorem b31_ok {v : MV} {S : SC} (hF : Frz v S) (hO : OkC S) {i y : Nat} (hi : i < s_n S) (hy : y < 2 ^ 30) : f_X5_excess_b31 v (nI i) (nI y) = some (nI (pores S i - y)) := by
  have hp := pores_small hO hi
  unfold f_X5_excess_b31
  rw [mpores_ok hF hO hi, bd_s, bd_s, br_le _ _ (by omega) (by omega)]
  by_cases c : pores S i ≤ y
  · rw [if_pos c, show pores S i - y = 0 from by omega]; rfl
  · rw [if_neg c, pk_sub (by omega)]
theorem mexc_ok {v : MV} {S : SC} (h : RepM (M_ro v) S) (hF : Frz v S) (hO : OkC S) {i : Nat} (hi : i < s_n S) : f_X5_excess v (nI i) = some (nI (exc S i)) := by
  have hf := hO.fe hi
  have hv := hO.vo hi
  have hp := hO.pi
  have hb := bear_le hO hi
  have hm : s_vo S i * s_pi S ≤ 5000 * 500 := Nat.mul_le_mul hv.2 hp
  unfold f_X5_excess exc bear
  unfold bear at hb
  rw [of3 h hO hi, bd_s, show (1 : Int32) = nI 1 from rfl, br_eq _ _ (by omega) (by omega)]
  by_cases c : s_fe S i = 1
  · rw [if_pos c] at hb ⊢
    rw [if_pos c, of0 h hO hi, bd_s, ck3, ck_1000, nm_s, z3, h.pi, pk_mul, show (1000 : Int32) = nI 1000 from rfl, pk_div (by omega) (by omega) (by omega), b31_ok hF hO hi (by omega)]
  · rw [if_neg c, if_neg c]
    exact b31_ok hF hO hi (y := 0) (by omega)
theorem excs_ok {v : MV} {S : SC} (h : RepM (M_ro v) S) (hO : OkC S) : ∃ v', f_X5_excesses v = some (nI (exAll S), v') ∧ Same v v' ∧ RepM (M_ro v') S ∧ Frz v' S := by
  have hn := hO.n
  obtain ⟨v', e, hs, hr, hF⟩ := frz_ok h hO
  refine ⟨v', ?_, hs, hr, hF⟩
  unfold f_X5_excesses
  rw [e, bd_s]
  refine (?_ : f_X5_excesses_b8 FU v' (nI (sm (exc S) 0)) (nI 0) = _)
  refine loop0 (fun fu i => f_X5_excesses_b8 fu v' (nI (sm (exc S) i)) (nI i)) (s_n S) _ (by omega) (fun fu i hi => ?_) (fun fu => ?_)
  · try dsimp only
    rw [f_X5_excesses_b8]
    dsimp only
    rw [ck0, z0, hr.n, br_le _ _ (by omega) (by omega), if_neg (by omega), mexc_ok hr hF hO hi, bd_s, nm_s, nm_s, nI_1, nI_add]
    rfl
  · try dsimp only
    rw [f_X5_excesses_b8]
    dsimp only
    rw [ck0, z0, hr.n, br_le _ _ (by omega) (by omega), if_pos (by omega)]
    rfl
theorem yields_ok {v : MV} {S : SC} (h : RepM (M_ro v) S) (hO : OkC S) : f_X5_yields v = some (nI (yl S)) := by
  have hn := hO.n
  unfold f_X5_yields
  refine (?_ : f_X5_yields_b6 v FU (nI (sm (s_vo S) 0)) (nI (sm (castV S) 0)) (nI 0) = _)
  refine loop0 (fun fu i => f_X5_yields_b6 v fu (nI (sm (s_vo S) i)) (nI (sm (castV S) i)) (nI i)) (s_n S) _ (by omega) (fun fu i hi => ?_) (fun fu => ?_)
  · have hf := hO.fe hi
    try dsimp only
    rw [f_X5_yields_b6]
    dsimp only
    unfold f_X5_yields_b46
    rw [ck0, z0, h.n, br_le _ _ (by omega) (by omega), if_neg (by omega), of0 h hO hi, bd_s, nm_s, of3 h hO hi, bd_s, show (1 : Int32) = nI 1 from rfl, br_eq _ _ (by omega) (by omega), sm_s, sm_s]
    by_cases c : s_fe S i = 1
    · rw [if_pos c, show castV S i = 0 from if_pos c, nm_s, nm_s, nI_add, nI_add, show (0 : Int32) = nI 0 from rfl, nI_add]
    · rw [if_neg c, show castV S i = s_vo S i from if_neg c, bd_s, nm_s, nm_s, nI_add, nI_add, nI_add]
  · try dsimp only
    rw [f_X5_yields_b6]
    dsimp only
    have q := vo_sum hO (Nat.le_refl _)
    rw [ck0, z0, h.n, br_le _ _ (by omega) (by omega), if_pos (by omega), br_z _ (by omega), ← br_le0 _ (by omega)]
    exact yield_end (α := Nat) hO q (ca_sum hO (Nat.le_refl _))
theorem fe_sum {S : SC} (hO : OkC S) : ∀ k, k ≤ s_n S → sm (s_fe S) k = cnt (isF S) k
  | 0, _ => rfl
  | k + 1, hk => by
    have hf := hO.fe (i := k) (by omega)
    rw [sm_s, fe_sum hO k (by omega)]
    by_cases c : s_fe S k = 1
    · rw [cnt_t (p := isF S) (decide_eq_true c), c]
    · rw [cnt_f (p := isF S) (fun z => c (of_decide_eq_true z)), show s_fe S k = 0 from by omega]; rfl
/-- what the model adds up for the xth count -/
noncomputable def acc (S : SC) (x i : Nat) : Nat := if x = 4 then s_fe S i else if x = 5 then (if src S i = none then 1 else 0) else pores S i
theorem acc5 {S : SC} : ∀ k, sm (acc S 5) k = cnt (fedB S none) k
  | 0 => rfl
  | k + 1 => by
    rw [sm_s, acc5 k]
    show cnt (fedB S none) k + (if src S k = none then 1 else 0) = _
    by_cases c : src S k = none
    · rw [if_pos c, cnt_t (p := fedB S none) (decide_eq_true c)]
    · rw [if_neg c, cnt_f (p := fedB S none) (fun z => c (of_decide_eq_true z))]; rfl
theorem mcount_ok {v : MV} {S : SC} (h : RepM (M_ro v) S) (hO : OkC S) (x : Int32) : ∃ v', f_X5_count v x = some (aCount S x, v') ∧ Same v v' := by
  have hn := hO.n
  unfold f_X5_count aCount
  rw [in_ok, bd_s, b1_ne]
  by_cases c : 0 ≤ x ∧ x ≤ 9
  · rw [if_pos c, if_pos c]
    obtain ⟨k, hk, rfl⟩ := dig (b := 9) (by omega) c
    rw [show (4 : Int32) = nI 4 from rfl, br_le _ _ (by omega) (by omega), cl_ (by omega)]
    by_cases d : 4 ≤ k
    · rw [if_pos d]
      obtain ⟨v', e, hs, hr, hF⟩ := excs_ok h hO
      refine ⟨v', ?_, hs⟩
      rw [e, bd2_s]
      refine (?_ : f_X5_count_b35 (nI k) (nI (exAll S)) FU v' (nI (sm (acc S k) 0)) (nI 0) = _)
      refine loop0 (fun fu i => f_X5_count_b35 (nI k) (nI (exAll S)) fu v' (nI (sm (acc S k) i)) (nI i)) (s_n S) _ (by omega) (fun fu i hi => ?_) (fun fu => ?_)
      · try dsimp only
        rw [f_X5_count_b35]
        dsimp only
        unfold f_X5_count_b92
        rw [ck0, z0, hr.n, br_le _ _ (by omega) (by omega), if_neg (by omega), show (4 : Int32) = nI 4 from rfl, br_eq _ _ (by omega) (by omega), show (5 : Int32) = nI 5 from rfl, br_eq _ _ (by omega) (by omega), sm_s]
        by_cases c4 : k = 4
        · rw [if_pos c4, of3 hr hO hi, bd_s, nm_s, nm_s, nI_1, nI_add, show acc S k i = s_fe S i from if_pos c4]
        · rw [if_neg c4]
          by_cases c5 : k = 5
          · rw [if_pos c5, ck_in (by omega) (by omega), cl_ (by omega), hF.2.2.2 i hi, br_src hO, show acc S k i = (if src S i = none then 1 else 0) from by unfold acc; rw [if_neg c4, if_pos c5]]
            simp only [nm_s, nI_1]
            by_cases c6 : src S i = none
            · rw [if_pos c6, if_pos c6]
            · rw [if_neg c6, if_neg c6, show (0 : Int32) = nI 0 from rfl, nI_add]
          · rw [if_neg c5, mpores_ok hF hO hi, bd_s, nm_s, nm_s, nI_1, nI_add, show acc S k i = pores S i from by unfold acc; rw [if_neg c4, if_neg c5]]
      · try dsimp only
        rw [f_X5_count_b35]
        dsimp only
        have hx := exAll_small hO
        rw [ck0, z0, hr.n, br_le _ _ (by omega) (by omega), if_pos (by omega), show (7 : Int32) = nI 7 from rfl, br_le _ _ (by omega) (by omega), br_eq _ _ (by omega) (by omega), show (8 : Int32) = nI 8 from rfl, br_eq _ _ (by omega) (by omega), br_z _ (by omega), yields_ok hr hO, bd_s]
        match k, hk, d with
        | 4, _, _ => rw [if_neg (by omega)]; exact congrArg (fun z => some (nI z, v')) (fe_sum hO _ (Nat.le_refl _))
        | 5, _, _ => rw [if_neg (by omega), acc5]; rfl
        | 6, _, _ => rw [if_neg (by omega)]; rfl
        | 7, _, _ => rw [if_pos (by omega), if_pos rfl]; rfl
        | 8, _, _ => rw [if_pos (by omega), if_neg (by omega), if_pos rfl]; rfl
        | 9, _, _ =>
          rw [if_pos (by omega), if_neg (by omega), if_neg (by omega)]
          show _ = some (nI (if exAll S = 0 then 1 else 0), v')
          split <;> rfl
        | k + 10, hk, _ => omega
    · rw [if_neg d, ck_in (by omega) (by omega)]
      refine ⟨v, ?_, Same.rfl'⟩
      match k, d with
      | 0, _ => rw [h.n]; rfl
      | 1, _ => rw [h.m]; rfl
      | 2, _ => rw [h.sh]; rfl
      | 3, _ => rw [h.pi]; rfl
      | k + 4, d => omega
  · rw [if_neg c, if_neg c]
    exact ⟨v, rfl, Same.rfl'⟩
/-! a section's properties -/
theorem cnt_add {p q : Nat → Bool} {o n : Nat} (ho : o < n) (hp : p o = false) (h : ∀ g, g < n → q g = (p g || decide (g = o))) : cnt q n = cnt p n + 1 := by
  induction n with
  | zero => omega
  | succ n ih =>
    rw [cnt_s, cnt_s, h n (by omega)]
    by_cases c : n = o
    · subst c
      rw [hp, if_pos (by simp), if_neg (by simp), cnt_congr (p := q) (q := p) (n := n) (fun g hg => by rw [h g (by omega), decide_eq_false (by omega), Bool.or_false])]
    · rw [ih (by omega) (fun g hg => h g (by omega)), decide_eq_false c, Bool.or_false]
      omega
theorem nbc_eq {S : SC} (hO : OkC S) {i : Nat} : ∀ k, k ≤ s_m S → cnt (fun g => nbk S i g k) (s_n S) = cnt (fun j => tch S j i) k
  | 0, _ => by
    have : ∀ n, cnt (fun g => nbk S i g 0) n = 0 := by
      intro n
      induction n with
      | zero => rfl
      | succ n ih => rw [cnt_s, ih]; rfl
    exact this _
  | k + 1, hk => by
    have ih := nbc_eq hO (i := i) k (by omega)
    obtain ⟨j1, j2, j3⟩ := hO.jj (j := k) (by omega)
    have none_ : ∀ o, ((s_ja S k = i ∧ s_jb S k = o) ∨ (s_ja S k = o ∧ s_jb S k = i)) → nbk S i o k = false := by
      intro o ho
      cases e : nbk S i o k with
      | false => rfl
      | true =>
        obtain ⟨j, hj, q⟩ := nbk_iff.mp e
        have := hO.one hj (by omega)
        omega
    by_cases c : tch S k i = true
    · have c' := of_decide_eq_true c
      rw [cnt_t (p := fun j => tch S j i) c, ← ih]
      by_cases d : s_ja S k = i
      · refine cnt_add (p := fun g => nbk S i g k) j2 (none_ _ (Or.inl ⟨d, rfl⟩)) (fun g hg => ?_)
        rw [nbk_s]
        congr 1
        exact decide_eq_decide.mpr ⟨fun z => by omega, fun z => by omega⟩
      · refine cnt_add (p := fun g => nbk S i g k) j1 (none_ _ (Or.inr ⟨rfl, by omega⟩)) (fun g hg => ?_)
        rw [nbk_s]
        congr 1
        exact decide_eq_decide.mpr ⟨fun z => by omega, fun z => by omega⟩
    · rw [cnt_f (p := fun j => tch S j i) c, ← ih]
      refine cnt_congr (fun g hg => ?_)
      rw [nbk_s, decide_eq_false, Bool.or_false]
      intro z
      exact c (decide_eq_true (by omega))
noncomputable def pacc (S : SC) (i x : Nat) (g : Nat) : Bool := if x = 9 then fedB S (some i) g else nb S i g
theorem mprop_ok {v : MV} {S : SC} (h : RepM (M_ro v) S) (hF : Frz v S) (hO : OkC S) {i k : Nat} (hi : i < s_n S) (hk : k ≤ 10) : f_X5_property v (nI i) (nI k) = some (qSec S i k) := by
  have hn := hO.n
  obtain ⟨f1, f2, f3, f4⟩ := id hF
  unfold f_X5_property
  rw [show (4 : Int32) = nI 4 from rfl, br_le _ _ (by omega) (by omega)]
  by_cases d : 4 ≤ k
  · rw [if_pos d]
    refine (?_ : f_X5_property_b17 v (nI i) (nI k) FU (nI (cnt (pacc S i k) 0)) (nI 0) = _)
    refine loop0 (fun fu g => f_X5_property_b17 v (nI i) (nI k) fu (nI (cnt (pacc S i k) g)) (nI g)) (s_n S) _ (by omega) (fun fu g hg => ?_) (fun fu => ?_)
    · try dsimp only
      rw [f_X5_property_b17]
      dsimp only
      unfold f_X5_property_b69
      rw [ck0, z0, h.n, br_le _ _ (by omega) (by omega), if_neg (by omega), show (9 : Int32) = nI 9 from rfl, br_eq _ _ (by omega) (by omega)]
      by_cases c9 : k = 9
      · rw [if_pos c9, ck_in (by omega) (by omega), cl_ (by omega), f4 g hg]
        have ho : ∀ f, some i = some f → f < 12 := fun f z => by cases z; omega
        simp only [nm_s, nI_1]
        by_cases q : src S g = some i
        · rw [br_T (show enc (src S g) = nI i from (enc_inj hO ho).mpr q), cnt_t (p := pacc S i k) (by unfold pacc; rw [if_pos c9]; exact decide_eq_true q)]
        · rw [br_F (fun z : enc (src S g) = nI i => q ((enc_inj hO ho).mp z)), cnt_f (p := pacc S i k) (by unfold pacc; rw [if_pos c9]; exact fun z => q (of_decide_eq_true z)), show (0 : Int32) = nI 0 from rfl, nI_add]; rfl
      · rw [if_neg c9, neigh_ok h hO (by omega) (by omega), bd_s, b2_br]
        simp only [nm_s, nI_1]
        by_cases q : nb S i g = true
        · rw [if_pos q, cnt_t (p := pacc S i k) (by unfold pacc; rw [if_neg c9]; exact q)]
        · rw [if_neg q, cnt_f (p := pacc S i k) (by unfold pacc; rw [if_neg c9]; exact q), show (0 : Int32) = nI 0 from rfl, nI_add]; rfl
    · try dsimp only
      rw [f_X5_property_b17]
      dsimp only
      rw [ck0, z0, h.n, br_le _ _ (by omega) (by omega), if_pos (by omega)]
      match k, hk, d with
      | 4, _, _ => rw [br_T (by decide), ck_in (by omega) (by omega), cl_ (by omega), f2 i hi]; rfl
      | 5, _, _ => rw [br_F (by decide), br_T (by decide), ck_in (by omega) (by omega), cl_ (by omega), f3 i hi]; rfl
      | 6, _, _ => rw [br_F (by decide), br_F (by decide), br_T (by decide), mpores_ok hF hO hi]; rfl
      | 7, _, _ => rw [br_F (by decide), br_F (by decide), br_F (by decide), br_T (by decide), mexc_ok h hF hO hi]; rfl
      | 8, _, _ => rw [br_F (by decide), br_F (by decide), br_F (by decide), br_F (by decide), br_T (by decide), ck_in (by omega) (by omega), cl_ (by omega), f4 i hi]; rfl
      | 9, _, _ => rw [br_F (by decide), br_F (by decide), br_F (by decide), br_F (by decide), br_F (by decide)]; rfl
      | 10, _, _ =>
        rw [br_F (by decide), br_F (by decide), br_F (by decide), br_F (by decide), br_F (by decide)]
        exact congrArg (fun z => some (nI z)) (nbc_eq hO (i := i) (s_m S) (Nat.le_refl _))
      | k + 11, hk, _ => omega
  · rw [if_neg d]
    match k, d with
    | 0, _ => rw [show nI 0 = (0 : Int32) from rfl, of0 h hO hi]; rfl
    | 1, _ => rw [show nI 1 = (1 : Int32) from rfl, of1 h hO hi]; rfl
    | 2, _ => rw [show nI 2 = (2 : Int32) from rfl, of2 h hO hi]; rfl
    | 3, _ => rw [show nI 3 = (3 : Int32) from rfl, of3 h hO hi]; rfl
    | k + 4, d => omega
/-- the answer of section -/
noncomputable def qSection (S : SC) (x y : Int32) : Int32 := if inN (s_n S) x then aSec S x.toNatClampNeg y else -2
theorem msec_ok {v : MV} {S : SC} (h : RepM (M_ro v) S) (hO : OkC S) (x y : Int32) : ∃ v', f_X5_section v x y = some (qSection S x y, v') ∧ Same v v' := by
  have hn := hO.n
  unfold f_X5_section qSection
  rw [isSec_ok h hO, bd_s, b1_ne]
  rcases inN_cases x (n := s_n S) (by omega) with ⟨i, hi, rfl, q⟩ | ⟨q, q'⟩
  · rw [if_pos q, if_pos q, in_ok, bd_s, b1_ne, cl_ (by omega)]
    unfold aSec
    by_cases c : 0 ≤ y ∧ y ≤ 10
    · rw [if_pos c, if_pos c]
      obtain ⟨k, hk, rfl⟩ := dig (b := 10) (by omega) c
      obtain ⟨v', e, hs, hr, hF⟩ := frz_ok h hO
      rw [e, bd_s, mprop_ok hr hF hO hi hk, bd_s, cl_ (by omega)]
      exact ⟨v', rfl, hs⟩
    · rw [if_neg c, if_neg c]; exact ⟨v, rfl, Same.rfl'⟩
  · rw [if_neg q', if_neg q']; exact ⟨v, rfl, Same.rfl'⟩
theorem sec_c {v : CV} {w : FV} {S : SC} (h : RepC v S) (hF : FrF w S) (hO : OkC S) (x y : Int32) : f_X4_section v w x y = some (qSection S x y) := by
  have hn := hO.n
  unfold qSection
  rcases inN_cases x (n := s_n S) (by omega) with ⟨i, hi, rfl, q⟩ | ⟨q, q'⟩
  · rw [if_pos q, cl_ (by omega), section_ok h hF hO hi]
  · rw [if_neg q', section_no h q]
