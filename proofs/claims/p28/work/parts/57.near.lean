/-! ===== 53: neighbours; the order, who feeds whom, needs, pores, excesses ===== -/
/-- the program's casting and its freezing are those of S -/
def Cg (v : CV) (w : FV) (S : SC) : Prop := RepC v S ∧ FrF w S ∧ OkC S
theorem q_sec {v : CV} {w : FV} {S : SC} (h : Cg v w S) {i : Nat} (hi : i < s_n S) (k : Nat) (hk : k < 11) : f_X4_section v w (nI i) (nI k) = some (qSec S i k) := by
  rw [section_ok h.1 h.2.1 h.2.2 hi, aSec_in hk]
theorem q_cnt {v : CV} {w : FV} {S : SC} (h : Cg v w S) (k : Nat) (hk : k < 10) : f_X4_count v w (nI k) = some (nI (qCount S k)) := by
  rw [count_ok h.1 h.2.1 h.2.2, aCount_in hk]
section SECS
variable {v : CV} {w : FV} {S : SC} {i : Nat}
theorem sec0 (h : Cg v w S) (hi : i < s_n S) : f_X4_section v w (nI i) 0 = some (nI (s_vo S i)) := q_sec h hi 0 (by decide)
theorem sec1 (h : Cg v w S) (hi : i < s_n S) : f_X4_section v w (nI i) 1 = some (nI (s_ar S i)) := q_sec h hi 1 (by decide)
theorem sec2 (h : Cg v w S) (hi : i < s_n S) : f_X4_section v w (nI i) 2 = some (nI (s_ch S i)) := q_sec h hi 2 (by decide)
theorem sec3 (h : Cg v w S) (hi : i < s_n S) : f_X4_section v w (nI i) 3 = some (nI (s_fe S i)) := q_sec h hi 3 (by decide)
theorem sec4 (h : Cg v w S) (hi : i < s_n S) : f_X4_section v w (nI i) 4 = some (nI (rk S i)) := q_sec h hi 4 (by decide)
theorem sec5 (h : Cg v w S) (hi : i < s_n S) : f_X4_section v w (nI i) 5 = some (nI (need S i)) := q_sec h hi 5 (by decide)
theorem sec6 (h : Cg v w S) (hi : i < s_n S) : f_X4_section v w (nI i) 6 = some (nI (pores S i)) := q_sec h hi 6 (by decide)
theorem sec7 (h : Cg v w S) (hi : i < s_n S) : f_X4_section v w (nI i) 7 = some (nI (exc S i)) := q_sec h hi 7 (by decide)
theorem sec8 (h : Cg v w S) (hi : i < s_n S) : f_X4_section v w (nI i) 8 = some (enc (src S i)) := q_sec h hi 8 (by decide)
theorem sec10 (h : Cg v w S) (hi : i < s_n S) : f_X4_section v w (nI i) 10 = some (nI (cnt (fun j => tch S j i) (s_m S))) := q_sec h hi 10 (by decide)
theorem cnt0 (h : Cg v w S) : f_X4_count v w 0 = some (nI (s_n S)) := q_cnt h 0 (by decide)
theorem cnt1 (h : Cg v w S) : f_X4_count v w 1 = some (nI (s_m S)) := q_cnt h 1 (by decide)
theorem cnt2 (h : Cg v w S) : f_X4_count v w 2 = some (nI (s_sh S)) := q_cnt h 2 (by decide)
theorem cnt3 (h : Cg v w S) : f_X4_count v w 3 = some (nI (s_pi S)) := q_cnt h 3 (by decide)
theorem cnt5 (h : Cg v w S) : f_X4_count v w 5 = some (nI (cnt (fedB S none) (s_n S))) := q_cnt h 5 (by decide)
theorem cnt6 (h : Cg v w S) : f_X4_count v w 6 = some (nI (sm (pores S) (s_n S))) := q_cnt h 6 (by decide)
theorem cnt7 (h : Cg v w S) : f_X4_count v w 7 = some (nI (exAll S)) := q_cnt h 7 (by decide)
theorem cnt8 (h : Cg v w S) : f_X4_count v w 8 = some (nI (yl S)) := q_cnt h 8 (by decide)
theorem cnt9 (h : Cg v w S) : f_X4_count v w 9 = some (nI (if exAll S = 0 then 1 else 0)) := q_cnt h 9 (by decide)
theorem jn0 (h : Cg v w S) (hi : i < s_m S) : f_X4_joint v (nI i) 0 = some (nI (s_ja S i)) := by
  rw [joint_ok h.1 h.2.2 hi]
  rfl
theorem jn1 (h : Cg v w S) (hi : i < s_m S) : f_X4_joint v (nI i) 1 = some (nI (s_jb S i)) := by
  rw [joint_ok h.1 h.2.2 hi]
  rfl
theorem step_at (h : Cg v w S) (hi : i < s_n S) : f_X4_atStep v w (nI i) = some (nI (ord S i)) := by
  have hn := h.2.2.n
  rw [atStep_ok h.1 h.2.1 h.2.2]
  unfold aStep
  rw [if_pos (nI_pos' (by omega)), if_neg (fun z => by have := (nI_leI (by omega) (by omega)).mp z; omega), cl_ (by omega)]
theorem step_end (h : Cg v w S) : f_X4_atStep v w (nI (s_n S)) = some (-1) := by
  have hn := h.2.2.n
  rw [atStep_ok h.1 h.2.1 h.2.2]
  unfold aStep
  rw [if_pos (nI_pos' (by omega)), if_pos ((nI_leI (by omega) (by omega)).mpr (Nat.le_refl _))]
end SECS
/-! areNeighbours -/
theorem b31_ok {v : CV} {w : FV} {S : SC} (h : Cg v w S) {a b k : Nat} (ha : a < s_n S) (hb : b < s_n S) (hk : k < s_m S) (kk : Int32 → Option Int32) : f_L_areNeighbours_b31 kk v w (nI a) (nI b) (nI k) = if s_ja S k = b ∧ s_jb S k = a then some 1 else kk (nI (k + 1)) := by
  have hn := h.2.2.n
  obtain ⟨ja, jb, -⟩ := h.2.2.jj hk
  unfold f_L_areNeighbours_b31
  rw [jn0 h hk, bd_s, br_eq _ _ (by omega) (by omega)]
  by_cases c1 : s_ja S k = b
  · rw [if_pos c1, jn1 h hk, bd_s, br_eq _ _ (by omega) (by omega)]
    by_cases c2 : s_jb S k = a
    · rw [if_pos c2, if_pos ⟨c1, c2⟩]
    · rw [if_neg c2, if_neg (fun z => c2 z.2), nm_s, nI_1]
  · rw [if_neg c1, if_neg (fun z => c1 z.1), nm_s, nI_1]
theorem are_ok {v : CV} {w : FV} {S : SC} (h : Cg v w S) {a b : Nat} (ha : a < s_n S) (hb : b < s_n S) : f_L_areNeighbours v w (nI a) (nI b) = some (if nb S a b = true then 1 else 0) := by
  have hn := h.2.2.n
  have hm := h.2.2.m
  unfold f_L_areNeighbours
  have key : ∀ d k fu, k + d = s_m S → d < fu → nbk S a b k = false → f_L_areNeighbours_b2 v w (nI a) (nI b) fu (nI k) = some (if nb S a b = true then 1 else 0) := by
    intro d
    induction d with
    | zero =>
      intro k fu h1 h2 h3
      obtain ⟨fu, rfl⟩ : ∃ z, fu = z + 1 := ⟨fu - 1, by omega⟩
      have : k = s_m S := by omega
      subst this
      rw [f_L_areNeighbours_b2]
      dsimp only
      rw [cnt1 h, bd_s, br_le _ _ (by omega) (by omega), if_pos (by omega), show nb S a b = false from h3]
      rfl
    | succ d ih =>
      intro k fu h1 h2 h3
      obtain ⟨fu, rfl⟩ : ∃ z, fu = z + 1 := ⟨fu - 1, by omega⟩
      have hk : k < s_m S := by omega
      obtain ⟨ja, jb, jab⟩ := h.2.2.jj hk
      have yes : ((s_ja S k = a ∧ s_jb S k = b) ∨ (s_ja S k = b ∧ s_jb S k = a)) → nb S a b = true := fun q => nbk_iff.mpr ⟨k, hk, q⟩
      have no : ¬ ((s_ja S k = a ∧ s_jb S k = b) ∨ (s_ja S k = b ∧ s_jb S k = a)) → nbk S a b (k + 1) = false := by
        intro q
        rw [nbk_s, h3, decide_eq_false q]
        rfl
      rw [f_L_areNeighbours_b2]
      dsimp only
      rw [cnt1 h, bd_s, br_le _ _ (by omega) (by omega), if_neg (by omega), jn0 h hk, bd_s, br_eq _ _ (by omega) (by omega), b31_ok h ha hb hk]
      by_cases c1 : s_ja S k = a
      · rw [if_pos c1, jn1 h hk, bd_s, br_eq _ _ (by omega) (by omega)]
        by_cases c2 : s_jb S k = b
        · rw [if_pos c2, if_pos (yes (Or.inl ⟨c1, c2⟩))]
        · rw [if_neg c2]
          by_cases c3 : s_ja S k = b ∧ s_jb S k = a
          · rw [if_pos c3, if_pos (yes (Or.inr c3))]
          · rw [if_neg c3]
            exact ih (k + 1) fu (by omega) (by omega) (no (fun z => z.elim (fun y => c2 y.2) c3))
      · rw [if_neg c1]
        by_cases c3 : s_ja S k = b ∧ s_jb S k = a
        · rw [if_pos c3, if_pos (yes (Or.inr c3))]
        · rw [if_neg c3]
          exact ih (k + 1) fu (by omega) (by omega) (no (fun z => z.elim (fun y => c1 y.1) c3))
  rw [show (0 : Int32) = nI 0 from rfl]
  exact key (s_m S) 0 FU (by omega) (FU_big (by omega)) rfl
/-! the loop over the way -/
theorem way_at {v : CV} {w : FV} {S : SC} (h : Cg v w S) {i k : Nat} (hi : i < s_n S) (hk : k < 14) : f_X4_way v w (nI i) (nI k) = some (enc (pth S k i)) := by
  rw [way_ok h.1 h.2.1 h.2.2 hi, aWay_pth hk]
theorem b633_ok {v : CV} {w : FV} {S : SC} (h : Cg v w S) {s : Nat} (hs : s < s_n S) {kk : Int32 → Int32 → Int32 → Int32 → Int32 → Int32 → Int64 → Int64 → Int32 → Int32 → Option Int32} {x1 x2 x3 x4 x5 x12 y0 : Int32} {x8 x10 : Int64} {G t H H0 : Nat} (hy : y0 = nI H0) :
    f_L_isSound_b633 kk v w x1 x2 x3 x4 x5 (nI G) x8 x10 x12 (nI t) (nI s) y0 (nI H) = kk x2 x3 x4 x5 (nI (H + H0)) (nI (G + pores S s)) x8 x10 x12 (nI (t + 1)) := by
  subst hy
  have e := gathers_ok h.1 h.2.1 h.2.2 hs
  rw [gath_pores h.2.2 hs] at e
  unfold f_L_isSound_b633
  rw [nm_s, e, bd_s, nm_s, nm_s, nI_add, nI_add, nI_1]
theorem b485_loop {v : CV} {w : FV} {S : SC} (h : Cg v w S) {s : Nat} (hs : s < s_n S) {kk : Int32 → Int32 → Int32 → Int32 → Int32 → Int32 → Int64 → Int64 → Int32 → Int32 → Option Int32} {x2 x12 : Int32} {x8 x10 : Int64} {P F E H G t : Nat} :
    ∀ (d k fu at_ : Nat), d < fu → s_n S - rk S at_ ≤ d → at_ < s_n S → pth S k s = some at_ → k ≤ rk S at_ →
      f_L_isSound_b485 kk v w (nI (s_n S)) x2 (nI P) (nI F) (nI E) (nI H) (nI G) x8 x10 x12 (nI t) (nI s) (nI (fneed S s)) (enc (src S s)) fu (nI k) (nI at_) = kk x2 (nI (P + pores S s)) (nI (F + fneed S s)) (nI (E + exc S s)) (nI (H + if src S s = none then 1 else 0)) (nI (G + pores S s)) x8 x10 x12 (nI (t + 1)) := by
  have hn := h.2.2.n
  intro d
  induction d with
  | zero => intro k fu at_ h1 h2 h3; have := rk_lt h3; omega
  | succ d ih =>
    intro k fu at_ h1 h2 h3 h4 h5
    obtain ⟨fu, rfl⟩ : ∃ z, fu = z + 1 := ⟨fu - 1, by omega⟩
    have hr := rk_lt h3
    have w1 := way_at h hs (k := k) (by omega)
    rw [h4] at w1
    rw [f_L_isSound_b485]
    dsimp only
    rw [sec8 h h3, bd_s]
    cases e : src S at_ with
    | none =>
      have w2 := way_at h hs (k := k + 1) (by omega)
      rw [pth_next h4, e] at w2
      have w3 := end_ok h.1 h.2.1 h.2.2 hs
      rw [pth_end (d := s_n S) h4 e (by omega)] at w3
      have w4 := gathers_ok h.1 h.2.1 h.2.2 hs
      rw [gath_pores h.2.2 hs] at w4
      have w1 : f_X4_way v w (nI s) (nI k) = some (nI at_) := w1
      have w2 : f_X4_way v w (nI s) (nI (k + 1)) = some (-1) := w2
      rw [br_T (show enc none < 0 from by decide), w1, bd_s, br_T rfl, nI_1, w2, bd_s, br_T rfl, w3, bd_s, br_T rfl, w4, bd_s, sec6 h hs, bd_s, br_T rfl, bd_s, nm_s, sec7 h hs, bd_s, nm_s, nm_s, nI_add, nI_add, nI_add]
      cases e2 : src S s with
      | none =>
        rw [br_F (show ¬ (0 : Int32) ≤ enc none from by decide), if_pos rfl]
        exact b633_ok h hs rfl
      | some f =>
        have hf := (src_some h.2.2 e2).1
        rw [br_T (show (0 : Int32) ≤ enc (some f) from nI_pos' (by omega)), if_neg (by simp)]
        exact b633_ok h hs (H0 := 0) rfl
    | some f =>
      obtain ⟨f1, -, f3, -⟩ := src_some h.2.2 e
      have w1 : f_X4_way v w (nI s) (nI k) = some (nI at_) := w1
      rw [br_F (show ¬ enc (some f) < 0 from nI_pos (by omega)), w1, bd_s, br_T rfl, br_le _ _ (by omega) (by omega), if_pos (by omega), bd_s, nm_s, nI_1]
      refine ih (k + 1) fu f (by omega) (by omega) f1 ?_ (by omega)
      rw [pth_next h4, e]
/-! excess; pores -/
theorem b473_ok {v : CV} {w : FV} {S : SC} (h : Cg v w S) {s : Nat} (hs : s < s_n S) {kk : Int32 → Int32 → Int32 → Int32 → Int32 → Int32 → Int64 → Int64 → Int32 → Int32 → Option Int32} {x2 x12 : Int32} {x8 x10 : Int64} {P F E H G t : Nat} {y : Int32} :
    f_L_isSound_b473 kk v w (nI (s_n S)) x2 (nI P) (nI F) (nI E) (nI H) (nI G) x8 x10 x12 (nI t) (nI s) (nI (fneed S s)) (enc (src S s)) y y = kk x2 (nI (P + pores S s)) (nI (F + fneed S s)) (nI (E + exc S s)) (nI (H + if src S s = none then 1 else 0)) (nI (G + pores S s)) x8 x10 x12 (nI (t + 1)) := by
  have hn := h.2.2.n
  unfold f_L_isSound_b473
  rw [br_T rfl, show (0 : Int32) = nI 0 from rfl]
  exact b485_loop h hs (s_n S) 0 FU s (FU_big (by omega)) (by omega) hs rfl (Nat.zero_le _)
theorem b439_ok {v : CV} {w : FV} {S : SC} (h : Cg v w S) {s : Nat} (hs : s < s_n S) {kk : Int32 → Int32 → Int32 → Int32 → Int32 → Int32 → Int64 → Int64 → Int32 → Int32 → Option Int32} {x2 x12 : Int32} {x8 x10 : Int64} {P F E H G t : Nat} {y : Int32} (hy : y = nI (bear S s)) :
    f_L_isSound_b439 kk v w (nI (s_n S)) x2 (nI P) (nI F) (nI E) (nI H) (nI G) x8 x10 x12 (nI t) (nI s) (nI (fneed S s)) (enc (src S s)) y = kk x2 (nI (P + pores S s)) (nI (F + fneed S s)) (nI (E + exc S s)) (nI (H + if src S s = none then 1 else 0)) (nI (G + pores S s)) x8 x10 x12 (nI (t + 1)) := by
  subst hy
  have hb := bear_le h.2.2 hs
  have hp := pores_small h.2.2 hs
  have ee : exc S s = pores S s - bear S s := rfl
  unfold f_L_isSound_b439
  rw [sec6 h hs, bd_s, nm_s, sec7 h hs, bd_s]
  by_cases c : pores S s ≤ bear S s
  · have z : nI (pores S s) - nI (bear S s) ≤ 0 := by
      rw [Int32.le_iff_toInt_le, pk_sub_toInt (by omega) (by omega), Int32.toInt_zero]
      omega
    rw [br_T z, show (0 : Int32) = nI (exc S s) from by rw [ee, Nat.sub_eq_zero_of_le c]; rfl]
    exact b473_ok h hs
  · rw [pk_sub (by omega), br_le0 _ (by omega), if_neg (by omega), ← ee]
    exact b473_ok h hs
theorem b402_ok {v : CV} {w : FV} {S : SC} (h : Cg v w S) {s : Nat} (hs : s < s_n S) {kk : Int32 → Int32 → Int32 → Int32 → Int32 → Int32 → Int64 → Int64 → Int32 → Int32 → Option Int32} {x2 x12 : Int32} {x8 x10 : Int64} {P F E H G t : Nat} {y : Int32} :
    f_L_isSound_b402 kk v w (nI (s_n S)) x2 (nI P) (nI F) (nI E) (nI H) (nI G) x8 x10 x12 (nI t) (nI s) (nI (fneed S s)) (enc (src S s)) y y = kk x2 (nI (P + pores S s)) (nI (F + fneed S s)) (nI (E + exc S s)) (nI (H + if src S s = none then 1 else 0)) (nI (G + pores S s)) x8 x10 x12 (nI (t + 1)) := by
  have hf := h.2.2.fe hs
  have h1 := (h.2.2.vo hs).2
  have h2 := h.2.2.pi
  have h3 : s_vo S s * s_pi S ≤ 5000 * 500 := Nat.mul_le_mul h1 h2
  unfold f_L_isSound_b402
  rw [br_T rfl, sec3 h hs, bd_s]
  by_cases c : s_fe S s = 1
  · rw [c, br_T (show nI 1 = 1 from rfl), sec0 h hs, bd_s, cnt3 h, bd_s, ck_1000, nm_s, pk_mul]
    refine b439_ok h hs ?_
    rw [show (1000 : Int32) = nI 1000 from rfl, pk_div (by omega) (by omega) (by omega)]
    unfold bear
    rw [if_pos c]
  · rw [show s_fe S s = 0 from by omega, br_F (by decide)]
    refine b439_ok h hs ?_
    unfold bear
    rw [if_neg c]
    rfl
/-! the loop over the others: the need, the neighbours, the latest of them -/
theorem enc_nn {o : Option Nat} (h : ∀ f, o = some f → f < 12) : enc o < 0 ↔ o = none := by
  cases o with
  | none => exact ⟨fun _ => rfl, fun _ => by decide⟩
  | some f => exact ⟨fun q => absurd q (nI_pos (by have := h f rfl; omega)), fun q => by cases q⟩
theorem b294_ok {v : CV} {w : FV} {S : SC} (h : Cg v w S) {s k : Nat} (hs : s < s_n S) (hk : k < s_n S) {kk : Int32 → Int32 → Int32 → Int32 → Int32 → Int32 → Int64 → Int64 → Int32 → Int32 → Option Int32} {k2 : Int32 → Int32 → Int32 → Int32 → Option Int32} {x1 x2 x3 x4 x5 x6 x7 x12 x19 x20 x21 : Int32} {x8 x10 : Int64} {o : Option Nat} {Y Y0 : Nat} {y0 : Int32} (hy : y0 = nI Y0) (hb : Best S (fun g => nbs S s g ∧ g < k) s o) :
    ∃ o', f_L_isSound_b294 kk k2 v w x1 x2 x3 x4 x5 x6 x7 x8 x10 x12 (nI (rk S s)) (nI s) x19 x20 x21 (enc o) (nI k) (if nb S s k = true then 1 else 0) y0 (nI Y) = k2 x21 (nI (Y + Y0)) (enc o') (nI (k + 1)) ∧ Best S (fun g => nbs S s g ∧ g < k + 1) s o' := by
  subst hy
  have hn := h.2.2.n
  have r1 := rk_lt hs
  have r2 := rk_lt hk
  -- the next best, when k is none of the candidates
  have stay : (¬ nb S s k = true ∨ rk S k ≤ rk S s ∨ ∃ f, o = some f ∧ rk S k ≤ rk S f) → Best S (fun g => nbs S s g ∧ g < k + 1) s o := by
    intro q
    cases o with
    | none =>
      intro g hg hr
      by_cases c : g = k
      · subst c
        rcases q with q | q | ⟨f, e, -⟩
        · exact q hg.1
        · omega
        · cases e
      · exact hb g ⟨hg.1, by omega⟩ hr
    | some f =>
      refine ⟨⟨hb.1.1, by have := hb.1.2; omega⟩, hb.2.1, fun g hg hr => ?_⟩
      by_cases c : g = k
      · subst c
        rcases q with q | q | ⟨f', e, q⟩
        · exact absurd hg.1 q
        · omega
        · cases e; exact q
      · exact hb.2.2 g ⟨hg.1, by omega⟩ hr
  have take : nb S s k = true → rk S s < rk S k → (∀ f, o = some f → rk S f < rk S k) → Best S (fun g => nbs S s g ∧ g < k + 1) s (some k) := by
    intro q1 q2 q3
    refine ⟨⟨q1, by omega⟩, q2, fun g hg hr => ?_⟩
    by_cases c : g = k
    · subst c; exact Nat.le_refl _
    · cases o with
      | none => exact absurd hr (hb g ⟨hg.1, by omega⟩)
      | some f =>
        have a := hb.2.2 g ⟨hg.1, by omega⟩ hr
        have b := q3 f rfl
        omega
  have ho : ∀ f, o = some f → f < s_n S := by
    intro f e
    subst e
    exact (nb_lt h.2.2 hb.1.1).2.1
  unfold f_L_isSound_b294
  rw [nm_s, nI_add, b1_ne]
  by_cases c1 : nb S s k = true
  · rw [if_pos c1, sec4 h hk, bd_s, br_le _ _ (by omega) (by omega)]
    by_cases c2 : rk S k ≤ rk S s
    · rw [if_pos c2]
      refine ⟨o, ?_, stay (Or.inr (Or.inl c2))⟩
      unfold f_L_isSound_b341
      rw [nm_s, nI_1]
    · rw [if_neg c2]
      cases o with
      | none =>
        rw [br_T (show enc none < 0 from by decide)]
        refine ⟨some k, ?_, take c1 (by omega) (fun f e => by cases e)⟩
        unfold f_L_isSound_b336
        rw [nm_s, nI_1]
        rfl
      | some f =>
        have hf := ho f rfl
        have r3 := rk_lt hf
        rw [br_F (show ¬ enc (some f) < 0 from nI_pos (by omega)), bd_s, show enc (some f) = nI f from rfl, sec4 h hf, bd_s, br_le _ _ (by omega) (by omega)]
        by_cases c3 : rk S k ≤ rk S f
        · rw [if_pos c3]
          refine ⟨some f, ?_, stay (Or.inr (Or.inr ⟨f, rfl, c3⟩))⟩
          unfold f_L_isSound_b341
          rw [nm_s, nI_1]
          rfl
        · rw [if_neg c3]
          refine ⟨some k, ?_, take c1 (by omega) (fun f' e => by cases e; omega)⟩
          unfold f_L_isSound_b336
          rw [nm_s, nI_1]
          rfl
  · rw [if_neg c1]
    refine ⟨o, ?_, stay (Or.inl c1)⟩
    unfold f_L_isSound_b341
    rw [nm_s, nI_1]
theorem b269_ok {v : CV} {w : FV} {S : SC} (h : Cg v w S) {s k : Nat} (hs : s < s_n S) (hk : k < s_n S) {kk : Int32 → Int32 → Int32 → Int32 → Int32 → Int32 → Int64 → Int64 → Int32 → Int32 → Option Int32} {k2 : Int32 → Int32 → Int32 → Int32 → Option Int32} {x1 x2 x3 x4 x5 x6 x7 x12 x19 x20 : Int32} {x8 x10 : Int64} {o : Option Nat} {Y X X0 : Nat} {y0 : Int32} (hy : y0 = nI X0) (hb : Best S (fun g => nbs S s g ∧ g < k) s o) :
    ∃ o', f_L_isSound_b269 kk k2 v w x1 x2 x3 x4 x5 x6 x7 x8 x10 x12 (nI (rk S s)) (nI s) x19 x20 (nI Y) (enc o) (nI k) y0 (nI X) = k2 (nI (X + X0)) (nI (Y + if nb S s k = true then 1 else 0)) (enc o') (nI (k + 1)) ∧ Best S (fun g => nbs S s g ∧ g < k + 1) s o' := by
  subst hy
  unfold f_L_isSound_b269
  rw [nm_s, nI_add, are_ok h hs hk, bd_s, b1_ne]
  by_cases c : nb S s k = true
  · rw [if_pos c, if_pos c, if_pos c]
    have e : (1 : Int32) = if nb S s k = true then 1 else 0 := (if_pos c).symm
    obtain ⟨o', e1, e2⟩ := b294_ok h hs hk (kk := kk) (k2 := k2) (x1 := x1) (x2 := x2) (x3 := x3) (x4 := x4) (x5 := x5) (x6 := x6) (x7 := x7) (x8 := x8) (x10 := x10) (x12 := x12) (x19 := x19) (x20 := x20) (x21 := nI (X + X0)) (Y := Y) (Y0 := 1) (y0 := 1) rfl hb
    rw [if_pos c] at e1
    exact ⟨o', e1, e2⟩
  · rw [if_neg c, if_neg c, if_neg c]
    obtain ⟨o', e1, e2⟩ := b294_ok h hs hk (kk := kk) (k2 := k2) (x1 := x1) (x2 := x2) (x3 := x3) (x4 := x4) (x5 := x5) (x6 := x6) (x7 := x7) (x8 := x8) (x10 := x10) (x12 := x12) (x19 := x19) (x20 := x20) (x21 := nI (X + X0)) (Y := Y) (Y0 := 0) (y0 := 0) rfl hb
    rw [if_neg c] at e1
    exact ⟨o', e1, e2⟩
theorem opt_cases (o : Option Nat) : o = none ∨ ∃ f, o = some f := by
  cases o with
  | none => exact Or.inl rfl
  | some f => exact Or.inr ⟨f, rfl⟩
theorem b237_loop {v : CV} {w : FV} {S : SC} (h : Cg v w S) {s : Nat} (hs : s < s_n S) {kk : Int32 → Int32 → Int32 → Int32 → Int32 → Int32 → Int64 → Int64 → Int32 → Int32 → Option Int32} {x2 x12 : Int32} {x8 x10 : Int64} {P F E H G : Nat} :
    ∀ (d k fu : Nat) (o : Option Nat), k + d = s_n S → d < fu → Best S (fun g => nbs S s g ∧ g < k) s o →
      f_L_isSound_b237 kk v w (nI (s_n S)) x2 (nI P) (nI F) (nI E) (nI H) (nI G) x8 x10 x12 (nI (rk S s)) (nI s) (nI (fneed S s)) (enc (src S s)) fu (nI (fneed S s + sm (fdn S s) k)) (nI (cnt (fun g => nb S s g) k)) (enc o) (nI k) = kk x2 (nI (P + pores S s)) (nI (F + fneed S s)) (nI (E + exc S s)) (nI (H + if src S s = none then 1 else 0)) (nI (G + pores S s)) x8 x10 x12 (nI (rk S s + 1)) := by
  have hn := h.2.2.n
  intro d
  induction d with
  | zero =>
    intro k fu o h1 h2 h3
    obtain ⟨fu, rfl⟩ : ∃ z, fu = z + 1 := ⟨fu - 1, by omega⟩
    obtain rfl : k = s_n S := by omega
    obtain rfl : o = src S s := src_uniq h.2.2 (best_congr (fun g => ⟨fun q => q.1, fun q => ⟨q, (nb_lt h.2.2 q).2.1⟩⟩) h3)
    have e5 := need_sum h.2.2 (i := s)
    have e10 := nb_cnt h.2.2 (s := s) (s_m S) (Nat.le_refl _)
    rw [f_L_isSound_b237]
    dsimp only
    rw [br_le _ _ (by omega) (by omega), if_pos (Nat.le_refl _), br_T rfl, sec5 h hs, bd_s, ← e5, br_T rfl, sec10 h hs, bd_s, ← e10, br_T (show nI (cnt (fun g => nb S s g) (s_n S)) = nI (cnt (fun k => nbk S s k (s_m S)) (s_n S)) from rfl), sec6 h hs, bd_s]
    rcases opt_cases (src S s) with e | ⟨f, e⟩
    · have ep : pores S s = need S s := if_pos e
      rw [br_F (show ¬ (0 : Int32) ≤ enc (src S s) from by rw [e]; decide), ← ep]
      exact b402_ok h hs
    · have hf := (src_some h.2.2 e).1
      have ep : pores S s = 0 := if_neg (by rw [e]; simp)
      rw [br_T (show (0 : Int32) ≤ enc (src S s) from by rw [e]; exact nI_pos' (by omega)), show (0 : Int32) = nI (pores S s) from by rw [ep]; rfl]
      exact b402_ok h hs
  | succ d ih =>
    intro k fu o h1 h2 h3
    obtain ⟨fu, rfl⟩ : ∃ z, fu = z + 1 := ⟨fu - 1, by omega⟩
    have hk : k < s_n S := by omega
    have en : (enc (src S k) = nI s) ↔ src S k = some s := enc_inj h.2.2 (o := some s) (fun f e => by cases e; omega)
    rw [f_L_isSound_b237]
    dsimp only
    rw [br_le _ _ (by omega) (by omega), if_neg (by omega), sec8 h hk, bd_s]
    have go : ∀ (X0 : Nat) (y0 : Int32), y0 = nI X0 → fdn S s k = X0 → f_L_isSound_b269 kk (f_L_isSound_b237 kk v w (nI (s_n S)) x2 (nI P) (nI F) (nI E) (nI H) (nI G) x8 x10 x12 (nI (rk S s)) (nI s) (nI (fneed S s)) (enc (src S s)) fu) v w (nI (s_n S)) x2 (nI P) (nI F) (nI E) (nI H) (nI G) x8 x10 x12 (nI (rk S s)) (nI s) (nI (fneed S s)) (enc (src S s)) (nI (cnt (fun g => nb S s g) k)) (enc o) (nI k) y0 (nI (fneed S s + sm (fdn S s) k)) = kk x2 (nI (P + pores S s)) (nI (F + fneed S s)) (nI (E + exc S s)) (nI (H + if src S s = none then 1 else 0)) (nI (G + pores S s)) x8 x10 x12 (nI (rk S s + 1)) := by
      intro X0 y0 hy hX
      obtain ⟨o', e1, e2⟩ := b269_ok h hs hk (kk := kk) (k2 := f_L_isSound_b237 kk v w (nI (s_n S)) x2 (nI P) (nI F) (nI E) (nI H) (nI G) x8 x10 x12 (nI (rk S s)) (nI s) (nI (fneed S s)) (enc (src S s)) fu) (x1 := nI (s_n S)) (x2 := x2) (x3 := nI P) (x4 := nI F) (x5 := nI E) (x6 := nI H) (x7 := nI G) (x8 := x8) (x10 := x10) (x12 := x12) (x19 := nI (fneed S s)) (x20 := enc (src S s)) (Y := cnt (fun g => nb S s g) k) (X := fneed S s + sm (fdn S s) k) hy h3
      rw [e1, Nat.add_assoc, ← hX, ← sm_s, ← cnt_s (p := fun g => nb S s g)]
      exact ih (k + 1) fu o' (by omega) (by omega) e2
    by_cases c : src S k = some s
    · rw [br_T (en.mpr c), sec5 h hk, bd_s]
      exact go (need S k) _ rfl (if_pos c)
    · rw [br_F (fun z => c (en.mp z))]
      exact go 0 _ rfl (if_neg c)
theorem b183_ok {v : CV} {w : FV} {S : SC} (h : Cg v w S) {s : Nat} (hs : s < s_n S) {kk : Int32 → Int32 → Int32 → Int32 → Int32 → Int32 → Int64 → Int64 → Int32 → Int32 → Option Int32} {x2 : Int32} {x15 x17 : Int64} {P F E H G : Nat} :
    f_L_isSound_b183 kk v w (nI (s_n S)) x2 (nI P) (nI F) (nI E) (nI H) (nI G) (nI (rk S s)) (nI s) x15 x17 = kk x2 (nI (P + pores S s)) (nI (F + fneed S s)) (nI (E + exc S s)) (nI (H + if src S s = none then 1 else 0)) (nI (G + pores S s)) x15 x17 (nI s) (nI (rk S s + 1)) := by
  have hn := h.2.2.n
  have h1 := (h.2.2.vo hs).2
  have h2 := h.2.2.sh
  have h3 : s_vo S s * s_sh S ≤ 5000 * 200 := Nat.mul_le_mul h1 h2
  unfold f_L_isSound_b183
  rw [sec0 h hs, bd_s, cnt2 h, bd_s, ck_1000, nm_s, nm_s, pk_mul, show (1000 : Int32) = nI 1000 from rfl, pk_div (by omega) (by omega) (by omega), sec8 h hs, bd_s]
  exact b237_loop h hs (s_n S) 0 FU none (by omega) (FU_big (by omega)) (fun g hg => absurd hg.2 (Nat.not_lt_zero _))
/-! the loop over the steps -/
def bN (S : SC) (f : Nat → Nat) : Nat → Nat
  | 0 => 0
  | t + 1 => bN S f t ||| 2 ^ f t
theorem bN_bit {S : SC} {f : Nat → Nat} {k : Nat} : ∀ t : Nat, (bN S f t).testBit k = true → ∃ i, i < t ∧ f i = k
  | 0, h => by simp [bN] at h
  | t + 1, h => by
    unfold bN at h
    rw [Nat.testBit_or, Bool.or_eq_true] at h
    rcases h with h | h
    · obtain ⟨i, a, b⟩ := bN_bit t h
      exact ⟨i, by omega, b⟩
    · rw [Nat.testBit_two_pow] at h
      exact ⟨t, by omega, of_decide_eq_true h⟩
theorem bN_lt {S : SC} {f : Nat → Nat} (hf : ∀ i, f i < 12) : ∀ t : Nat, bN S f t < 2 ^ 12
  | 0 => by simp [bN]
  | t + 1 => by
    unfold bN
    exact Nat.or_lt_two_pow (bN_lt hf t) (Nat.pow_lt_pow_right (by decide) (hf t))
theorem sh_31 : ∀ n, n < 32 → ((nI n &&& 31).toBitVec.smod 32).toNat = n := by decide +kernel
theorem or_nI (a b : Nat) : nI a ||| nI b = nI (a ||| b) := by
  apply Int32.toBitVec_inj.mp
  rw [Int32.toBitVec_or]
  show BitVec.ofNat 32 a ||| BitVec.ofNat 32 b = BitVec.ofNat 32 (a ||| b)
  rw [BitVec.ofNat_or]
theorem bit_no {B s : Nat} (hB : B < 2 ^ 12) (hs : s < 12) (h : ¬ B.testBit s = true) : ¬ (((nI B >>> (nI s &&& 31)) &&& 1) = 1) := by
  have e1 : nI B >>> (nI s &&& 31) = nI (B / 2 ^ s) := pk_shrN (by omega) _ s (sh_31 s (by omega))
  have hd : B / 2 ^ s ≤ B := Nat.div_le_self _ _
  rw [e1, show (1 : Int32) = nI 1 from rfl, pk_andN (by omega) 1 (by decide)]
  intro z
  have e2 := nI_inj (by omega) (by omega) z
  apply h
  rw [Nat.testBit_eq_decide_div_mod_eq]
  exact decide_eq_true e2
/-- what the step before has left -/
noncomputable def pv8 (S : SC) : Nat → Int64
  | 0 => -1
  | t + 1 => (aMod S (ord S t) 0).toInt64
noncomputable def pv10 (S : SC) : Nat → Int64
  | 0 => 1
  | t + 1 => (aMod S (ord S t) 1).toInt64
noncomputable def pv12 (S : SC) : Nat → Int32
  | 0 => -1
  | t + 1 => nI (ord S t)
theorem mod_up {S : SC} (hO : OkC S) {i : Nat} (hi : i < s_n S) : ∃ g u d, 0 < g ∧ 0 < u ∧ 0 < d ∧ u ≤ 5000 ∧ d ≤ 5500 ∧ s_vo S i = g * u ∧ s_ar S i + s_ch S i = g * d ∧ (aMod S i 0).toInt64 = lN u ∧ (aMod S i 1).toInt64 = lN d := by
  have hv := hO.vo hi
  have ha := hO.ar hi
  have hc := hO.ch hi
  have g1 : 0 < Nat.gcd (s_vo S i) (s_ar S i + s_ch S i) := Nat.gcd_pos_of_pos_left _ (by omega)
  have d1 := Nat.gcd_dvd_left (s_vo S i) (s_ar S i + s_ch S i)
  have d2 := Nat.gcd_dvd_right (s_vo S i) (s_ar S i + s_ch S i)
  have e1 : (aMod S i 0).toInt64 = lN (s_vo S i / Nat.gcd (s_vo S i) (s_ar S i + s_ch S i)) := by
    have := Nat.div_le_self (s_vo S i) (Nat.gcd (s_vo S i) (s_ar S i + s_ch S i))
    unfold aMod
    rw [if_pos rfl, nI_l (by omega)]
  have e2 : (aMod S i 1).toInt64 = lN ((s_ar S i + s_ch S i) / Nat.gcd (s_vo S i) (s_ar S i + s_ch S i)) := by
    have := Nat.div_le_self (s_ar S i + s_ch S i) (Nat.gcd (s_vo S i) (s_ar S i + s_ch S i))
    unfold aMod
    rw [if_neg (by decide), nI_l (by omega)]
  have l1 := Nat.div_le_self (s_vo S i) (Nat.gcd (s_vo S i) (s_ar S i + s_ch S i))
  have l2 := Nat.div_le_self (s_ar S i + s_ch S i) (Nat.gcd (s_vo S i) (s_ar S i + s_ch S i))
  refine ⟨Nat.gcd (s_vo S i) (s_ar S i + s_ch S i), s_vo S i / Nat.gcd (s_vo S i) (s_ar S i + s_ch S i), (s_ar S i + s_ch S i) / Nat.gcd (s_vo S i) (s_ar S i + s_ch S i), g1, Nat.div_pos (Nat.le_of_dvd (by omega) d1) g1, Nat.div_pos (Nat.le_of_dvd (by omega) d2) g1, by omega, by omega, (Nat.mul_div_cancel' d1).symm, (Nat.mul_div_cancel' d2).symm, e1, e2⟩
theorem mod_eq {S : SC} (hO : OkC S) {i : Nat} (hi : i < s_n S) : lg_cmp ((aMod S i 0).toInt64 * (nI (s_ar S i) + nI (s_ch S i)).toInt64) ((nI (s_vo S i)).toInt64 * (aMod S i 1).toInt64) = 0 := by
  obtain ⟨g, u, d, hg, hu, hd, bu, bd, e1, e2, e3, e4⟩ := mod_up hO hi
  have hv := hO.vo hi
  have ha := hO.ar hi
  have hc := hO.ch hi
  rw [e3, e4, nI_add, nI_l (by omega), nI_l (by omega), lN_mul, lN_mul, lg_cmp_eq, e1, e2]
  congr 1
  rw [Nat.mul_left_comm, Nat.mul_assoc]
theorem pv_ok {S : SC} (hO : OkC S) {t : Nat} (ht : t < s_n S) : ¬ (0 < lg_cmp (pv8 S t * (aMod S (ord S t) 1).toInt64) ((aMod S (ord S t) 0).toInt64 * pv10 S t)) ∧ (lg_cmp (pv8 S t * (aMod S (ord S t) 1).toInt64) ((aMod S (ord S t) 0).toInt64 * pv10 S t) = 0 → pv12 S t ≤ nI (ord S t)) := by
  have hn := hO.n
  obtain ⟨o1, o2⟩ := ord_ok hO ht
  obtain ⟨g, u, d, hg, hu, hd, bu, bd, e1, e2, e3, e4⟩ := mod_up hO o1
  rw [e3, e4]
  cases t with
  | zero =>
    have m1 : (-1 : Int64).toInt = -1 := by decide
    have z0 : ((-1 : Int64) * lN d).toInt = -(d : Int) := by
      rw [Jvm.Kit.i64_mul (by rw [m1, lN_toInt (by omega)]; omega) (by rw [m1, lN_toInt (by omega)]; omega), m1, lN_toInt (by omega)]
      omega
    have z1 : (lN u * 1).toInt = (u : Int) := by
      rw [show lN u * (1 : Int64) = lN (u * 1) from lN_mul u 1, lN_toInt (by omega)]
      omega
    have nz : ¬ lN u * 1 < (-1 : Int64) * lN d := by
      rw [Int64.lt_iff_toInt_lt, z0, z1]
      omega
    refine ⟨fun q => nz ((lg_cmp_gt _ _).mp q), fun q => ?_⟩
    have q' : ((-1 : Int64) * lN d).toInt = (lN u * 1).toInt := congrArg Int64.toInt ((lg_cmp_eq _ _).mp q)
    rw [z0, z1] at q'
    exact absurd q' (by omega)
  | succ t =>
    obtain ⟨p1, p2⟩ := ord_ok hO (t := t) (by omega)
    obtain ⟨g', u', d', hg', hu', hd', bu', bd', f1, f2, f3, f4⟩ := mod_up hO p1
    have hb : bef S (ord S t) (ord S (t + 1)) = true := (rk_iff hO p1 o1).mpr (by omega)
    rw [bef_iff, f1, f2, e1, e2] at hb
    have m1 : u' * d ≤ 5000 * 5500 := Nat.mul_le_mul bu' bd
    have m2 : u * d' ≤ 5000 * 5500 := Nat.mul_le_mul bu bd'
    show ¬ (0 < lg_cmp ((aMod S (ord S t) 0).toInt64 * lN d) (lN u * (aMod S (ord S t) 1).toInt64)) ∧ (lg_cmp ((aMod S (ord S t) 0).toInt64 * lN d) (lN u * (aMod S (ord S t) 1).toInt64) = 0 → nI (ord S t) ≤ nI (ord S (t + 1)))
    rw [f3, f4, lN_mul, lN_mul, lg_cmp_gt, lg_cmp_eq, lN_lt (by omega) (by omega), lN_eq (by omega) (by omega)]
    have c1 : g' * u' * (g * d) = (g * g') * (u' * d) := by
      rw [Nat.mul_mul_mul_comm, Nat.mul_comm g' g]
    have c2 : g * u * (g' * d') = (g * g') * (u * d') := Nat.mul_mul_mul_comm _ _ _ _
    rw [c1, c2] at hb
    have gp : 0 < g * g' := Nat.mul_pos hg hg'
    constructor
    · intro q
      have := Nat.mul_lt_mul_of_pos_left q gp
      omega
    · intro q
      rw [q] at hb
      rcases hb with hb | hb
      · omega
      · exact nI_le (by omega) (by omega)
theorem b36_loop {v : CV} {w : FV} {S : SC} (h : Cg v w S) : ∀ (d t fu : Nat), t + d = s_n S → d < fu →
    f_L_isSound_b36 v w (nI (s_n S)) fu (nI (bN S (ord S) t)) (nI (sm (fun i => pores S (ord S i)) t)) (nI (sm (fun i => fneed S (ord S i)) t)) (nI (sm (fun i => exc S (ord S i)) t)) (nI (sm (fun i => if src S (ord S i) = none then 1 else 0) t)) (nI (sm (fun i => pores S (ord S i)) t)) (pv8 S t) (pv10 S t) (pv12 S t) (nI t) = some 1 := by
  have hn := h.2.2.n
  intro d
  induction d with
  | zero =>
    intro t fu h1 h2
    obtain ⟨fu, rfl⟩ : ∃ z, fu = z + 1 := ⟨fu - 1, by omega⟩
    obtain rfl : t = s_n S := by omega
    have e1 := sm_ord h.2.2 (f := pores S)
    have e2 := sm_ord h.2.2 (f := fneed S)
    have e3 := sm_ord h.2.2 (f := exc S)
    have e4 := sm_ord h.2.2 (f := fun i => if src S i = none then 1 else 0)
    have e5 := pores_all h.2.2
    have e6 : cnt (fedB S none) (s_n S) = sm (fun i => if src S i = none then 1 else 0) (s_n S) := by
      rw [cnt_sm]
      refine sm_congr (fun i _ => ?_)
      unfold fedB
      by_cases c : src S i = none
      · rw [if_pos c, if_pos (decide_eq_true c)]
      · rw [if_neg c, if_neg (fun z => c (of_decide_eq_true z))]
    rw [f_L_isSound_b36]
    dsimp only
    rw [br_le _ _ (by omega) (by omega), if_pos (Nat.le_refl _), e1, e2, e3, e4, ← e5, br_T rfl, br_T rfl, cnt5 h, bd_s, e6, br_T rfl, cnt6 h, bd_s, br_T rfl, cnt7 h, bd_s, show exAll S = sm (exc S) (s_n S) from rfl, br_T rfl, cnt9 h, bd_s]
    have hx := exAll_small h.2.2
    have hx' : sm (exc S) (s_n S) ≤ 49152000 := hx
    have last : ∀ y : Int32, f_L_isSound_b713 v w (nI (s_n S)) y y = some 1 := by
      intro y
      unfold f_L_isSound_b713
      rw [br_T rfl, step_end h, bd_s, br_T rfl]
    by_cases c : exAll S = 0
    · rw [br_T (show nI (sm (exc S) (s_n S)) = 0 from by rw [show sm (exc S) (s_n S) = 0 from c]; rfl), if_pos c]
      exact last 1
    · rw [br_F (show ¬ nI (sm (exc S) (s_n S)) = 0 from nI_ne0 (Nat.pos_of_ne_zero c) (by omega)), if_neg c]
      exact last 0
  | succ d ih =>
    intro t fu h1 h2
    obtain ⟨fu, rfl⟩ : ∃ z, fu = z + 1 := ⟨fu - 1, by omega⟩
    have ht : t < s_n S := by omega
    obtain ⟨o1, o2⟩ := ord_ok h.2.2 ht
    have hm0 := modulus_ok h.1 h.2.2 o1 0
    have hm1 := modulus_ok h.1 h.2.2 o1 1
    obtain ⟨p1, p2⟩ := pv_ok h.2.2 ht
    have hbl : bN S (ord S) t < 2 ^ 12 ∧ ¬ (bN S (ord S) t).testBit (ord S t) = true := by
      constructor
      · have : ∀ k, k ≤ s_n S → bN S (ord S) k < 2 ^ 12 := by
          intro k
          induction k with
          | zero => intro _; simp [bN]
          | succ k ihk =>
            intro hk
            unfold bN
            have := (ord_ok h.2.2 (t := k) (by omega)).1
            exact Nat.or_lt_two_pow (ihk (by omega)) (Nat.pow_lt_pow_right (by decide) (by omega))
        exact this t (by omega)
      · intro q
        obtain ⟨i, hi, e⟩ := bN_bit t q
        have a := (ord_ok h.2.2 (t := i) (by omega)).2
        rw [e, o2] at a
        omega
    have go : ∀ x : Int32, x = nI (bN S (ord S) (t + 1)) → f_L_isSound_b183 (f_L_isSound_b36 v w (nI (s_n S)) fu) v w (nI (s_n S)) x (nI (sm (fun i => pores S (ord S i)) t)) (nI (sm (fun i => fneed S (ord S i)) t)) (nI (sm (fun i => exc S (ord S i)) t)) (nI (sm (fun i => if src S (ord S i) = none then 1 else 0) t)) (nI (sm (fun i => pores S (ord S i)) t)) (nI t) (nI (ord S t)) (aMod S (ord S t) 0).toInt64 (aMod S (ord S t) 1).toInt64 = some 1 := by
      intro x hx
      subst hx
      have q := b183_ok h o1 (kk := f_L_isSound_b36 v w (nI (s_n S)) fu) (x2 := nI (bN S (ord S) (t + 1))) (x15 := (aMod S (ord S t) 0).toInt64) (x17 := (aMod S (ord S t) 1).toInt64) (P := sm (fun i => pores S (ord S i)) t) (F := sm (fun i => fneed S (ord S i)) t) (E := sm (fun i => exc S (ord S i)) t) (H := sm (fun i => if src S (ord S i) = none then 1 else 0) t) (G := sm (fun i => pores S (ord S i)) t)
      rw [o2] at q
      rw [q]
      exact ih (t + 1) fu (by omega) (by omega)
    have e24 : (nI (bN S (ord S) t) ||| ((1 : Int32) <<< (nI (ord S t) &&& 31))) = nI (bN S (ord S) (t + 1)) := by
      have hp : 2 ^ ord S t ≤ 2 ^ 12 := Nat.pow_le_pow_right (by decide) (by omega)
      rw [show (1 : Int32) = nI 1 from rfl, pk_shlN _ (ord S t) (sh_31 _ (by omega)) (by omega), or_nI, Nat.one_mul]
      rfl
    rw [f_L_isSound_b36]
    dsimp only
    rw [br_le _ _ (by omega) (by omega), if_neg (by omega), step_at h ht, bd_s, br_F (nI_pos (by omega)), br_le _ _ (by omega) (by omega), if_neg (by omega), br_F (bit_no hbl.1 (by omega) hbl.2), sec4 h o1, bd_s, o2, br_T rfl, nm_s, hm0, bd_s, nm_s, hm1, bd_s, nm_s, sec1 h o1, bd_s, sec2 h o1, bd_s, sec0 h o1, bd_s, br_T (mod_eq h.2.2 o1), br_F p1]
    by_cases c : lg_cmp (pv8 S t * (aMod S (ord S t) 1).toInt64) ((aMod S (ord S t) 0).toInt64 * pv10 S t) = 0
    · rw [br_T c, br_T (p2 c)]
      exact go _ e24
    · rw [br_F c]
      exact go _ e24
theorem isSound_ok {v : CV} {w : FV} {S : SC} (h : Cg v w S) : f_L_isSound v w = some 1 := by
  have hn := h.2.2.n
  unfold f_L_isSound
  rw [cnt0 h, bd_s]
  exact b36_loop h (s_n S) 0 FU (by omega) (FU_big (by omega))
