/-! ===== 57: the law, as a program ===== -/
def S0 : SC := (0, 0, 50, 140, fun _ => 0, fun _ => 0, fun _ => 0, fun _ => 0, fun _ => 0, fun _ => 0)
def σ0 : ST := (S0, 0, fun _ => S0, fun _ => 0, 0)
theorem ok0 : OkT σ0 := by
  have n0 : ∀ i, ¬ i < 0 := fun i => Nat.not_lt_zero i
  exact ⟨⟨by decide, by decide, by decide, by decide, fun i hi => absurd hi (n0 i), fun j hj => absurd hj (n0 j), fun i j _ hj => absurd hj (n0 j)⟩, by decide, fun t ht => absurd ht (n0 t), by decide⟩
abbrev LR : Type := Option (Int32 × CV × FV × HV × TV × CV × FV)
/-- the law has said yes -/
def End (r : LR) : Prop := ∃ a b c d e f, r = some (1, a, b, c, d, e, f)
/-! the last calls: each answers its error, and nothing has changed -/
theorem no_join {σ : ST} (h : OkT σ) : spJoin σ 12 0 = (-2, σ) := by
  have hn := h.S.n
  unfold spJoin
  refine if_neg (fun z => ?_)
  have q : nI 12 < nI (s_n (t_S σ)) := z.1.2
  rw [nI_ltI (by omega) (by omega)] at q
  omega
theorem no_part {σ : ST} (h : OkT σ) : spPart σ 20 = (-2, σ) := by
  have hm := h.S.m
  unfold spPart
  refine if_neg (fun z => ?_)
  have q : nI 20 < nI (s_m (t_S σ)) := z.2
  rw [nI_ltI (by omega) (by omega)] at q
  omega
theorem no_metal {σ : ST} : spMetal σ 201 0 = (-3, σ) := by
  unfold spMetal
  exact if_neg (fun z => absurd z.1.2 (by decide))
theorem no_add {σ : ST} : spAdd σ 0 1 1 = (-3, σ) := by
  unfold spAdd
  exact if_neg (fun z => absurd z.1.1 (by decide))
theorem no_size {σ : ST} (h : OkT σ) : spSize σ 12 1 1 = (-2, σ) := by
  have hn := h.S.n
  unfold spSize
  refine if_neg (fun z => ?_)
  have q : nI 12 < nI (s_n (t_S σ)) := z.2
  rw [nI_ltI (by omega) (by omega)] at q
  omega
theorem no_chill {σ : ST} (h : OkT σ) : spChill σ 0 501 = (if s_n (t_S σ) = 0 then -2 else -3, σ) := by
  have hn := h.S.n
  unfold spChill
  by_cases c : s_n (t_S σ) = 0
  · rw [if_pos c, c]
    exact if_neg (fun z => absurd z.2 (by decide))
  · rw [if_neg c, if_pos (show inN (s_n (t_S σ)) 0 from inN_nI (i := 0) (by omega) (by omega))]
    exact if_neg (fun z => absurd z.2 (by decide))
theorem self_out {n : Nat} (hn : n < 2 ^ 31) : outN n (nI n) := Or.inr ((nI_leI hn hn).mpr (Nat.le_refl _))
theorem b384_ok {L : Nat} {xs : Nat → Int32} {vc vr : CV} {vf vd : FV} {vh : HV} {vt : TV} {σ : ST} (hR : RelC vc vf vh vt σ) (h : OkT σ) {y : Int32} : End (f_L_law_b384 L xs vc vf vh vt vr vd (dig_ (t_S σ)) y y) := by
  have hn := h.S.n
  have hm := h.S.m
  obtain ⟨v1, w1, g1, e1, h1⟩ := join_c hR h (x1 := 12) (x2 := 0)
  rw [no_join h] at e1 h1
  obtain ⟨v2, w2, g2, e2, h2⟩ := part_c h1 h (x1 := 20)
  rw [no_part h] at e2 h2
  obtain ⟨v3, w3, g3, e3, h3⟩ := metal_c h2 h (x1 := 201) (x2 := 0)
  rw [no_metal] at e3 h3
  have h3 : RelC v3 w3 g3 vt σ := h3
  have hc : Cg v3 w3 (t_S σ) := ⟨h3.c, h3.f, h.S⟩
  have c10 : f_X4_count v3 w3 10 = some (-3) := by
    rw [count_ok h3.c h3.f h.S]
    exact congrArg some (if_neg (fun z => absurd z.2 (by decide)))
  have am : f_X4_atStep v3 w3 (-1) = some (-3) := by
    rw [atStep_ok h3.c h3.f h.S]
    exact congrArg some (if_neg (by decide))
  unfold f_L_law_b384
  rw [br_T rfl, e1]
  show End (br ((-2 : Int32) = (-2)) _ _)
  rw [br_T rfl, e2]
  show End (br ((-2 : Int32) = (-2)) _ _)
  rw [br_T rfl, e3]
  show End (br ((-3 : Int32) = (-3)) _ _)
  rw [br_T rfl, c10, bd_s, br_T rfl, cnt0 hc, bd_s, section_no h3.c (self_out (by omega)), bd_s, br_T rfl, cnt1 hc, bd_s, joint_no h3.c (self_out (by omega)), bd_s, br_T rfl, am, bd_s, br_T rfl, end_no h3.c (Or.inl m1_lt), bd_s, br_T rfl, digest_ok h3.c h3.f h.S, bd_s, br_T ((lg_cmp_eq _ _).mpr rfl)]
  exact ⟨_, _, _, _, _, _, rfl⟩
/-! one turn -/
/-- what is asked of the way on -/
def On (vt : TV) (k : CV → FV → HV → TV → CV → FV → Int32 → LR) (t : Nat) : Prop := ∀ (v : CV) (w : FV) (g : HV) (vr : CV) (vd : FV) (σ : ST), RelC v w g vt σ → OkT σ → End (k v w g vt vr vd (nI t))
theorem b279_ok {L : Nat} {xs : Nat → Int32} {k : CV → FV → HV → TV → CV → FV → Int32 → LR} {vc vr : CV} {vf vd : FV} {vh : HV} {vt : TV} {σ : ST} {t : Nat} (hk : On vt k (t + 1)) (hR : RelC vc vf vh vt σ) (h : OkT σ) {x5 : Int32} : End (f_L_law_b279 L xs k vc vf vh vt vr vd (nI t) x5) := by
  have hn := h.S.n
  have hc : Cg vc vf (t_S σ) := ⟨hR.c, hR.f, h.S⟩
  unfold f_L_law_b279
  rw [isSound_ok hc, bd_s, br_F (show ¬ (1 : Int32) = 0 from by decide), ck_t (show ¬ (6 : Int32) = 0 from by decide)]
  by_cases c : (nI t - nI t / 6 * 6) = 5
  · rw [br_T c, cnt0 hc, bd_s, br_le0 _ (by omega)]
    by_cases d : s_n (t_S σ) = 0
    · rw [if_pos d, nm_s, nI_1]
      exact hk _ _ _ _ _ _ hR h
    · obtain ⟨i, hi, e⟩ := low_ok (x5 >>> (5 &&& 31)) (n := s_n (t_S σ)) (by omega) (by omega)
      obtain ⟨v', w', g', vr', vd', k', hs, e2, h2⟩ := isLeast_ok (vr := vr) (vd := vd) (⟨hR, h⟩ : Ls vt vc vf vh σ) hi
      rw [if_neg d, bd_s, e, bd_s, e2, bd6_s, br_F (show ¬ (1 : Int32) = 0 from by decide), nm_s, nI_1]
      exact hk _ _ _ _ _ _ h2.1 h2.2
  · rw [br_F c, nm_s, nI_1]
    exact hk _ _ _ _ _ _ hR h
theorem b245_ok {L : Nat} {xs : Nat → Int32} {k : CV → FV → HV → TV → CV → FV → Int32 → LR} {vc vr : CV} {vf vd : FV} {vh : HV} {vt : TV} {σ σ' : ST} {t : Nat} {r x5 : Int32} (hk : On vt k (t + 1)) (h : OkT σ) (hC : Chg σ (r, σ')) (hR : RelC vc vf vh vt σ') : End (f_L_law_b245 L xs k vc vf vh vt vr vd (nI t) x5 (dig_ (t_S σ)) r) := by
  have h' : OkT σ' := hC.ok h
  unfold f_L_law_b245
  by_cases c : r < 0
  · rw [br_T c]
    exact b279_ok hk hR h'
  · rw [br_F c]
    by_cases d : ((x5 >>> (27 &&& 31)) &&& 3) = 0
    · rw [br_T d]
      rcases hC with ⟨q, -⟩ | ⟨-, S', hS, e⟩
      · exact absurd q c
      · have e : σ' = put σ S' := e
        subst e
        obtain ⟨v2, w2, g2, e2, hR2⟩ := undo_c hR h'
        obtain ⟨j, k2, hs, e3, hj⟩ := undo_put (σ := σ) S'
        have hO2 := spUndo_ok h'
        rw [e3] at e2 hR2 hO2
        rw [e2]
        have dg : f_X4_digest v2 w2 = some (dig_ (t_S σ)) := digest_ok hR2.c hR2.f hO2.S
        show End (br (nI j < 0) _ _)
        rw [br_F (nI_pos hj), dg, bd_s, br_T ((lg_cmp_eq _ _).mpr rfl)]
        exact b279_ok hk hR2 hO2
    · rw [br_F d]
      exact b279_ok hk hR h'
theorem b196_loop {L : Nat} {xs : Nat → Int32} {vt : TV} : ∀ (d t fu : Nat), t + d = 18 → d < fu → On vt (f_L_law_b196 L xs fu) t := by
  intro d
  induction d with
  | zero =>
    intro t fu h1 h2 v w g vr vd σ hR h
    obtain ⟨fu, rfl⟩ : ∃ z, fu = z + 1 := ⟨fu - 1, by omega⟩
    obtain rfl : t = 18 := by omega
    have hn := h.S.n
    obtain ⟨v1, w1, g1, e1, r1⟩ := add_c hR h (x1 := 0) (x2 := 1) (x3 := 1) (Or.inr rfl)
    rw [no_add] at e1 r1
    obtain ⟨v2, w2, g2, e2, r2⟩ := size_c r1 h (x1 := 12) (x2 := 1) (x3 := 1)
    rw [no_size h] at e2 r2
    obtain ⟨v3, w3, g3, e3, r3⟩ := chill_c r2 h (x1 := 0) (x2 := 501)
    rw [no_chill h] at e3 r3
    have hc : Cg v3 w3 (t_S σ) := ⟨r3.c, r3.f, h.S⟩
    rw [f_L_law_b196]
    dsimp only
    rw [br_T (show (18 : Int32) ≤ nI 18 from by decide), digest_ok hR.c hR.f h.S, bd_s, e1]
    show End (br ((-3 : Int32) = (-3)) _ _)
    rw [br_T rfl, e2]
    show End (br ((-2 : Int32) = (-2)) _ _)
    rw [br_T rfl, e3]
    show End (bd (f_X4_count v3 w3 0) _)
    rw [cnt0 hc, bd_s, br_le0 _ (by omega)]
    by_cases c : s_n (t_S σ) = 0
    · rw [if_pos c, if_pos c]
      exact b384_ok r3 h
    · rw [if_neg c, if_neg c]
      exact b384_ok r3 h
  | succ d ih =>
    intro t fu h1 h2 v w g vr vd σ hR h
    obtain ⟨fu, rfl⟩ : ∃ z, fu = z + 1 := ⟨fu - 1, by omega⟩
    have hk : On vt (f_L_law_b196 L xs fu) (t + 1) := ih (t + 1) fu (by omega) (by omega)
    have hge : ¬ ((9 + nI t : Int32) < 0) := by
      rw [show (9 : Int32) = nI 9 from rfl, nI_add]
      exact nI_pos (by omega)
    obtain ⟨r, v1, w1, g1, σ', e, hR', hC⟩ := changes_ok hR h (cellV L xs (9 + nI t))
    have h' : OkT σ' := hC.ok h
    rw [f_L_law_b196]
    dsimp only
    rw [br_F (show ¬ (18 : Int32) ≤ nI t from by rw [show (18 : Int32) = nI 18 from rfl, nI_leI (by omega) (by omega)]; omega), ck_t hge, nm_s, digest_ok hR.c hR.f h.S, bd_s, e, bd4_s]
    by_cases c : 0 ≤ r
    · rw [br_T c]
      exact b245_ok hk h hC hR'
    · rw [br_F c]
      rcases hC with ⟨q1, q2⟩ | ⟨q1, -⟩
      · have q2 : σ' = σ := q2
        subst q2
        rw [digest_ok hR'.c hR'.f h.S, bd_s, br_T ((lg_cmp_eq _ _).mpr rfl)]
        exact b245_ok hk h (Or.inl ⟨q1, rfl⟩) hR'
      · exact absurd (Int32.not_lt.mp q1) c
/-! the casting that the law begins with -/
theorem nb_last {S : SC} (hO : OkC S) {vo ar ch fe j : Nat} : nb (sApp S vo ar ch fe) (s_n S) j = false := by
  cases e : nb (sApp S vo ar ch fe) (s_n S) j with
  | false => rfl
  | true =>
    obtain ⟨i, hi, q⟩ := nbk_iff.mp e
    have hi' : i < s_m S := hi
    obtain ⟨a, b, -⟩ := hO.jj hi'
    have q' : (s_ja S i = s_n S ∧ s_jb S i = j) ∨ (s_ja S i = j ∧ s_jb S i = s_n S) := q
    omega
theorem add_at {σ : ST} (h : OkT σ) {a b k : Nat} {x3 : Int32} (hk : s_n (t_S σ) = k) (hk2 : k < 12) (ha : a < 900) (hb : b < 600) : spAdd σ (1 + nI a) (1 + nI b) x3 = (nI k, put σ (sApp (t_S σ) (1 + a) (1 + b) 0 x3.toNatClampNeg)) := by
  have e1 : (1 : Int32) + nI a = nI (1 + a) := by rw [show (1 : Int32) = nI 1 from rfl, nI_add]
  have e2 : (1 : Int32) + nI b = nI (1 + b) := by rw [show (1 : Int32) = nI 1 from rfl, nI_add]
  unfold spAdd
  rw [e1, e2, if_pos ⟨⟨nI_le (a := 1) (by omega) (by omega), nI_le (b := 5000) (by omega) (by omega)⟩, ⟨nI_le (a := 1) (by omega) (by omega), nI_le (b := 5000) (by omega) (by omega)⟩⟩, if_pos (by omega), cl_ (by omega), cl_ (by omega), hk]
theorem join_at {σ : ST} (h : OkT σ) {a b k j fe : Nat} (hk : s_n (t_S σ) = k) (hk2 : k < 12) (hm : s_m (t_S σ) + 1 = k) (hj : j < k) : spJoin (put σ (sApp (t_S σ) a b 0 fe)) (nI k) (nI j) = (nI (k - 1), put (put σ (sApp (t_S σ) a b 0 fe)) (sLink (sApp (t_S σ) a b 0 fe) k j)) := by
  have nn : s_n (t_S (put σ (sApp (t_S σ) a b 0 fe))) = k + 1 := by rw [← hk]; rfl
  have mm : s_m (t_S (put σ (sApp (t_S σ) a b 0 fe))) = k - 1 := by
    show s_m (t_S σ) = k - 1
    omega
  unfold spJoin
  rw [nn, mm, if_pos ⟨inN_nI (by omega) (by omega), inN_nI (by omega) (by omega)⟩, cl_ (by omega), cl_ (by omega), if_pos, if_pos (by omega)]
  · rfl
  · refine ⟨by omega, ?_⟩
    rw [← hk]
    exact nb_last h.S
theorem b92_loop {L : Nat} {xs : Nat → Int32} {vt : TV} {M : Nat} (hM : M ≤ 7) : ∀ (d k fu : Nat) (v : CV) (w : FV) (g : HV) (vr : CV) (vd : FV) (σ : ST), k + d = M → d < fu → RelC v w g vt σ → OkT σ → s_n (t_S σ) = k → (k = 0 ∧ s_m (t_S σ) = 0 ∨ s_m (t_S σ) + 1 = k) → End (f_L_law_b92 L xs (nI M) fu v w g vt vr vd (nI k)) := by
  intro d
  induction d with
  | zero =>
    intro k fu v w g vr vd σ h1 h2 hR h hn hm
    obtain ⟨fu, rfl⟩ : ∃ z, fu = z + 1 := ⟨fu - 1, by omega⟩
    obtain rfl : k = M := by omega
    rw [f_L_law_b92]
    dsimp only
    rw [br_le _ _ (by omega) (by omega), if_pos (Nat.le_refl _)]
    exact b196_loop 18 0 FU rfl (FU_big (by omega)) v w g vr vd σ hR h
  | succ d ih =>
    intro k fu v w g vr vd σ h1 h2 hR h hn hm
    obtain ⟨fu, rfl⟩ : ∃ z, fu = z + 1 := ⟨fu - 1, by omega⟩
    have hge : ¬ ((1 + nI k : Int32) < 0) := by
      rw [show (1 : Int32) = nI 1 from rfl, nI_add]
      exact nI_pos (by omega)
    obtain ⟨a, ha, ea⟩ := low_ok (cellV L xs (1 + nI k)) (n := 900) (by omega) (by omega)
    obtain ⟨b, hb, eb⟩ := low_ok (cellV L xs (1 + nI k) >>> (10 &&& 31)) (n := 600) (by omega) (by omega)
    have ea : f_L_low (cellV L xs (1 + nI k)) 900 = some (nI a) := ea
    have eb : f_L_low (cellV L xs (1 + nI k) >>> (10 &&& 31)) 600 = some (nI b) := eb
    -- what follows the section, be it a feeder or not
    have go : ∀ z : Int32, (z = 0 ∨ z = 1) → End (bd4 (f_X4_addSection v w g (1 + nI a) (1 + nI b) z) fun r_9 v_10 w_11 g_12 =>
          br (r_9 = nI k)
            (br (nI k ≤ 0)
               (nm (nI k + 1 : Int32) fun t_16 =>
                f_L_law_b92 L xs (nI M) fu v_10 w_11 g_12 vt vr vd t_16)
               (bd (f_L_low (cellV L xs (1 + nI k) >>> (22 &&& 31)) (nI k)) fun r_17 =>
                bd4 (f_X4_join v_10 w_11 g_12 (nI k) r_17) fun r_19 v_20 w_21 g_22 =>
                br (r_19 = (nI k - 1))
                  (nm (nI k + 1 : Int32) fun t_25 =>
                   f_L_law_b92 L xs (nI M) fu v_20 w_21 g_22 vt vr vd t_25)
                  (some (0, v_20, w_21, g_22, vt, vr, vd))))
            (some (0, v_10, w_11, g_12, vt, vr, vd))) := by
      intro z hz
      have hfe : z.toNatClampNeg ≤ 1 := by rcases hz with rfl | rfl <;> decide
      obtain ⟨v1, w1, g1, e1, r1⟩ := add_c hR h (x1 := 1 + nI a) (x2 := 1 + nI b) hz
      rw [add_at h hn (by omega) ha hb] at e1 r1
      have hO1 : OkC (sApp (t_S σ) (1 + a) (1 + b) 0 z.toNatClampNeg) := sApp_ok h.S (by omega) (by omega) (by omega) (by omega) hfe
      have hT1 : OkT (put σ (sApp (t_S σ) (1 + a) (1 + b) 0 z.toNatClampNeg)) := put_ok h hO1
      rw [e1, bd4_s, br_T rfl, br_le0 _ (by omega)]
      by_cases c : k = 0
      · rw [if_pos c, nm_s, nI_1]
        refine ih (k + 1) fu v1 w1 g1 vr vd _ (by omega) (by omega) r1 hT1 (by rw [← hn]; rfl) (Or.inr ?_)
        show s_m (t_S σ) + 1 = k + 1
        omega
      · obtain ⟨j, hj, ej⟩ := low_ok (cellV L xs (1 + nI k) >>> (22 &&& 31)) (n := k) (by omega) (by omega)
        obtain ⟨v2, w2, g2, e2, r2⟩ := join_c r1 hT1 (x1 := nI k) (x2 := nI j)
        have hmk : s_m (t_S σ) + 1 = k := by omega
        rw [join_at h hn (by omega) hmk hj] at e2 r2
        have hO2 : OkC (sLink (sApp (t_S σ) (1 + a) (1 + b) 0 z.toNatClampNeg) k j) := by
          refine sLink_ok hO1 (show s_m (t_S σ) < 20 from by omega) (show k < s_n (t_S σ) + 1 from by omega) (show j < s_n (t_S σ) + 1 from by omega) (by omega) ?_
          rw [← hn]
          exact nb_last h.S
        rw [if_neg c, ej, bd_s, e2, bd4_s, br_T (pred_nI (by omega)).symm, nm_s, nI_1]
        refine ih (k + 1) fu v2 w2 g2 vr vd _ (by omega) (by omega) r2 (put_ok hT1 hO2) ?_ (Or.inr ?_)
        · show s_n (t_S σ) + 1 = k + 1
          omega
        · show s_m (t_S σ) + 1 + 1 = k + 1
          omega
    rw [f_L_law_b92]
    dsimp only
    rw [br_le _ _ (by omega) (by omega), if_neg (by omega), ck_t hge, nm_s, ea, bd_s, eb, bd_s]
    by_cases q : ((cellV L xs (1 + nI k) >>> (20 &&& 31)) &&& 3) = 0
    · rw [br_T q]
      exact go 1 (Or.inr rfl)
    · rw [br_F q]
      exact go 0 (Or.inl rfl)
/-! the start -/
theorem load0 : spLoad σ0 = (-4, σ0) := by
  have e : rdT (t_c σ0) (t_L σ0) (t_S σ0) = .inl 0 := rfl
  unfold spLoad
  rw [e]
theorem best0 : aBF S0 = -1 := by
  obtain ⟨o, h, e⟩ := bo_spec (S := S0) (by decide) 15 1 rfl (Nat.le_refl _) (fun y j a b c => by omega)
  have e1 : aBF S0 = bo S0 15 1 := if_pos ⟨by decide, by decide⟩
  rw [e1, e]
  cases o with
  | none => rfl
  | some p =>
    obtain ⟨z, i⟩ := p
    exact absurd h.2.1 (Nat.not_lt_zero _)
theorem law_ok {L : Nat} {xs : Nat → Int32} {vc vr : CV} {vf vd : FV} {vh : HV} {vt : TV} (hR : RelC vc vf vh vt σ0) : End (f_L_law L xs vc vf vh vt vr vd) := by
  have h := ok0
  obtain ⟨v1, w1, g1, e1, r1⟩ := undo_c hR h
  have u0 : spUndo σ0 = (-4, σ0) := if_pos rfl
  rw [u0] at e1 r1
  obtain ⟨⟨v2, w2, g2, u2, vr2, e2, r2⟩, -⟩ := load_c (vr := vr) r1 h
  rw [load0] at e2 r2
  have hc : Cg v2 w2 S0 := ⟨r2.c, r2.f, h.S⟩
  obtain ⟨vr3, vd3, e3⟩ := bestFeeder_ok (vr := vr2) (vd := vd) r2.c h.S
  have e3 : f_X4_bestFeeder v2 vr2 vd = some (-1, vr3, vd3) := by rw [← best0]; exact e3
  have e4 : f_X4_leastFeeder v2 vr3 vd3 0 = some (-2, vr3, vd3) := leastFeeder_no r2.c (Or.inr (by decide))
  have e5 : f_X4_atStep v2 w2 0 = some (-1) := by
    rw [atStep_ok r2.c r2.f h.S]
    rfl
  have c9 : f_X4_count v2 w2 9 = some 1 := cnt9 hc
  have c8 : f_X4_count v2 w2 8 = some 0 := cnt8 hc
  obtain ⟨k, hk, ek⟩ := low_ok (cellV L xs 0) (n := 6) (by omega) (by omega)
  have ek : f_L_low (cellV L xs 0) 6 = some (nI k) := ek
  unfold f_L_law
  rw [ck_t (show ¬ (0 : Int32) < 0 from by decide), nm_s, e1]
  show End (br ((-4 : Int32) = (-4)) _ _)
  rw [br_T rfl, e2]
  show End (br ((-4 : Int32) = (-4)) _ _)
  rw [br_T rfl, c9, bd_s, br_T rfl, c8, bd_s, br_T rfl, e3, bd3_s, br_T rfl, e5, bd_s, br_T rfl, e4, bd3_s, br_T rfl, ek, bd_s, nm_s, show (2 : Int32) + nI k = nI (2 + k) from by rw [show (2 : Int32) = nI 2 from rfl, nI_add]]
  exact b92_loop (M := 2 + k) (by omega) (2 + k) 0 FU v2 w2 g2 vr3 vd3 σ0 (by omega) (FU_big (by omega)) r2 h rfl (Or.inl ⟨rfl, rfl⟩)
