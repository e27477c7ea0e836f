/-! ===== 46: sections, joints, items, the text; the program's reader ===== -/
theorem in_below {n : Nat} (hn : n < 2 ^ 31) (x : Int32) : (0 ≤ x ∧ x ≤ nI n - 1) ↔ inN n x := by
  cases n with
  | zero =>
    constructor
    · intro q
      have h1 := Int32.le_iff_toInt_le.mp q.1
      have h2 := Int32.le_iff_toInt_le.mp q.2
      have h3 : (nI 0 - 1).toInt = -1 := by decide
      have h4 : (0 : Int32).toInt = 0 := by decide
      omega
    · intro q; exact absurd q.2 (Int32.not_lt.mpr q.1)
  | succ n =>
    rw [nI_pred]
    constructor
    · intro q
      obtain ⟨k, hk, rfl⟩ := dig (by omega) q
      exact inN_nI hn (by omega)
    · intro q
      rcases in_out x hn with ⟨k, hk, rfl⟩ | z
      · exact ⟨nI_pos' (by omega), nI_le (by omega) (by omega)⟩
      · exact absurd q (inN_out z)
theorem nmb_skp {c : AF} {L p : Nat} {lo hi : Int32} (hp : p ≤ L) : nmb c L lo hi (skp c L p) = nmb c L lo hi p := by
  unfold nmb
  rw [skp_idem hp]
def sectT (c : AF) (L fe p : Nat) (S : SC) : Nat ⊕ (Nat × SC) :=
  match nmb c L 1 5000 p with
  | none => .inl (skp c L p)
  | some (a, p1) => match sgn c L 47 p1 with
    | none => .inl (skp c L p1)
    | some p2 => match nmb c L 1 5000 p2 with
      | none => .inl (skp c L p2)
      | some (b, p3) => if cd c L (skp c L p3) = 45 then (match nmb c L 0 500 (skp c L p3 + 1) with
          | none => .inl (skp c L (skp c L p3 + 1))
          | some (d, p4) => .inr (p4, sApp S a.toNatClampNeg b.toNatClampNeg d.toNatClampNeg fe))
        else .inr (skp c L p3, sApp S a.toNatClampNeg b.toNatClampNeg 0 fe)
def jntT (c : AF) (L p : Nat) (S : SC) : Nat ⊕ (Nat × SC) :=
  match nmb c L 0 (nI (s_n S) - 1) p with
  | none => .inl (skp c L p)
  | some (a, p1) => match sgn c L 61 p1 with
    | none => .inl (skp c L p1)
    | some p2 => match nmb c L 0 (nI (s_n S) - 1) p2 with
      | none => .inl (skp c L p2)
      | some (b, p3) => if a.toNatClampNeg ≠ b.toNatClampNeg ∧ nb S a.toNatClampNeg b.toNatClampNeg = false then .inr (p3, sLink S a.toNatClampNeg b.toNatClampNeg) else .inl (skp c L p2)
def itemT (c : AF) (L p : Nat) (S : SC) : Nat ⊕ (Nat × SC) :=
  if cd c L (skp c L p) = 99 ∨ cd c L (skp c L p) = 102 then (if s_n S < 12 then sectT c L (if cd c L (skp c L p) = 102 then 1 else 0) (skp c L p + 1) S else .inl (skp c L p))
  else if isDg (cd c L (skp c L p)) then (if s_m S < 20 then jntT c L (skp c L p) S else .inl (skp c L p)) else .inl (skp c L p)
def textT (c : AF) (L : Nat) : Nat → Nat → SC → Int32 → Nat ⊕ (SC × Int32)
  | 0, p, _, _ => .inl p
  | d + 1, p, S, it => match itemT c L p S with
    | .inl s => .inl s
    | .inr (p', S') => if cd c L (skp c L p') = -1 then .inr (S', it + 1) else if cd c L (skp c L p') = 59 then textT c L d (skp c L p' + 1) S' (it + 1) else .inl (skp c L p')
/-! what they keep -/
def Fits (c : AF) (L p : Nat) (o : Nat ⊕ (Nat × SC)) : Prop := match o with
  | .inl s => s ≤ L ∧ skp c L s = s
  | .inr (p', S') => OkC S' ∧ p < p' ∧ p' ≤ L
theorem sectT_ok {c : AF} {L fe p : Nat} {S : SC} (hO : OkC S) (hn : s_n S < 12) (hf : fe ≤ 1) (hp : p ≤ L) : Fits c L p (sectT c L fe p S) := by
  unfold sectT
  cases e1 : nmb c L 1 5000 p with
  | none => exact ⟨skp_to hp, skp_idem hp⟩
  | some w =>
    obtain ⟨a, p1⟩ := w
    obtain ⟨a1, a2, a3, a4⟩ := nmb_in hp e1
    dsimp only
    cases e2 : sgn c L 47 p1 with
    | none => exact ⟨skp_to a2, skp_idem a2⟩
    | some p2 =>
      obtain ⟨b1, b2⟩ := sgn_in a2 (by decide) e2
      dsimp only
      cases e3 : nmb c L 1 5000 p2 with
      | none => exact ⟨skp_to b2, skp_idem b2⟩
      | some w =>
        obtain ⟨b, p3⟩ := w
        obtain ⟨c1, c2, c3, c4⟩ := nmb_in b2 e3
        have h3 := skp_ge (c := c) c2
        have h4 := skp_to (c := c) c2
        obtain ⟨x, hx, rfl⟩ := sz_of (x := a) ⟨a3, a4⟩
        obtain ⟨y, hy, rfl⟩ := sz_of (x := b) ⟨c3, c4⟩
        dsimp only
        rw [cl_ (n := x) (by omega), cl_ (n := y) (by omega)]
        by_cases q : cd c L (skp c L p3) = 45
        · have h5 := cd_lt (by decide) q
          rw [if_pos q]
          cases e4 : nmb c L 0 500 (skp c L p3 + 1) with
          | none => exact ⟨skp_to (by omega), skp_idem (by omega)⟩
          | some w =>
            obtain ⟨d, p4⟩ := w
            obtain ⟨d1, d2, d3, d4⟩ := nmb_in (by omega) e4
            obtain ⟨z, hz, rfl⟩ := dig (b := 500) (by omega) ⟨d3, d4⟩
            dsimp only
            rw [cl_ (n := z) (by omega)]
            exact ⟨sApp_ok hO hn hx hy hz hf, by omega, d2⟩
        · rw [if_neg q]
          exact ⟨sApp_ok hO hn hx hy (by omega) hf, by omega, h4⟩
theorem jntT_ok {c : AF} {L p : Nat} {S : SC} (hO : OkC S) (hm : s_m S < 20) (hp : p ≤ L) : Fits c L p (jntT c L p S) := by
  have hn := hO.n
  unfold jntT
  cases e1 : nmb c L 0 (nI (s_n S) - 1) p with
  | none => exact ⟨skp_to hp, skp_idem hp⟩
  | some w =>
    obtain ⟨a, p1⟩ := w
    obtain ⟨a1, a2, a3⟩ := nmb_in hp e1
    dsimp only
    cases e2 : sgn c L 61 p1 with
    | none => exact ⟨skp_to a2, skp_idem a2⟩
    | some p2 =>
      obtain ⟨b1, b2⟩ := sgn_in a2 (by decide) e2
      dsimp only
      cases e3 : nmb c L 0 (nI (s_n S) - 1) p2 with
      | none => exact ⟨skp_to b2, skp_idem b2⟩
      | some w =>
        obtain ⟨b, p3⟩ := w
        obtain ⟨c1, c2, c3⟩ := nmb_in b2 e3
        have q1 := (in_below (by omega) a).mp a3
        have q2 := (in_below (by omega) b).mp c3
        rcases inN_cases a (n := s_n S) (by omega) with ⟨i, hi, rfl, -⟩ | ⟨q, q'⟩
        · rcases inN_cases b (n := s_n S) (by omega) with ⟨j, hj, rfl, -⟩ | ⟨q, q'⟩
          · dsimp only
            rw [cl_ (n := i) (by omega), cl_ (n := j) (by omega)]
            by_cases w : i ≠ j ∧ nb S i j = false
            · rw [if_pos w]
              exact ⟨sLink_ok hO hm hi hj w.1 w.2, by omega, c2⟩
            · rw [if_neg w]
              exact ⟨skp_to b2, skp_idem b2⟩
          · exact absurd q2 q'
        · exact absurd q1 q'
theorem itemT_ok {c : AF} {L p : Nat} {S : SC} (hO : OkC S) (hp : p ≤ L) : Fits c L p (itemT c L p S) := by
  have h1 := skp_ge (c := c) hp
  have h2 := skp_to (c := c) hp
  have up : ∀ {o : Nat ⊕ (Nat × SC)} {q : Nat}, p ≤ q → Fits c L q o → Fits c L p o := by
    intro o q h h'
    cases o with
    | inl s => exact h'
    | inr w => exact ⟨h'.1, Nat.lt_of_le_of_lt h h'.2.1, h'.2.2⟩
  unfold itemT
  by_cases c1 : cd c L (skp c L p) = 99 ∨ cd c L (skp c L p) = 102
  · have h5 : skp c L p < L := by
      rcases c1 with q | q
      · exact cd_lt (by decide) q
      · exact cd_lt (by decide) q
    rw [if_pos c1]
    by_cases c2 : s_n S < 12
    · rw [if_pos c2]
      exact up (by omega) (sectT_ok hO c2 (by split <;> omega) (by omega))
    · rw [if_neg c2]; exact ⟨h2, skp_idem hp⟩
  · rw [if_neg c1]
    by_cases c3 : isDg (cd c L (skp c L p))
    · rw [if_pos c3]
      by_cases c2 : s_m S < 20
      · rw [if_pos c2]; exact up h1 (jntT_ok hO c2 h2)
      · rw [if_neg c2]; exact ⟨h2, skp_idem hp⟩
    · rw [if_neg c3]; exact ⟨h2, skp_idem hp⟩
/-! the program's reader -/
/-- what a step of the program leaves -/
def CT (co : AF) (L : Nat) (it : Int32) (u : TV) (v : CV) (o : Nat ⊕ (Nat × SC)) : Prop := match o with
  | .inl s => u.1 = co ∧ u.2.1 = nI L ∧ T_fa u = nI s
  | .inr (p, S') => u = (co, nI L, it, nI p, -1) ∧ RepC v S'
theorem sect_ok {co c : AF} {L p fe : Nat} {it : Int32} {v : CV} {S : SC} (h : ∀ i, i < L → co i = c i) (hL : L ≤ 120) (hp : p ≤ L) (hR : RepC v S) (hO : OkC S) (hn : s_n S < 12) (hf : fe ≤ 1) : ∃ u' v', f_X3_readSection (co, nI L, it, nI p, -1) v (nI fe) = some (u', v') ∧ CT co L it u' v' (sectT c L fe p S) := by
  unfold f_X3_readSection sectT f_X3_readSection_b65
  rcases number_ok (it := it) (lo := 1) (hi := 5000) h hL hp with ⟨a, p1, e1, f1⟩ | ⟨e1, y, pl, f1, hpl⟩
  · obtain ⟨a1, a2, a3, a4⟩ := nmb_in hp e1
    rw [f1, e1, bd2_s]
    dsimp only
    rcases expect_ok (it := it) (x := 47) h hL a2 with ⟨p2, e2, f2⟩ | ⟨e2, f2⟩
    · obtain ⟨b1, b2⟩ := sgn_in a2 (by decide) e2
      rw [f2, e2, bd_s]
      dsimp only
      rcases number_ok (it := it) (lo := 1) (hi := 5000) h hL b2 with ⟨b, p3, e3, f3⟩ | ⟨e3, y, pl, f3, hpl⟩
      · obtain ⟨c1, c2, c3, c4⟩ := nmb_in b2 e3
        obtain ⟨x, hx, rfl⟩ := sz_of (x := a) ⟨a3, a4⟩
        obtain ⟨y, hy, rfl⟩ := sz_of (x := b) ⟨c3, c4⟩
        rw [f3, e3, bd2_s]
        dsimp only
        rw [br_T (show T_fa (co, nI L, it, nI p3, -1) = -1 from rfl), nxt h hL c2, bd2_s, cl_ (n := x) (by omega), cl_ (n := y) (by omega)]
        have h4 := skp_to (c := c) c2
        by_cases q : cd c L (skp c L p3) = 45
        · have h5 := cd_lt (by decide) q
          rw [br_T q, if_pos q, nm_s]
          dsimp only [T_co, T_le, T_it, T_pl, T_fa]
          rw [nI_1]
          rcases number_ok (it := it) (lo := 0) (hi := 500) (p := skp c L p3 + 1) h hL (by omega) with ⟨d, p4, e4, f4⟩ | ⟨e4, y, pl, f4, hpl⟩
          · obtain ⟨d1, d2, d3, d4⟩ := nmb_in (by omega) e4
            obtain ⟨z, hz, rfl⟩ := dig (b := 500) (by omega) ⟨d3, d4⟩
            obtain ⟨v', e5, hv⟩ := append_ok hR hO hn (vo := x) (ar := y) (ch := z) hf
            rw [f4, e4, bd2_s]
            dsimp only
            rw [br_T rfl, e5, bd2_s, cl_ (n := z) (by omega)]
            exact ⟨_, v', rfl, rfl, hv⟩
          · rw [f4, e4, bd2_s]
            dsimp only
            rw [br_F (m1_ne _ (by have := skp_to (c := c) (show skp c L p3 + 1 ≤ L from by omega); omega))]
            exact ⟨_, v, rfl, rfl, rfl, rfl⟩
        · obtain ⟨v', e5, hv⟩ := append_ok hR hO hn (vo := x) (ar := y) (ch := 0) hf
          rw [br_F q, if_neg q, br_T (show T_fa (co, nI L, it, nI (skp c L p3), -1) = -1 from rfl), show (0 : Int32) = nI 0 from rfl, e5, bd2_s]
          exact ⟨_, v', rfl, rfl, hv⟩
      · have hs := skp_to (c := c) b2
        have nf : ¬ T_fa (co, nI L, it, nI pl, nI (skp c L p2)) = -1 := m1_ne _ (by omega)
        rw [f3, e3, bd2_s, br_F nf, br_F nf]
        exact ⟨_, v, rfl, rfl, rfl, rfl⟩
    · have hs := skp_to (c := c) a2
      have nf : ¬ T_fa (co, nI L, it, nI (skp c L p1), nI (skp c L p1)) = -1 := m1_ne _ (by omega)
      rw [f2, e2, bd_s, number_f nf, bd2_s, br_F nf, br_F nf]
      exact ⟨_, v, rfl, rfl, rfl, rfl⟩
  · have hs := skp_to (c := c) hp
    have nf : ¬ T_fa (co, nI L, it, nI pl, nI (skp c L p)) = -1 := m1_ne _ (by omega)
    rw [f1, e1, bd2_s, expect_f nf, bd_s, number_f nf, bd2_s, br_F nf, br_F nf]
    exact ⟨_, v, rfl, rfl, rfl, rfl⟩
theorem jnt_ok {co c : AF} {L p : Nat} {it : Int32} {v : CV} {S : SC} (h : ∀ i, i < L → co i = c i) (hL : L ≤ 120) (hp : p ≤ L) (hR : RepC v S) (hO : OkC S) (hm : s_m S < 20) : ∃ u' v', f_X3_readJoint (co, nI L, it, nI p, -1) v = some (u', v') ∧ CT co L it u' v' (jntT c L p S) := by
  have hn := hO.n
  unfold f_X3_readJoint jntT
  rw [hR.se]
  rcases number_ok (it := it) (lo := 0) (hi := nI (s_n S) - 1) h hL hp with ⟨a, p1, e1, f1⟩ | ⟨e1, y, pl, f1, hpl⟩
  · obtain ⟨a1, a2, a3⟩ := nmb_in hp e1
    rw [f1, e1, bd2_s]
    dsimp only
    rcases expect_ok (it := it) (x := 61) h hL a2 with ⟨p2, e2, f2⟩ | ⟨e2, f2⟩
    · obtain ⟨b1, b2⟩ := sgn_in a2 (by decide) e2
      have hs := skp_to (c := c) b2
      rw [f2, e2, bd_s, nxt h hL b2, bd2_s]
      dsimp only
      rcases number_ok (it := it) (lo := 0) (hi := nI (s_n S) - 1) h hL hs with ⟨b, p3, e3, f3⟩ | ⟨e3, y, pl, f3, hpl⟩
      · obtain ⟨c1, c2, c3⟩ := nmb_in hs e3
        rw [nmb_skp b2] at e3
        rw [f3, e3, bd2_s]
        dsimp only
        have q1 := (in_below (by omega) a).mp a3
        have q2 := (in_below (by omega) b).mp c3
        rcases inN_cases a (n := s_n S) (by omega) with ⟨i, hi, rfl, -⟩ | ⟨q, q'⟩
        · rcases inN_cases b (n := s_n S) (by omega) with ⟨j, hj, rfl, -⟩ | ⟨q, q'⟩
          · rw [br_T (show T_fa (co, nI L, it, nI p3, -1) = -1 from rfl), canLink_ok hR hO hi hj, bd_s, b1_ne, cl_ (n := i) (by omega), cl_ (n := j) (by omega)]
            by_cases w : i ≠ j ∧ nb S i j = false
            · obtain ⟨v', e5, hv⟩ := link_ok hR hO hm (a := i) (b := j)
              rw [if_pos w, if_pos w, e5, bd2_s]
              exact ⟨_, v', rfl, rfl, hv⟩
            · rw [if_neg w, if_neg w]
              exact ⟨_, v, rfl, rfl, rfl, rfl⟩
          · exact absurd q2 q'
        · exact absurd q1 q'
      · rw [nmb_skp b2] at e3
        have nf : ¬ T_fa (co, nI L, it, nI pl, nI (skp c L (skp c L p2))) = -1 := m1_ne _ (by rw [skp_idem b2]; omega)
        rw [f3, e3, bd2_s, br_F nf]
        exact ⟨_, v, rfl, rfl, rfl, by rw [skp_idem b2]; rfl⟩
    · have hs := skp_to (c := c) a2
      have nf : ¬ T_fa (co, nI L, it, nI (skp c L (skp c L p1)), nI (skp c L p1)) = -1 := m1_ne _ (by omega)
      rw [f2, e2, bd_s, nxt h hL hs, bd2_s, number_f nf, bd2_s, br_F nf]
      exact ⟨_, v, rfl, rfl, rfl, rfl⟩
  · have hs := skp_to (c := c) hp
    have nf0 : ¬ T_fa (co, nI L, it, nI pl, nI (skp c L p)) = -1 := m1_ne _ (by omega)
    have nf : ¬ T_fa (co, nI L, it, nI (skp c L pl), nI (skp c L p)) = -1 := m1_ne _ (by omega)
    rw [f1, e1, bd2_s, expect_f nf0, bd_s, nxt h hL hpl, bd2_s, number_f nf, bd2_s, br_F nf]
    exact ⟨_, v, rfl, rfl, rfl, rfl⟩
theorem b113_ok {co : AF} {L : Nat} {it : Int32} {u : TV} {v : CV} {o : Nat ⊕ (Nat × SC)} (hL : L ≤ 120) (hF : ∀ s, o = .inl s → s ≤ L) (hC : CT co L it u v o) : ∃ u', f_X3_readItem_b113 u v = some (u', v) ∧ CT co L (it + 1) u' v o := by
  unfold f_X3_readItem_b113
  cases o with
  | inl s =>
    have hs := hF s rfl
    rw [br_F (by rw [hC.2.2]; exact m1_ne _ (by omega))]
    exact ⟨u, rfl, hC⟩
  | inr w =>
    obtain ⟨p, S'⟩ := w
    obtain ⟨rfl, hv⟩ := hC
    rw [br_T (show T_fa (co, nI L, it, nI p, -1) = -1 from rfl), nm_s]
    exact ⟨_, rfl, rfl, hv⟩
theorem fits_l {c : AF} {L p : Nat} {o : Nat ⊕ (Nat × SC)} (h : Fits c L p o) : ∀ s, o = .inl s → s ≤ L := by
  intro s e
  rw [e] at h
  exact h.1
theorem item_ok {co c : AF} {L p : Nat} {it : Int32} {v : CV} {S : SC} (h : ∀ i, i < L → co i = c i) (hL : L ≤ 120) (hp : p ≤ L) (hR : RepC v S) (hO : OkC S) : ∃ u' v', f_X3_readItem (co, nI L, it, nI p, -1) v = some (u', v') ∧ CT co L (it + 1) u' v' (itemT c L p S) := by
  have h2 := skp_to (c := c) hp
  have flt : ∃ u' v', f_X3_readItem_b113 (co, nI L, it, nI (skp c L p), nI (skp c L p)) v = some (u', v') ∧ CT co L (it + 1) u' v' (.inl (skp c L p)) := by
    obtain ⟨u', e, q⟩ := b113_ok (co := co) (it := it) (u := (co, nI L, it, nI (skp c L p), nI (skp c L p))) (v := v) (o := .inl (skp c L p)) hL (fun s e => by cases e; exact h2) ⟨rfl, rfl, rfl⟩
    exact ⟨u', v, e, q⟩
  have bad : ∀ x2 x3, f_X3_readItem_b57 (co, nI L, it, nI (skp c L p), -1) v x2 x3 0 = f_X3_readItem_b113 (co, nI L, it, nI (skp c L p), nI (skp c L p)) v := fun x2 x3 => by
    unfold f_X3_readItem_b57
    rw [br_T rfl]
    rfl
  unfold f_X3_readItem itemT f_X3_readItem_b17
  rw [nxt h hL hp, bd2_s]
  by_cases c1 : cd c L (skp c L p) = 99 ∨ cd c L (skp c L p) = 102
  · have h5 : skp c L p < L := by
      rcases c1 with q | q
      · exact cd_lt (by decide) q
      · exact cd_lt (by decide) q
    have nd_ : ¬ (48 ≤ cd c L (skp c L p) ∧ cd c L (skp c L p) ≤ 57) := by
      rcases c1 with q | q <;> rw [q] <;> decide
    have e0 : (br (cd c L (skp c L p) = 99) (f_X3_readItem_b22 (co, nI L, it, nI (skp c L p), -1) v (cd c L (skp c L p)) 1) (br (cd c L (skp c L p) = 102) (f_X3_readItem_b22 (co, nI L, it, nI (skp c L p), -1) v (cd c L (skp c L p)) 1) (f_X3_readItem_b22 (co, nI L, it, nI (skp c L p), -1) v (cd c L (skp c L p)) 0))) = f_X3_readItem_b22 (co, nI L, it, nI (skp c L p), -1) v (cd c L (skp c L p)) 1 := by
      by_cases q : cd c L (skp c L p) = 99
      · rw [br_T q]
      · rw [br_F q, br_T (c1.resolve_left q)]
    rw [e0, if_pos c1]
    unfold f_X3_readItem_b22 f_X3_readItem_b40 f_X3_readItem_b56 f_X3_readItem_b52
    have dd : f_X3_isDigit (cd c L (skp c L p)) = some 0 := by
      unfold f_X3_isDigit
      by_cases k1 : cd c L (skp c L p) < 48
      · rw [br_T k1]
      · rw [br_F k1, br_T (Int32.not_le.mp (fun k2 => nd_ ⟨Int32.not_lt.mp k1, k2⟩))]
    rw [dd, bd_s, br_F (show ¬ (1 : Int32) = 0 by decide), roomS_ok hR hO, bd_s, b1_ne, br_T rfl]
    by_cases c2 : s_n S < 12
    · rw [if_pos c2, if_pos c2]
      have fits := sectT_ok (c := c) (L := L) (fe := if cd c L (skp c L p) = 102 then 1 else 0) (p := skp c L p + 1) hO c2 (by split <;> omega) (by omega)
      obtain ⟨u', v', e, q⟩ := sect_ok (c := c) (it := it) (fe := if cd c L (skp c L p) = 102 then 1 else 0) (p := skp c L p + 1) h hL (by omega) hR hO c2 (by split <;> omega)
      obtain ⟨u2, e2, q2⟩ := b113_ok hL (fits_l fits) q
      refine ⟨u2, v', ?_, q2⟩
      unfold f_X3_readItem_b57
      dsimp only [T_co, T_le, T_it, T_pl, T_fa]
      rw [br_F (show ¬ (1 : Int32) = 0 by decide), br_F (show ¬ (1 : Int32) = 0 by decide), nm_s, nI_1]
      by_cases w : cd c L (skp c L p) = 102
      · rw [if_pos w] at e
        have e' : f_X3_readSection (co, nI L, it, nI (skp c L p + 1), -1) v 1 = some (u', v') := e
        rw [br_T w, e', bd2_s, e2]
      · rw [if_neg w] at e
        have e' : f_X3_readSection (co, nI L, it, nI (skp c L p + 1), -1) v 0 = some (u', v') := e
        rw [br_F w, e', bd2_s, e2]
    · rw [if_neg c2, if_neg c2, bad]
      exact flt
  · rw [if_neg c1, br_F (fun z => c1 (Or.inl z)), br_F (fun z => c1 (Or.inr z))]
    unfold f_X3_readItem_b22 f_X3_readItem_b40 f_X3_readItem_b56 f_X3_readItem_b52
    have n0 : ∀ (x : Int32) (r1 : Int32) (k1 k2 : Option (TV × CV)), br ((0 : Int32) = 0) k1 k2 = k1 := fun _ _ _ _ => br_T rfl
    rw [show (bd (f_X3_isDigit (cd c L (skp c L p))) fun r_1 => br ((0 : Int32) = 0) (br (r_1 = 0) (f_X3_readItem_b57 (co, nI L, it, nI (skp c L p), -1) v (cd c L (skp c L p)) 0 0) (bd (f_X0_hasRoomForJoint v) fun r_2 => br (r_2 = 0) (f_X3_readItem_b57 (co, nI L, it, nI (skp c L p), -1) v (cd c L (skp c L p)) 0 0) (f_X3_readItem_b57 (co, nI L, it, nI (skp c L p), -1) v (cd c L (skp c L p)) 0 1))) (bd (f_X0_hasRoomForSection v) fun r_4 => br (r_4 = 0) (br (r_1 = 0) (f_X3_readItem_b57 (co, nI L, it, nI (skp c L p), -1) v (cd c L (skp c L p)) 0 0) (bd (f_X0_hasRoomForJoint v) fun r_2 => br (r_2 = 0) (f_X3_readItem_b57 (co, nI L, it, nI (skp c L p), -1) v (cd c L (skp c L p)) 0 0) (f_X3_readItem_b57 (co, nI L, it, nI (skp c L p), -1) v (cd c L (skp c L p)) 0 1))) (f_X3_readItem_b57 (co, nI L, it, nI (skp c L p), -1) v (cd c L (skp c L p)) 0 1))) = (bd (f_X3_isDigit (cd c L (skp c L p))) fun r_1 => br (r_1 = 0) (f_X3_readItem_b57 (co, nI L, it, nI (skp c L p), -1) v (cd c L (skp c L p)) 0 0) (bd (f_X0_hasRoomForJoint v) fun r_2 => br (r_2 = 0) (f_X3_readItem_b57 (co, nI L, it, nI (skp c L p), -1) v (cd c L (skp c L p)) 0 0) (f_X3_readItem_b57 (co, nI L, it, nI (skp c L p), -1) v (cd c L (skp c L p)) 0 1))) from by congr 1; funext r; exact br_T rfl, dg_ok, roomJ_ok hR hO, bd_s, b1_ne, bad]
    by_cases c3 : isDg (cd c L (skp c L p))
    · rw [if_pos c3, if_pos c3]
      by_cases c2 : s_m S < 20
      · rw [if_pos c2, if_pos c2]
        have fits := jntT_ok (c := c) hO c2 h2
        obtain ⟨u', v', e, q⟩ := jnt_ok (it := it) h hL h2 hR hO c2
        obtain ⟨u2, e2, q2⟩ := b113_ok hL (fits_l fits) q
        refine ⟨u2, v', ?_, q2⟩
        unfold f_X3_readItem_b57
        rw [br_F (show ¬ (1 : Int32) = 0 by decide), br_T rfl, e, bd2_s, e2]
      · rw [if_neg c2, if_neg c2]
        exact flt
    · rw [if_neg c3, if_neg c3]
      exact flt
def CE (co : AF) (L : Nat) (fa : Int32) (u : TV) (v : CV) (o : Nat ⊕ (SC × Int32)) : Prop := u.1 = co ∧ u.2.1 = nI L ∧ match o with
  | .inl s => fa = nI s ∧ s ≤ L
  | .inr (S', it') => fa = -1 ∧ RepC v S' ∧ OkC S' ∧ T_it u = it'
theorem b19_stop {u : TV} {v : CV} {t : Int32} {fu : Nat} : f_X3_readInto_b19 (fu + 1) u v 0 t = some (T_fa u, u, v) := by
  rw [f_X3_readInto_b19]
  dsimp only
  by_cases q : 120 < t
  · rw [br_T q]
  · rw [br_F q, br_T rfl]
theorem text_loop {co c : AF} {L : Nat} (h : ∀ i, i < L → co i = c i) (hL : L ≤ 120) : ∀ (d p t fu : Nat) (it : Int32) (v : CV) (S : SC), p ≤ L → L - p < d → d + 1 < fu → t ≤ p → RepC v S → OkC S → ∃ fa u' v', f_X3_readInto_b19 fu (co, nI L, it, nI p, -1) v 1 (nI t) = some (fa, u', v') ∧ CE co L fa u' v' (textT c L d p S it) := by
  intro d
  induction d with
  | zero => intro p t fu it v S h1 h2; omega
  | succ d ih =>
    intro p t fu it v S h1 h2 h3 h4 hR hO
    obtain ⟨fu, rfl⟩ : ∃ z, fu = z + 1 + 1 := ⟨fu - 2, by omega⟩
    have fits := itemT_ok (c := c) hO h1
    obtain ⟨u1, v1, e1, q1⟩ := item_ok (it := it) h hL h1 hR hO
    rw [f_X3_readInto_b19]
    dsimp only
    unfold textT f_X3_readInto_b53 f_X3_readInto_b54 f_X3_isAtEnd
    rw [show (120 : Int32) = nI 120 from rfl, br_lt _ _ (by omega) (by omega), if_neg (by omega), br_F (show ¬ (1 : Int32) = 0 by decide), e1, bd2_s]
    cases e : itemT c L p S with
    | inl s =>
      rw [e] at q1 fits
      obtain ⟨a1, a2, a3⟩ := q1
      have hs : s ≤ L := fits.1
      rw [br_F (show ¬ T_fa u1 = -1 by rw [a3]; exact m1_ne _ (by omega)), br_T (show (0 : Int32) = 0 from rfl), nm_s, b19_stop]
      exact ⟨_, _, _, rfl, a1, a2, a3, hs⟩
    | inr w =>
      obtain ⟨p', S'⟩ := w
      rw [e] at q1 fits
      obtain ⟨rfl, hv⟩ := q1
      obtain ⟨o1, o2, o3⟩ := fits
      have k2 := skp_to (c := c) o3
      have k3 := skp_ge (c := c) o3
      rw [br_T (show T_fa (co, nI L, it + 1, nI p', -1) = -1 from rfl), nxt h hL o3, bd2_s]
      dsimp only
      by_cases w1 : cd c L (skp c L p') = -1
      · rw [br_T w1, if_pos w1, bd2_s, br_F (show ¬ (1 : Int32) = 0 by decide), br_T (show (0 : Int32) = 0 from rfl), nm_s, b19_stop]
        exact ⟨_, _, _, rfl, rfl, rfl, rfl, hv, o1, rfl⟩
      · rw [br_F w1, if_neg w1, bd2_s, br_T (show (0 : Int32) = 0 from rfl), br_F (show ¬ (1 : Int32) = 0 by decide)]
        rcases expect_ok (it := it + 1) (x := 59) h hL k2 with ⟨p2, e2, f2⟩ | ⟨e2, f2⟩
        · unfold sgn at e2
          rw [skp_idem o3] at e2
          split at e2
          · rename_i w2
            cases e2
            have k5 := cd_lt (by decide) w2
            rw [f2, bd_s, br_T (show T_fa (co, nI L, it + 1, nI (skp c L p' + 1), -1) = -1 from rfl), nm_s, nI_1, if_pos w2]
            exact ih (skp c L p' + 1) (t + 1) (fu + 1) (it + 1) v1 S' (by omega) (by omega) (by omega) (by omega) hv o1
          · cases e2
        · unfold sgn at e2
          rw [skp_idem o3] at e2
          split at e2
          · cases e2
          · rename_i w2
            have nf : ¬ T_fa (co, nI L, it + 1, nI (skp c L (skp c L p')), nI (skp c L (skp c L p'))) = -1 := m1_ne _ (by rw [skp_idem o3]; omega)
            rw [f2, bd_s, br_F nf, nm_s, b19_stop, if_neg w2]
            exact ⟨_, _, _, rfl, rfl, rfl, congrArg nI (skp_idem o3), k2⟩
/-- the text on the casting S -/
def rdT (c : AF) (L : Nat) (S : SC) : Nat ⊕ (SC × Int32) := textT c L 121 0 S 0
theorem into_ok {u : TV} {v : CV} {c : AF} {L : Nat} {S : SC} (hT : TextC u c L) (hL : L ≤ 120) (hR : RepC v S) (hO : OkC S) : ∃ fa u' v', f_X3_readInto u v = some (fa, u', v') ∧ TextC u' c L ∧ CE (T_co u) L fa u' v' (rdT c L S) := by
  obtain ⟨fa, u', v', e, q⟩ := text_loop (co := T_co u) hT.2 hL 121 0 0 FU 0 v S (Nat.zero_le _) (by omega) (FU_big (by omega)) (Nat.le_refl _) hR hO
  refine ⟨fa, u', v', ?_, ⟨q.2.1, fun i hi => by rw [show T_co u' = T_co u from q.1]; exact hT.2 i hi⟩, q⟩
  unfold f_X3_readInto
  rw [hT.1]
  exact e
/-! textFault and load -/
def aTF (o : Nat ⊕ (SC × Int32)) : Int32 := match o with
  | .inl s => nI s
  | .inr _ => -1
theorem CE.fa {co : AF} {L : Nat} {fa : Int32} {u : TV} {v : CV} {o : Nat ⊕ (SC × Int32)} (h : CE co L fa u v o) : fa = aTF o := by
  obtain ⟨-, -, q⟩ := h
  cases o with
  | inl s => exact q.1
  | inr w => exact q.1
def spLoad (σ : ST) : Int32 × ST := match rdT (t_c σ) (t_L σ) (t_S σ) with
  | .inl _ => (-4, σ)
  | .inr (S', it) => (it, put σ S')
theorem load_c {vc vr : CV} {vf : FV} {vh : HV} {vt : TV} {σ : ST} (hR : RelC vc vf vh vt σ) (h : OkT σ) : (∃ vc' vf' vh' vt' vr', f_X4_load vc vf vh vt vr = some ((spLoad σ).1, vc', vf', vh', vt', vr') ∧ RelC vc' vf' vh' vt' (spLoad σ).2) ∧ OkT (spLoad σ).2 := by
  obtain ⟨v1, e1, h1⟩ := copyFrom_rep (v := vr) hR.c h.S
  obtain ⟨fa, u', v', e, hT, q⟩ := into_ok hR.t h.L h1 h.S
  have hL := h.L
  unfold f_X4_load spLoad
  rw [e1, bd_s, e, bd3_s]
  obtain ⟨-, -, q⟩ := q
  cases o : rdT (t_c σ) (t_L σ) (t_S σ) with
  | inl s =>
    rw [o] at q
    rw [br_F (by rw [q.1]; exact m1_ne _ (by have := q.2; omega))]
    exact ⟨⟨_, _, _, _, _, rfl, hR.c, hR.f, hR.h, hT⟩, h⟩
  | inr w =>
    obtain ⟨S', it⟩ := w
    rw [o] at q
    obtain ⟨q1, q2, q3, q4⟩ := q
    obtain ⟨g', k1, hg⟩ := keep_ok hR.h h.k hR.c h.S
    obtain ⟨v2, k2, hv⟩ := copyFrom_rep (v := vc) q2 q3
    obtain ⟨w', k3, hw⟩ := follow_ok hv q3 vf
    rw [br_T q1, k1, bd_s, k2, bd_s, k3, bd_s, q4]
    exact ⟨⟨_, _, _, _, _, rfl, hv, hw, hg, hT⟩, put_ok h q3⟩
