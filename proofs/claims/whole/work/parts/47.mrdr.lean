/-! ===== 47: the model's reader ===== -/
def mt (k : MV) (L : Nat) (r : AF) (p : Nat) (nu it : Int32) : MV := (r, M_sa k, M_od k, M_st k, M_ne k, M_fd k, M_tx k, nI L, nI p, nu, it, M_h k)
/-- the text that the model holds -/
def TX (k : MV) (c : AF) (L : Nat) : Prop := M_le k = nI L ∧ L ≤ 120 ∧ ∀ i, i < L → M_tx k i = c i
theorem mb38_ok {k : MV} {c : AF} {L p : Nat} (h : TX k c L) (hp : p ≤ L) {r : AF} {nu it : Int32} : f_X5_here_b38 (mt k L r p nu it) = some (cd c L p, mt k L r p nu it) := by
  obtain ⟨h1, h2, h3⟩ := h
  unfold f_X5_here_b38
  rw [show M_le (mt k L r p nu it) = nI L from rfl, show M_at (mt k L r p nu it) = nI p from rfl, br_le _ _ (by omega) (by omega)]
  by_cases q : p < L
  · rw [if_neg (by omega), ck_in (by omega) (by omega), cl_ (by omega), cd_in q, show M_tx (mt k L r p nu it) p = c p from h3 p q]
  · rw [if_pos (by omega), cd_out q]
theorem mb0_ok {k : MV} {c : AF} {L : Nat} (h : TX k c L) {r : AF} {nu it : Int32} : ∀ (d p fu : Nat), p ≤ L → L - p ≤ d → d < fu → f_X5_here_b0 fu (mt k L r p nu it) = some (cd c L (skp c L p), mt k L r (skp c L p) nu it) := by
  obtain ⟨h1, h2, h3⟩ := id h
  intro d
  induction d with
  | zero =>
    intro p fu a1 a2 a3
    obtain ⟨fu, rfl⟩ : ∃ z, fu = z + 1 := ⟨fu - 1, by omega⟩
    rw [skp_n (by omega), f_X5_here_b0]
    dsimp only
    rw [show M_le (mt k L r p nu it) = nI L from rfl, show M_at (mt k L r p nu it) = nI p from rfl, br_le _ _ (by omega) (by omega), if_pos (by omega), mb38_ok h a1]
  | succ d ih =>
    intro p fu a1 a2 a3
    obtain ⟨fu, rfl⟩ : ∃ z, fu = z + 1 := ⟨fu - 1, by omega⟩
    rw [f_X5_here_b0]
    dsimp only
    rw [show M_le (mt k L r p nu it) = nI L from rfl, show M_at (mt k L r p nu it) = nI p from rfl, br_le _ _ (by omega) (by omega)]
    by_cases q : p < L
    · rw [if_neg (by omega), ck_in (by omega) (by omega), cl_ (by omega), show M_tx (mt k L r p nu it) p = c p from h3 p q]
      by_cases z : c p = 32
      · rw [br_T z, nm_s, nI_1, skp_y q z]
        exact ih (p + 1) fu (by omega) (by omega) (by omega)
      · rw [br_F z, mb38_ok h a1, skp_n (fun y => z y.2)]
    · rw [if_pos (by omega), mb38_ok h a1, skp_n (fun y => q y.1)]
theorem here_ok {k : MV} {c : AF} {L p : Nat} (h : TX k c L) (hp : p ≤ L) {r : AF} {nu it : Int32} : f_X5_here (mt k L r p nu it) = some (cd c L (skp c L p), mt k L r (skp c L p) nu it) := by
  obtain ⟨h1, h2, h3⟩ := id h
  unfold f_X5_here
  rw [show M_le (mt k L r p nu it) = nI L from rfl, show M_at (mt k L r p nu it) = nI p from rfl, br_le _ _ (by omega) (by omega)]
  by_cases q : p < L
  · rw [if_neg (by omega), ck_in (by omega) (by omega), cl_ (by omega), show M_tx (mt k L r p nu it) p = c p from h3 p q]
    by_cases z : c p = 32
    · rw [br_T z, nm_s, nI_1, skp_y q z]
      exact mb0_ok h (L - (p + 1)) (p + 1) FU (by omega) (Nat.le_refl _) (FU_big (by omega))
    · rw [br_F z, mb38_ok h hp, skp_n (fun y => z y.2)]
  · rw [if_pos (by omega), mb38_ok h hp, skp_n (fun y => q y.1)]
theorem sign_ok {k : MV} {c : AF} {L p : Nat} (h : TX k c L) (hp : p ≤ L) {r : AF} {nu it x : Int32} :
    (∃ e, sgn c L x p = some e ∧ f_X5_sign (mt k L r p nu it) x = some (1, mt k L r e nu it)) ∨ (sgn c L x p = none ∧ f_X5_sign (mt k L r p nu it) x = some (0, mt k L r (skp c L p) nu it)) := by
  unfold f_X5_sign f_X5_sign_b13 sgn
  rw [here_ok h hp, bd2_s]
  by_cases q : cd c L (skp c L p) = x
  · rw [br_T q, if_pos q, br_F (by decide), nm_s, ck_t (Or.inr rfl)]
    exact Or.inl ⟨_, rfl, by rw [show M_at (mt k L r (skp c L p) nu it) = nI (skp c L p) from rfl, nI_1]; rfl⟩
  · rw [br_F q, if_neg q, br_T rfl, nm_s, ck_t (Or.inl rfl), show M_at (mt k L r (skp c L p) nu it) + 0 = nI (skp c L p) from by show nI (skp c L p) + 0 = _; simp]
    exact Or.inr ⟨rfl, rfl⟩
theorem b84_ok {k : MV} {L s e : Nat} (h2 : L ≤ 120) (hs : s ≤ L) (he : s ≤ e ∧ e ≤ L) {r : AF} {nu it lo hi x : Int32} : f_X5_finds_b84 (mt k L r s nu it) lo hi (nI e) x = if (s < e ∧ e < s + 5) ∧ lo ≤ x ∧ x ≤ hi then some (nI e, mt k L r s x it) else some (-1, mt k L r s x it) := by
  unfold f_X5_finds_b84
  rw [show M_at (mt k L r s nu it) = nI s from rfl, br_le _ _ (by omega) (by omega), pk_sub he.1, show (5 : Int32) = nI 5 from rfl, br_le _ _ (by omega) (by omega), in_ok, bd_s, b1_ne]
  by_cases c1 : e ≤ s
  · rw [if_pos c1, if_neg (fun z => by omega)]; rfl
  · rw [if_neg c1]
    by_cases c2 : 5 ≤ e - s
    · rw [if_pos c2, if_neg (fun z => by omega)]; rfl
    · rw [if_neg c2]
      by_cases c3 : lo ≤ x ∧ x ≤ hi
      · rw [if_pos c3, if_pos ⟨by omega, c3⟩]; rfl
      · rw [if_neg c3, if_neg (fun z => c3 z.2)]; rfl
theorem b14_ok {k : MV} {c : AF} {L s : Nat} (h : TX k c L) (hs : s ≤ L) {r : AF} {nu it lo hi x3 : Int32} (hx : ¬ x3 < 0) : ∀ (d j fu : Nat) (x : Int32), s + j ≤ L → L - (s + j) ≤ d → d < fu → rn c L (s + j) = rn c L s → (j ≤ 5 → x = vl c s j) →
    ∃ y, f_X5_finds_b14 lo hi x3 fu (mt k L r s nu it) (nI (s + j)) x = (if (s < rn c L s ∧ rn c L s < s + 5) ∧ lo ≤ y ∧ y ≤ hi then some (nI (rn c L s), mt k L r s y it) else some (-1, mt k L r s y it)) ∧ (rn c L s < s + 5 → y = vl c s (rn c L s - s)) := by
  obtain ⟨h1, h2, h3⟩ := id h
  intro d
  induction d with
  | zero =>
    intro j fu x a1 a2 a3 a4 a5
    obtain ⟨fu, rfl⟩ : ∃ z, fu = z + 1 := ⟨fu - 1, by omega⟩
    have e : rn c L s = s + j := by rw [← a4]; exact rn_n (by omega)
    refine ⟨x, ?_, fun q => by rw [e, show s + j - s = j from by omega]; exact a5 (by omega)⟩
    rw [f_X5_finds_b14]
    dsimp only
    rw [br_F hx, show M_le (mt k L r s nu it) = nI L from rfl, br_le _ _ (by omega) (by omega), if_pos (by omega), b84_ok h2 hs (by omega), e]
  | succ d ih =>
    intro j fu x a1 a2 a3 a4 a5
    obtain ⟨fu, rfl⟩ : ∃ z, fu = z + 1 := ⟨fu - 1, by omega⟩
    rw [f_X5_finds_b14]
    dsimp only
    rw [br_F hx, show M_le (mt k L r s nu it) = nI L from rfl, show M_at (mt k L r s nu it) = nI s from rfl, br_le _ _ (by omega) (by omega), cl_ (by omega)]
    by_cases q1 : s + j < L
    · rw [if_neg (by omega), ck_in (by omega) (by omega), show M_tx (mt k L r s nu it) (s + j) = c (s + j) from h3 _ q1, in_ok, bd_s, b1_ne]
      by_cases q2 : isDg (c (s + j))
      · rw [if_pos (show 48 ≤ c (s + j) ∧ c (s + j) ≤ 57 from q2), pk_sub (by omega), show (5 : Int32) = nI 5 from rfl, br_le _ _ (by omega) (by omega), ck_in (by omega) (by omega), nm_s, nm_s, nm_s, nI_1]
        have e4 : rn c L (s + (j + 1)) = rn c L s := by rw [← a4]; exact (rn_y q1 q2).symm
        by_cases z : 5 ≤ s + j - s
        · rw [if_pos z]
          exact ih (j + 1) fu x (by omega) (by omega) (by omega) e4 (fun y => by omega)
        · rw [if_neg z]
          refine ih (j + 1) fu _ (by omega) (by omega) (by omega) e4 (fun y => ?_)
          rw [a5 (by omega)]
          rfl
      · have e : rn c L s = s + j := by rw [← a4]; exact rn_n (fun w => q2 w.2)
        refine ⟨x, ?_, fun q => by rw [e, show s + j - s = j from by omega]; exact a5 (by omega)⟩
        rw [if_neg (show ¬ (48 ≤ c (s + j) ∧ c (s + j) ≤ 57) from q2), b84_ok h2 hs (by omega), e]
    · have e : rn c L s = s + j := by rw [← a4]; exact rn_n (fun w => q1 w.1)
      refine ⟨x, ?_, fun q => by rw [e, show s + j - s = j from by omega]; exact a5 (by omega)⟩
      rw [if_pos (by omega), b84_ok h2 hs (by omega), e]
theorem finds_ok {k : MV} {c : AF} {L p : Nat} (h : TX k c L) (hp : p ≤ L) {r : AF} {nu it lo hi : Int32} :
    (∃ x e, nmb c L lo hi p = some (x, e) ∧ f_X5_finds (mt k L r p nu it) lo hi = some (nI e, mt k L r (skp c L p) x it)) ∨ (nmb c L lo hi p = none ∧ ∃ y, f_X5_finds (mt k L r p nu it) lo hi = some (-1, mt k L r (skp c L p) y it)) := by
  obtain ⟨h1, h2, h3⟩ := id h
  have hs := skp_to (c := c) hp
  have hr := rn_le (c := c) (L - skp c L p) (skp c L p) hs (Nat.le_refl _)
  unfold f_X5_finds nmb
  rw [here_ok h hp, bd2_s, show M_at (mt k L r (skp c L p) nu it) = nI (skp c L p) from rfl]
  by_cases hx : cd c L (skp c L p) < 0
  · have e : rn c L (skp c L p) = skp c L p := by
      refine rn_n (fun w => ?_)
      rw [cd_in w.1] at hx
      have h4 := Int32.le_iff_toInt_le.mp w.2.1
      have h5 := Int32.lt_iff_toInt_lt.mp hx
      have h6 : (48 : Int32).toInt = 48 := by decide
      have h7 : (0 : Int32).toInt = 0 := by decide
      omega
    rw [if_neg (fun w => by omega)]
    refine Or.inr ⟨rfl, 0, ?_⟩
    show f_X5_finds_b14 lo hi _ (999999 + 1) _ _ _ = _
    rw [f_X5_finds_b14]
    dsimp only
    rw [br_T hx, b84_ok h2 hs ⟨Nat.le_refl _, hs⟩, if_neg (fun w => by omega)]
  · obtain ⟨y, e, q⟩ := b14_ok (k := k) (r := r) (nu := nu) (it := it) (lo := lo) (hi := hi) h hs hx (L - skp c L p) 0 FU 0 hs (Nat.le_refl _) (FU_big (by omega)) rfl (fun _ => rfl)
    rw [show nI (skp c L p) = nI (skp c L p + 0) from rfl, e]
    by_cases w : skp c L p < rn c L (skp c L p) ∧ rn c L (skp c L p) < skp c L p + 5
    · rw [← q w.2]
      by_cases z : lo ≤ y ∧ y ≤ hi
      · rw [if_pos ⟨w, z⟩, if_pos ⟨w, z⟩]
        exact Or.inl ⟨y, _, rfl, rfl⟩
      · rw [if_neg (fun k => z k.2), if_neg (fun k => z k.2)]
        exact Or.inr ⟨rfl, y, rfl⟩
    · rw [if_neg (fun k => w k.1), if_neg (fun k => w k.1)]
      exact Or.inr ⟨rfl, y, rfl⟩
theorem reads_ok {k : MV} {c : AF} {L p : Nat} (h : TX k c L) (hp : p ≤ L) {r : AF} {nu it lo hi : Int32} :
    (∃ x e, nmb c L lo hi p = some (x, e) ∧ f_X5_reads (mt k L r p nu it) lo hi = some (1, mt k L r e x it)) ∨ (nmb c L lo hi p = none ∧ ∃ y, f_X5_reads (mt k L r p nu it) lo hi = some (0, mt k L r (skp c L p) y it)) := by
  have h2 := h.2.1
  unfold f_X5_reads
  rcases finds_ok (nu := nu) (it := it) (lo := lo) (hi := hi) (r := r) h hp with ⟨x, e, e1, f1⟩ | ⟨e1, y, f1⟩
  · have q := nmb_in hp e1
    rw [f1, bd2_s, br_F (m1_ne e (by omega)), br_F (m1_ne e (by omega))]
    exact Or.inl ⟨x, e, e1, rfl⟩
  · rw [f1, bd2_s, br_T rfl, br_T rfl]
    exact Or.inr ⟨e1, y, rfl⟩
/-- what a step of the model leaves: the flag, and the numbers -/
def MT (k : MV) (L : Nat) (r : AF) (it : Int32) (fl : Int32) (v : MV) (o : Nat ⊕ (Nat × SC)) : Prop := ∃ r' nu, (∀ x, 92 ≤ x → r' x = r x) ∧ match o with
  | .inl s => fl = 0 ∧ v = mt k L r' s nu it
  | .inr (p, S') => fl = 1 ∧ v = mt k L r' p nu it ∧ RepM r' S'
theorem msect_ok {k : MV} {c : AF} {L p fe : Nat} {S : SC} (h : TX k c L) (hp : p < L) {r : AF} {nu it : Int32} (hR : RepM r S) (hO : OkC S) (hn : s_n S < 12) : ∃ fl v', f_X5_readsSection (mt k L r p nu it) (nI fe) = some (fl, v') ∧ MT k L r it fl v' (sectT c L fe (p + 1) S) := by
  obtain ⟨h1, h2, h3⟩ := id h
  have hp1 : p + 1 ≤ L := hp
  unfold f_X5_readsSection sectT f_X5_readsSection_b95
  rw [ck0, z0, show M_ro (mt k L r p nu it) 0 = nI (s_n S) from hR.n, show (12 : Int32) = nI 12 from rfl, br_eq _ _ (by omega) (by omega), if_neg (by omega), nm_s, show M_at (mt k L r p nu it) + 1 = nI (p + 1) from nI_1 p]
  rw [show ((M_ro (mt k L r p nu it), M_sa (mt k L r p nu it), M_od (mt k L r p nu it), M_st (mt k L r p nu it), M_ne (mt k L r p nu it), M_fd (mt k L r p nu it), M_tx (mt k L r p nu it), M_le (mt k L r p nu it), nI (p + 1), M_nu (mt k L r p nu it), M_it (mt k L r p nu it), M_h (mt k L r p nu it)) : MV) = mt k L r (p + 1) nu it from rfl]
  rcases reads_ok (r := r) (nu := nu) (it := it) (lo := 1) (hi := 5000) h hp1 with ⟨a, p1, e1, f1⟩ | ⟨e1, y, f1⟩
  · obtain ⟨a1, a2, a3, a4⟩ := nmb_in hp1 e1
    rw [f1, e1, bd2_s, br_F (by decide)]
    dsimp only
    rcases sign_ok (r := r) (nu := a) (it := it) (x := 47) h a2 with ⟨p2, e2, f2⟩ | ⟨e2, f2⟩
    · obtain ⟨b1, b2⟩ := sgn_in a2 (by decide) e2
      rw [f2, e2, bd2_s, br_F (by decide)]
      dsimp only
      rcases reads_ok (r := r) (nu := a) (it := it) (lo := 1) (hi := 5000) h b2 with ⟨b, p3, e3, f3⟩ | ⟨e3, y, f3⟩
      · obtain ⟨c1, c2, c3, c4⟩ := nmb_in b2 e3
        obtain ⟨x, hx, rfl⟩ := sz_of (x := a) ⟨a3, a4⟩
        obtain ⟨y, hy, rfl⟩ := sz_of (x := b) ⟨c3, c4⟩
        rw [f3, e3, bd2_s, br_F (by decide)]
        dsimp only
        rw [show ((M_ro (mt k L r p3 (nI y) it), M_sa (mt k L r p3 (nI y) it), M_od (mt k L r p3 (nI y) it), M_st (mt k L r p3 (nI y) it), M_ne (mt k L r p3 (nI y) it), M_fd (mt k L r p3 (nI y) it), M_tx (mt k L r p3 (nI y) it), M_le (mt k L r p3 (nI y) it), M_at (mt k L r p3 (nI y) it), 0, M_it (mt k L r p3 (nI y) it), M_h (mt k L r p3 (nI y) it)) : MV) = mt k L r p3 0 it from rfl, show M_nu (mt k L r p1 (nI x) it) = nI x from rfl, show M_nu (mt k L r p3 (nI y) it) = nI y from rfl, cl_ (n := x) (by omega), cl_ (n := y) (by omega)]
        rcases sign_ok (r := r) (nu := 0) (it := it) (x := 45) h c2 with ⟨p4, e4, f4⟩ | ⟨e4, f4⟩
        · obtain ⟨d1, d2⟩ := sgn_in c2 (by decide) e4
          unfold sgn at e4
          split at e4
          · rename_i q
            cases e4
            rw [f4, if_pos q, bd2_s, br_F (by decide)]
            rcases reads_ok (r := r) (nu := 0) (it := it) (lo := 0) (hi := 500) h d2 with ⟨d, p5, e5, f5⟩ | ⟨e5, y, f5⟩
            · obtain ⟨g1, g2, g3, g4⟩ := nmb_in d2 e5
              obtain ⟨z, hz, rfl⟩ := dig (b := 500) (by omega) ⟨g3, g4⟩
              obtain ⟨l1, l2, l3⟩ := lays_ok (v := mt k L r p5 (nI z) it) hR hO hn (vo := x) (ar := y) (ch := z) (fe := fe)
              rw [f5, e5, bd2_s, br_F (by decide), show M_nu (mt k L r p5 (nI z) it) = nI z from rfl, l1, bd_s]
              dsimp only
              rw [cl_ (n := z) (by omega)]
              exact ⟨_, _, rfl, _, nI z, l3, rfl, rfl, l2⟩
            · rw [f5, e5, bd2_s, br_T rfl]
              exact ⟨_, _, rfl, r, y, fun _ _ => rfl, rfl, rfl⟩
          · cases e4
        · unfold sgn at e4
          split at e4
          · cases e4
          · rename_i q
            obtain ⟨l1, l2, l3⟩ := lays_ok (v := mt k L r (skp c L p3) 0 it) hR hO hn (vo := x) (ar := y) (ch := 0) (fe := fe)
            rw [f4, if_neg q, bd2_s, br_T rfl, show M_nu (mt k L r (skp c L p3) 0 it) = nI 0 from rfl, l1, bd_s]
            exact ⟨_, _, rfl, _, 0, l3, rfl, rfl, l2⟩
      · rw [f3, e3, bd2_s, br_T rfl]
        exact ⟨_, _, rfl, r, y, fun _ _ => rfl, rfl, rfl⟩
    · rw [f2, e2, bd2_s, br_T rfl]
      exact ⟨_, _, rfl, r, a, fun _ _ => rfl, rfl, rfl⟩
  · rw [f1, e1, bd2_s, br_T rfl]
    exact ⟨_, _, rfl, r, y, fun _ _ => rfl, rfl, rfl⟩
theorem mjnt_ok {k : MV} {c : AF} {L p : Nat} {S : SC} (h : TX k c L) (hp : p ≤ L) {r : AF} {nu it : Int32} (hR : RepM r S) (hO : OkC S) (hm : s_m S < 20) : ∃ fl v', f_X5_readsJoint (mt k L r p nu it) = some (fl, v') ∧ MT k L r it fl v' (jntT c L p S) := by
  obtain ⟨h1, h2, h3⟩ := id h
  have hn := hO.n
  unfold f_X5_readsJoint jntT
  rw [ck1, z1, show M_ro (mt k L r p nu it) = r from rfl, hR.m, show (20 : Int32) = nI 20 from rfl, br_eq _ _ (by omega) (by omega), if_neg (by omega), ck0, z0, hR.n]
  rcases reads_ok (r := r) (nu := nu) (it := it) (lo := 0) (hi := nI (s_n S) - 1) h hp with ⟨a, p1, e1, f1⟩ | ⟨e1, y, f1⟩
  · obtain ⟨a1, a2, a3⟩ := nmb_in hp e1
    rw [f1, e1, bd2_s, br_F (by decide)]
    dsimp only
    rcases sign_ok (r := r) (nu := a) (it := it) (x := 61) h a2 with ⟨p2, e2, f2⟩ | ⟨e2, f2⟩
    · obtain ⟨b1, b2⟩ := sgn_in a2 (by decide) e2
      rw [f2, e2, bd2_s, br_F (by decide), ck0, show M_ro (mt k L r p2 a it) = r from rfl, hR.n]
      dsimp only
      rcases finds_ok (r := r) (nu := a) (it := it) (lo := 0) (hi := nI (s_n S) - 1) h b2 with ⟨b, p3, e3, f3⟩ | ⟨e3, y, f3⟩
      · obtain ⟨c1, c2, c3⟩ := nmb_in b2 e3
        have q1 := (in_below (by omega) a).mp a3
        have q2 := (in_below (by omega) b).mp c3
        rcases inN_cases a (n := s_n S) (by omega) with ⟨i, hi, rfl, -⟩ | ⟨q, q'⟩
        · rcases inN_cases b (n := s_n S) (by omega) with ⟨j, hj, rfl, -⟩ | ⟨q, q'⟩
          · rw [f3, e3, bd2_s, br_F (m1_ne p3 (by omega)), show M_nu (mt k L r (skp c L p2) (nI j) it) = nI j from rfl, show M_nu (mt k L r p1 (nI i) it) = nI i from rfl, br_eq _ _ (by omega) (by omega), neigh_ok (v := mt k L r (skp c L p2) (nI j) it) hR hO (by omega) (by omega), bd_s, b2_br]
            dsimp only
            rw [cl_ (n := i) (by omega), cl_ (n := j) (by omega)]
            by_cases w1 : j = i
            · rw [if_pos w1, if_neg (fun z => z.1 w1.symm)]
              exact ⟨_, _, rfl, r, _, fun _ _ => rfl, rfl, rfl⟩
            · rw [if_neg w1]
              by_cases w2 : nb S i j = true
              · rw [if_pos w2, if_neg (fun z => by rw [w2] at z; cases z.2)]
                exact ⟨_, _, rfl, r, _, fun _ _ => rfl, rfl, rfl⟩
              · have w3 : nb S i j = false := by
                  cases e : nb S i j with
                  | false => rfl
                  | true => exact absurd e w2
                obtain ⟨l1, l2, l3⟩ := joins_ok (v := mt k L r p3 (nI j) it) hR hO hm (a := i) (b := j)
                rw [if_neg w2, if_pos ⟨fun z => w1 z.symm, w3⟩]
                refine ⟨1, _, ?_, jn r (s_m S) i j, nI j, l3, rfl, rfl, l2⟩
                exact (congrArg (fun z => bd z fun v_21 => some ((1 : Int32), v_21)) l1)
          · exact absurd q2 q'
        · exact absurd q1 q'
      · rw [f3, e3, bd2_s, br_T rfl]
        exact ⟨_, _, rfl, r, y, fun _ _ => rfl, rfl, rfl⟩
    · rw [f2, e2, bd2_s, br_T rfl]
      exact ⟨_, _, rfl, r, a, fun _ _ => rfl, rfl, rfl⟩
  · rw [f1, e1, bd2_s, br_T rfl]
    exact ⟨_, _, rfl, r, y, fun _ _ => rfl, rfl, rfl⟩
theorem MT.fl {k : MV} {L : Nat} {r : AF} {it fl : Int32} {v : MV} {o : Nat ⊕ (Nat × SC)} (h : MT k L r it fl v o) : fl = 0 ∨ fl = 1 := by
  obtain ⟨r', nu, -, q⟩ := h
  cases o with
  | inl s => exact Or.inl q.1
  | inr w => exact Or.inr q.1
theorem mitem_ok {k : MV} {c : AF} {L p : Nat} {S : SC} (h : TX k c L) (hp : p ≤ L) {r : AF} {nu it : Int32} (hR : RepM r S) (hO : OkC S) : ∃ fl v', f_X5_readsItem (mt k L r p nu it) = some (fl, v') ∧ MT k L r (it + 1) fl v' (itemT c L p S) := by
  obtain ⟨h1, h2, h3⟩ := id h
  have hn := hO.n
  have hm := hO.m
  have hs := skp_to (c := c) hp
  unfold f_X5_readsItem itemT f_X5_readsItem_b27
  rw [here_ok h hp, bd2_s, nm_s, show M_it (mt k L r (skp c L p) nu it) = it from rfl]
  rw [show ((M_ro (mt k L r (skp c L p) nu it), M_sa (mt k L r (skp c L p) nu it), M_od (mt k L r (skp c L p) nu it), M_st (mt k L r (skp c L p) nu it), M_ne (mt k L r (skp c L p) nu it), M_fd (mt k L r (skp c L p) nu it), M_tx (mt k L r (skp c L p) nu it), M_le (mt k L r (skp c L p) nu it), M_at (mt k L r (skp c L p) nu it), M_nu (mt k L r (skp c L p) nu it), it + 1, M_h (mt k L r (skp c L p) nu it)) : MV) = mt k L r (skp c L p) nu (it + 1) from rfl]
  have full : ∀ x, s_n S = 12 → f_X5_readsSection (mt k L r (skp c L p) nu (it + 1)) x = some (0, mt k L r (skp c L p) nu (it + 1)) := fun x hx => by
    unfold f_X5_readsSection
    rw [ck0, z0, show M_ro (mt k L r (skp c L p) nu (it + 1)) 0 = nI (s_n S) from hR.n, hx, br_T (show nI 12 = 12 from rfl)]
  have fullj : s_m S = 20 → f_X5_readsJoint (mt k L r (skp c L p) nu (it + 1)) = some (0, mt k L r (skp c L p) nu (it + 1)) := fun hx => by
    unfold f_X5_readsJoint
    rw [ck1, z1, show M_ro (mt k L r (skp c L p) nu (it + 1)) 1 = nI (s_m S) from hR.m, hx, br_T (show nI 20 = 20 from rfl)]
  have stay : MT k L r (it + 1) 0 (mt k L r (skp c L p) nu (it + 1)) (.inl (skp c L p)) := ⟨r, nu, fun _ _ => rfl, rfl, rfl⟩
  by_cases c1 : cd c L (skp c L p) = 99 ∨ cd c L (skp c L p) = 102
  · have h5 : skp c L p < L := by
      rcases c1 with q | q
      · exact cd_lt (by decide) q
      · exact cd_lt (by decide) q
    rw [if_pos c1]
    by_cases c2 : s_n S < 12
    · rw [if_pos c2]
      by_cases w : cd c L (skp c L p) = 102
      · obtain ⟨fl, v', e, q⟩ := msect_ok (fe := 1) (r := r) (nu := nu) (it := it + 1) h h5 hR hO c2
        have e' : f_X5_readsSection (mt k L r (skp c L p) nu (it + 1)) 1 = some (fl, v') := e
        rw [if_pos w, br_F (by rw [w]; decide), br_T w, br_T w, e', bd2_s, ck_t q.fl]
        exact ⟨fl, v', rfl, q⟩
      · obtain ⟨fl, v', e, q⟩ := msect_ok (fe := 0) (r := r) (nu := nu) (it := it + 1) h h5 hR hO c2
        have e' : f_X5_readsSection (mt k L r (skp c L p) nu (it + 1)) 0 = some (fl, v') := e
        rw [if_neg w, br_T (c1.resolve_right w), br_F w, e', bd2_s, ck_t q.fl]
        exact ⟨fl, v', rfl, q⟩
    · have c3 : s_n S = 12 := by omega
      rw [if_neg c2]
      by_cases w : cd c L (skp c L p) = 102
      · rw [br_F (by rw [w]; decide), br_T w, br_T w, full _ c3, bd2_s, ck_t (Or.inl rfl)]
        exact ⟨0, _, rfl, stay⟩
      · rw [br_T (c1.resolve_right w), br_F w, full _ c3, bd2_s, ck_t (Or.inl rfl)]
        exact ⟨0, _, rfl, stay⟩
  · rw [if_neg c1, br_F (fun z => c1 (Or.inl z)), br_F (fun z => c1 (Or.inr z))]
    by_cases c2 : s_m S < 20
    · obtain ⟨fl, v', e, q⟩ := mjnt_ok (r := r) (nu := nu) (it := it + 1) h hs hR hO c2
      rw [e, bd2_s, ck_t q.fl]
      refine ⟨fl, v', rfl, ?_⟩
      by_cases c3 : isDg (cd c L (skp c L p))
      · rw [if_pos c3, if_pos c2]; exact q
      · rw [if_neg c3]
        have e0 : rn c L (skp c L (skp c L p)) = skp c L (skp c L p) := by
          rw [skp_idem hp]
          exact rn_n (fun w => c3 (by rw [cd_in w.1]; exact w.2))
        have e1 : nmb c L 0 (nI (s_n S) - 1) (skp c L p) = none := by
          unfold nmb
          rw [if_neg (fun w => by omega)]
        unfold jntT at q
        rw [e1, skp_idem hp] at q
        exact q
    · have c4 : s_m S = 20 := by omega
      rw [fullj c4, bd2_s, ck_t (Or.inl rfl)]
      refine ⟨0, _, rfl, ?_⟩
      by_cases c3 : isDg (cd c L (skp c L p))
      · rw [if_pos c3, if_neg c2]; exact stay
      · rw [if_neg c3]; exact stay
/-- what the model leaves at the end of the text -/
def ME (k : MV) (L : Nat) (r : AF) (fl : Int32) (v : MV) (o : Nat ⊕ (SC × Int32)) : Prop := ∃ r' p nu it, (∀ x, 92 ≤ x → r' x = r x) ∧ v = mt k L r' p nu it ∧ match o with
  | .inl s => fl = 0 ∧ p = s
  | .inr (S', it') => fl = 1 ∧ RepM r' S' ∧ OkC S' ∧ it = it'
theorem b20_stop {v : MV} {x : Int32} {fu : Nat} : f_X5_readsText_b20 (fu + 1) v 0 x = some (0, v) := by
  rw [f_X5_readsText_b20]
  dsimp only
  rw [br_T rfl, ck_t (Or.inl rfl)]
theorem mtext_loop {k : MV} {c : AF} {L : Nat} (h : TX k c L) : ∀ (d p fu : Nat) (r : AF) (nu it : Int32) (S : SC), p ≤ L → L - p < d → d < fu → RepM r S → OkC S →
    ∃ fl v', (bd2 (f_X5_readsItem (mt k L r p nu it)) fun r_1 v_2 => bd2 (f_X5_here v_2) fun r_4 v_5 => f_X5_readsText_b20 fu v_5 r_1 r_4) = some (fl, v') ∧ ME k L r fl v' (textT c L d p S it) := by
  obtain ⟨h1, h2, h3⟩ := id h
  intro d
  induction d with
  | zero => intro p fu r nu it S a1 a2; omega
  | succ d ih =>
    intro p fu r nu it S a1 a2 a3 hR hO
    obtain ⟨fu, rfl⟩ : ∃ z, fu = z + 1 + 1 := ⟨fu - 2, by omega⟩
    have fits := itemT_ok (c := c) hO a1
    obtain ⟨fl, v', e, q⟩ := mitem_ok (nu := nu) (it := it) h a1 hR hO
    unfold textT
    rw [e, bd2_s]
    cases o : itemT c L p S with
    | inl s =>
      rw [o] at q fits
      obtain ⟨r', nu', far, rfl, rfl⟩ := q
      obtain ⟨g1, g2⟩ := fits
      rw [here_ok h g1, bd2_s, g2, b20_stop]
      exact ⟨_, _, rfl, r', s, nu', it + 1, far, rfl, rfl, rfl⟩
    | inr w =>
      obtain ⟨p', S'⟩ := w
      rw [o] at q fits
      obtain ⟨r', nu', far, rfl, rfl, hR'⟩ := q
      obtain ⟨o1, o2, o3⟩ := fits
      have k2 := skp_to (c := c) o3
      have k3 := skp_ge (c := c) o3
      rw [here_ok h o3, bd2_s, f_X5_readsText_b20]
      dsimp only
      unfold f_X5_readsText_b49 f_X5_readsText_b50
      rw [br_F (show ¬ (1 : Int32) = 0 by decide)]
      by_cases w1 : cd c L (skp c L p') = -1
      · rw [br_T w1, if_pos w1, ck_t (Or.inr rfl)]
        exact ⟨_, _, rfl, r', _, nu', it + 1, far, rfl, rfl, hR', o1, rfl⟩
      · rw [br_F w1, if_neg w1]
        rcases sign_ok (r := r') (nu := nu') (it := it + 1) (x := 59) h k2 with ⟨p2, e2, f2⟩ | ⟨e2, f2⟩
        · unfold sgn at e2
          rw [skp_idem o3] at e2
          split at e2
          · rename_i w2
            cases e2
            have k5 := cd_lt (by decide) w2
            rw [f2, bd2_s, br_F (show ¬ (1 : Int32) = 0 by decide), if_pos w2]
            obtain ⟨fl2, v2, e3, r2, p3, nu3, it3, far3, q3⟩ := ih (skp c L p' + 1) (fu + 1) r' nu' (it + 1) S' (by omega) (by omega) (by omega) hR' o1
            refine ⟨fl2, v2, ?_, r2, p3, nu3, it3, fun x hx => (far3 x hx).trans (far x hx), q3⟩
            rw [← e3]
            obtain ⟨fl4, v4, e4, q4⟩ := mitem_ok (nu := nu') (it := it + 1) h (show skp c L p' + 1 ≤ L from by omega) hR' o1
            rw [e4, bd2_s, bd2_s]
            rcases q4.fl with rfl | rfl
            · rw [br_T rfl]
            · rw [br_F (by decide)]
          · cases e2
        · unfold sgn at e2
          rw [skp_idem o3] at e2
          split at e2
          · cases e2
          · rename_i w2
            rw [f2, bd2_s, br_T rfl, skp_idem o3, here_ok h k2, bd2_s, skp_idem o3, b20_stop, if_neg w2]
            exact ⟨_, _, rfl, r', _, nu', it + 1, far, rfl, rfl, rfl⟩
theorem mread_ok {v : MV} {c : AF} {L : Nat} {S : SC} (h : TX v c L) (hR : RepM (M_ro v) S) (hO : OkC S) : ∃ fl v', f_X5_readsText v = some (fl, v') ∧ ME v L (M_ro v) fl v' (rdT c L S) := by
  unfold f_X5_readsText
  rw [h.1]
  exact mtext_loop h 121 0 FU (M_ro v) (M_nu v) 0 S (Nat.zero_le _) (by have := h.2.1; omega) (FU_big (by omega)) hR hO
theorem mtf_ok {v : MV} {σ : ST} (hR : RelM v σ) (h : OkT σ) : ∃ v', f_X5_textFault v = some (aTF (rdT (t_c σ) (t_L σ) (t_S σ)), v') ∧ RelM v' σ := by
  have hk := h.k
  have hL := h.L
  have k1 : RepK (cpd (M_ro v) 0 6 92) 6 (t_S σ) := cpd_to (repK_0.mpr hR.r) h.S
  have k2 : RepM (cpd (M_ro v) 0 6 92) (t_S σ) := repK_0.mp (cpd_else (by omega) (repK_0.mpr hR.r) h.S)
  have k3 : HistM (cpd (M_ro v) 0 6 92) (t_k σ) (t_h σ) := fun t ht => cpd_else (by omega) (hR.h t ht) (h.h t ht)
  obtain ⟨fl, v', e, r', p, nu, it, far, rfl, q⟩ := mread_ok (v := sr v (cpd (M_ro v) 0 6 92)) (c := t_c σ) (L := t_L σ) ⟨hR.le, hL, hR.tx⟩ k2 h.S
  have k4 : RepK r' 6 (t_S σ) := by
    have : shf r' (92 * 6) = shf (cpd (M_ro v) 0 6 92) (92 * 6) := by
      funext x
      exact far _ (by omega)
    show RepM (shf r' (92 * 6)) _
    rw [this]
    exact k1
  have k5 : HistM r' (t_k σ) (t_h σ) := k3.congr far
  refine ⟨sr (mt (sr v (cpd (M_ro v) 0 6 92)) (t_L σ) r' p nu it) (cpd r' 6 0 92), ?_, repK_0.mp (cpd_to k4 h.S), hR.sa, fun t ht => cpd_else (by omega) (k5 t ht) (h.h t ht), rfl, hR.tx⟩
  unfold f_X5_textFault
  rw [show (0 : Int32) = nI 0 from rfl, show (6 : Int32) = nI 6 from rfl, copies_ok (by omega) (by omega), bd_s, e, bd2_s, copies_ok (by omega) (by omega), bd_s]
  cases o : rdT (t_c σ) (t_L σ) (t_S σ) with
  | inl s =>
    rw [o] at q
    obtain ⟨rfl, rfl⟩ := q
    rw [br_T (show (0 : Int32) = nI 0 from rfl)]
    rfl
  | inr w =>
    rw [o] at q
    obtain ⟨rfl, -⟩ := q
    rw [br_F (by decide)]
    rfl
theorem load_m {v : MV} {σ : ST} (hR : RelM v σ) (h : OkT σ) : ∃ v', f_X5_load v = some ((spLoad σ).1, v') ∧ RelM v' (spLoad σ).2 := by
  have hL := h.L
  obtain ⟨v2, e1, hR2⟩ := mtf_ok hR h
  unfold f_X5_load spLoad
  rw [e1, bd2_s]
  cases o : rdT (t_c σ) (t_L σ) (t_S σ) with
  | inl s =>
    have fits : s ≤ t_L σ := by
      obtain ⟨fa, u', v', -, -, q⟩ := into_ok (u := (t_c σ, nI (t_L σ), 0, 0, 0)) (v := (nI (s_n (t_S σ)), nI (s_m (t_S σ)), nI (s_sh (t_S σ)), nI (s_pi (t_S σ)), fun i => nI (s_vo (t_S σ) i), fun i => nI (s_ar (t_S σ) i), fun i => nI (s_ch (t_S σ) i), fun i => if s_fe (t_S σ) i = 0 then 0 else if i < s_n (t_S σ) then nI (s_fe (t_S σ) i) else 0, fun i => nI (s_ja (t_S σ) i), fun i => nI (s_jb (t_S σ) i))) (c := t_c σ) (L := t_L σ) (S := t_S σ) ⟨rfl, fun _ _ => rfl⟩ hL ⟨rfl, rfl, rfl, rfl, fun _ _ => rfl, fun _ _ => rfl, fun _ _ => rfl, fun i hi => by
        show (if s_fe (t_S σ) i = 0 then 0 else if i < s_n (t_S σ) then nI (s_fe (t_S σ) i) else 0) = nI (s_fe (t_S σ) i)
        by_cases z : s_fe (t_S σ) i = 0
        · rw [if_pos z, z]; rfl
        · rw [if_neg z, if_pos hi], fun _ _ => rfl, fun _ _ => rfl, fun i hi => by
        show (if s_fe (t_S σ) i = 0 then 0 else if i < s_n (t_S σ) then nI (s_fe (t_S σ) i) else 0) = 0 ∨ (if s_fe (t_S σ) i = 0 then 0 else if i < s_n (t_S σ) then nI (s_fe (t_S σ) i) else 0) = 1
        by_cases z : s_fe (t_S σ) i = 0
        · rw [if_pos z]; exact Or.inl rfl
        · rw [if_neg z]
          by_cases y : i < s_n (t_S σ)
          · have := h.S.fe y
            rw [if_pos y, show s_fe (t_S σ) i = 1 from by omega]; exact Or.inr rfl
          · rw [if_neg y]; exact Or.inl rfl⟩ h.S
      rw [o] at q
      exact q.2.2.2
    rw [show aTF (.inl s) = nI s from rfl, br_F (m1_ne s (by omega))]
    exact ⟨v2, rfl, hR2⟩
  | inr w =>
    obtain ⟨S', it⟩ := w
    obtain ⟨r', e2, k1, k2⟩ := saveR hR2 h
    obtain ⟨fl, v', e3, r2, p, nu, it2, far, rfl, q⟩ := mread_ok (v := sv v2 r' (pkk (t_k σ))) (c := t_c σ) (L := t_L σ) ⟨hR2.le, hL, hR2.tx⟩ k1 h.S
    rw [o] at q
    obtain ⟨-, q2, q3, q4⟩ := q
    rw [show aTF (.inr (S', it)) = -1 from rfl, br_T rfl, e2, bd_s, e3, bd2_s, q4]
    exact ⟨_, rfl, q2, rfl, k2.congr far, rfl, hR2.tx⟩
