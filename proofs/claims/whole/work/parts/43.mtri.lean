/-! ===== 43: the model's other questions ===== -/
def RelM (v : MV) (σ : ST) : Prop := RepM (M_ro v) (t_S σ) ∧ M_sa v = nI (t_k σ) ∧ HistM (M_ro v) (t_k σ) (t_h σ) ∧ M_le v = nI (t_L σ) ∧ ∀ i, i < t_L σ → M_tx v i = t_c σ i
theorem RelM.r {v : MV} {σ : ST} (h : RelM v σ) : RepM (M_ro v) (t_S σ) := h.1
theorem RelM.sa {v : MV} {σ : ST} (h : RelM v σ) : M_sa v = nI (t_k σ) := h.2.1
theorem RelM.h {v : MV} {σ : ST} (h : RelM v σ) : HistM (M_ro v) (t_k σ) (t_h σ) := h.2.2.1
theorem RelM.le {v : MV} {σ : ST} (h : RelM v σ) : M_le v = nI (t_L σ) := h.2.2.2.1
theorem RelM.tx {v : MV} {σ : ST} (h : RelM v σ) : ∀ i, i < t_L σ → M_tx v i = t_c σ i := h.2.2.2.2
theorem RelM.same {v v' : MV} {σ : ST} (h : RelM v σ) (s : Same v v') : RelM v' σ := by
  obtain ⟨a1, a2, a3, a4, -⟩ := s
  obtain ⟨b1, b2, b3, b4, b5⟩ := h
  exact ⟨by rw [a1]; exact b1, a2.trans b2, by rw [a1]; exact b3, a4.trans b4, by rw [a3]; exact b5⟩
/-! modulus -/
theorem mgcd_loop {v : MV} {x2 x3 x4 : Int32} : ∀ (d a b fu : Nat), b < d → d < fu → 0 < a → a ≤ 5500 → b ≤ 5500 → f_X5_modulus_b40 v x2 x3 x4 fu (nI a) (nI b) = br (x2 = 0) (some (x3 / nI (Nat.gcd a b))) (some (x4 / nI (Nat.gcd a b))) := by
  intro d
  induction d with
  | zero => intro a b fu h1; omega
  | succ d ih =>
    intro a b fu h1 h2 h3 h4 h5
    obtain ⟨fu, rfl⟩ : ∃ z, fu = z + 1 := ⟨fu - 1, by omega⟩
    rw [f_X5_modulus_b40]
    dsimp only
    rw [br_le0 _ (by omega)]
    by_cases c : b = 0
    · rw [if_pos c, c, Nat.gcd_zero_right, ck_n (by omega) (by omega), ck_n (by omega) (by omega)]
    · have m1 := Nat.mod_lt a (by omega : 0 < b)
      rw [if_neg c, ck_n c (by omega), md (by omega) (by omega) (by omega), nm_s, gcd_s]
      exact ih b (a % b) fu (by omega) (by omega) (by omega) (by omega) (by omega)
def qMod (S : SC) (x y : Int32) : Int32 := if inN (s_n S) x then aMod S x.toNatClampNeg y else -2
theorem mmod_ok {v : MV} {S : SC} (h : RepM (M_ro v) S) (hO : OkC S) (x y : Int32) : f_X5_modulus v x y = some (qMod S x y) := by
  have hn := hO.n
  unfold f_X5_modulus qMod
  rw [isSec_ok h hO, bd_s, b1_ne]
  rcases inN_cases x (n := s_n S) (by omega) with ⟨i, hi, rfl, q⟩ | ⟨q, q'⟩
  · have hv := hO.vo hi
    have ha := hO.ar hi
    have hc := hO.ch hi
    have g1 : 0 < Nat.gcd (s_vo S i) (s_ar S i + s_ch S i) := Nat.gcd_pos_of_pos_left _ (by omega)
    have g2 : Nat.gcd (s_vo S i) (s_ar S i + s_ch S i) ≤ s_vo S i := Nat.gcd_le_left _ (by omega)
    rw [if_pos q, if_pos q, cl_ (by omega), of0 h hO hi, bd_s, of1 h hO hi, bd_s, of2 h hO hi, bd_s, nm_s, nI_add, mgcd_loop (s_ar S i + s_ch S i + 1) _ _ FU (by omega) (FU_big (by omega)) (by omega) (by omega) (by omega), pk_div (by omega) g1 (by omega), pk_div (by omega) g1 (by omega)]
    unfold aMod
    by_cases c : y = 0
    · rw [br_T c, if_pos c]
    · rw [br_F c, if_neg c]
  · rw [if_neg q', if_neg q']
theorem mod_c {v : CV} {S : SC} (h : RepC v S) (hO : OkC S) (x y : Int32) : f_X4_modulus v x y = some (qMod S x y) := by
  have hn := hO.n
  unfold qMod
  rcases inN_cases x (n := s_n S) (by omega) with ⟨i, hi, rfl, q⟩ | ⟨q, q'⟩
  · rw [if_pos q, cl_ (by omega), modulus_ok h hO hi]
  · rw [if_neg q', modulus_no h q]
/-! joint -/
def qJoint (S : SC) (x y : Int32) : Int32 := if inN (s_m S) x then aJoint S x.toNatClampNeg y else -2
theorem mjoint_ok {v : MV} {S : SC} (h : RepM (M_ro v) S) (hO : OkC S) (x y : Int32) : f_X5_joint v x y = some (qJoint S x y) := by
  have hm := hO.m
  unfold f_X5_joint qJoint
  rw [isJnt_ok h hO, bd_s, b1_ne]
  rcases inN_cases x (n := s_m S) (by omega) with ⟨j, hj, rfl, q⟩ | ⟨q, q'⟩
  · rw [if_pos q, if_pos q, cl_ (by omega), in_ok, bd_s, b1_ne]
    unfold aJoint
    by_cases c : y = 0 ∨ y = 1
    · rw [if_pos (bin_iff.mpr c), show (52 : Int32) = nI 52 from rfl, show (2 : Int32) = nI 2 from rfl, lin]
      rcases c with rfl | rfl
      · rw [if_pos rfl, show (0 : Int32) = nI 0 from rfl, nI_add, nm_s, ck_in (by omega) (by omega), cl_ (by omega), Nat.add_zero, h.ja j hj]
      · rw [if_neg (by decide), if_pos rfl, nI_1, nm_s, ck_in (by omega) (by omega), cl_ (by omega), h.jb j hj]
    · rw [if_neg (fun z => c (bin_iff.mp z)), if_neg (fun z => c (Or.inl z)), if_neg (fun z => c (Or.inr z))]
  · rw [if_neg q', if_neg q']
theorem joint_c {v : CV} {S : SC} (h : RepC v S) (hO : OkC S) (x y : Int32) : f_X4_joint v x y = some (qJoint S x y) := by
  have hm := hO.m
  unfold qJoint
  rcases inN_cases x (n := s_m S) (by omega) with ⟨i, hi, rfl, q⟩ | ⟨q, q'⟩
  · rw [if_pos q, cl_ (by omega), joint_ok h hO hi]
  · rw [if_neg q', joint_no h q]
/-! atStep, way, end, gathers -/
theorem mstep_ok {v : MV} {S : SC} (h : RepM (M_ro v) S) (hO : OkC S) (x : Int32) : ∃ v', f_X5_atStep v x = some (aStep S x, v') ∧ Same v v' := by
  have hn := hO.n
  unfold f_X5_atStep aStep
  by_cases c : 0 ≤ x
  · rw [br_T c, if_pos c]
    obtain ⟨v', e, hs, hr, hF⟩ := frz_ok h hO
    refine ⟨v', ?_, hs⟩
    rw [e, bd_s, ck0, z0, hr.n]
    by_cases d : nI (s_n S) ≤ x
    · rw [br_T d, if_pos d]
    · rw [br_F d, if_neg d]
      rcases in_out x (n := s_n S) (by omega) with ⟨i, hi, rfl⟩ | q
      · rw [ck_in (by omega) (by omega), cl_ (by omega), hF.1 i hi]
      · rcases q with q | q
        · exact absurd q (Int32.not_lt.mpr c)
        · exact absurd q d
  · rw [br_F c, if_neg c]
    exact ⟨v, rfl, Same.rfl'⟩
theorem mway_loop {v : MV} {S : SC} (hF : Frz v S) (hO : OkC S) (k : Int32) : ∀ (d fu : Nat) (o : Option Nat) (t : Int32), d < fu → (∀ x, o = some x → x < s_n S ∧ s_n S - rk S x < d) → 0 < d → f_X5_way_b27 k fu v (enc o) t = some (enc (wy S k d o t), v) := by
  have hn := hO.n
  intro d
  induction d with
  | zero => intro fu o t h1 h2 h3; omega
  | succ d ih =>
    intro fu o t h1 h2 h3
    obtain ⟨fu, rfl⟩ : ∃ z, fu = z + 1 := ⟨fu - 1, by omega⟩
    rw [f_X5_way_b27]
    dsimp only
    cases o with
    | none =>
      by_cases c : k ≤ t
      · rw [br_T c]; rfl
      · rw [br_F c, br_T (show enc none = -1 from rfl)]; rfl
    | some x =>
      obtain ⟨q1, q2⟩ := h2 x rfl
      have q3 := rk_lt q1
      unfold wy
      by_cases c : k ≤ t
      · rw [br_T c, if_pos c]
      · rw [br_F c, if_neg c, show enc (some x) = nI x from rfl, br_F (m1_ne x (by omega)), ck_in (by omega) (by omega), nm_s, nm_s, cl_ (by omega), hF.2.2.2 x q1]
        refine ih fu _ _ (by omega) (fun y hy => ?_) (by omega)
        obtain ⟨r1, r2, r3, -⟩ := src_some hO hy
        have r4 := rk_lt r1
        exact ⟨r1, by omega⟩
noncomputable def qWay (S : SC) (x y : Int32) : Int32 := if inN (s_n S) x then aWay S x.toNatClampNeg y else -2
theorem mway_ok {v : MV} {S : SC} (h : RepM (M_ro v) S) (hO : OkC S) (x y : Int32) : ∃ v', f_X5_way v x y = some (qWay S x y, v') ∧ Same v v' := by
  have hn := hO.n
  unfold f_X5_way qWay
  rw [isSec_ok h hO, bd_s, b1_ne]
  rcases inN_cases x (n := s_n S) (by omega) with ⟨i, hi, rfl, q⟩ | ⟨q, q'⟩
  · have hr := rk_lt hi
    rw [if_pos q, if_pos q, cl_ (by omega)]
    unfold aWay
    by_cases c : 0 ≤ y
    · rw [br_T c, if_pos c]
      obtain ⟨v', e, hs, hr', hF⟩ := frz_ok h hO
      refine ⟨v', ?_, hs⟩
      rw [e, bd_s, show nI i = enc (some i) from rfl]
      exact mway_loop hF hO y 14 FU _ _ (FU_big (by omega)) (fun x hx => by cases hx; exact ⟨hi, by omega⟩) (by omega)
    · rw [br_F c, if_neg c]; exact ⟨v, rfl, Same.rfl'⟩
  · rw [if_neg q', if_neg q']; exact ⟨v, rfl, Same.rfl'⟩
theorem way_c {v : CV} {w : FV} {S : SC} (h : RepC v S) (hF : FrF w S) (hO : OkC S) (x y : Int32) : f_X4_way v w x y = some (qWay S x y) := by
  have hn := hO.n
  unfold qWay
  rcases inN_cases x (n := s_n S) (by omega) with ⟨i, hi, rfl, q⟩ | ⟨q, q'⟩
  · rw [if_pos q, cl_ (by omega), way_ok h hF hO hi]
  · rw [if_neg q', way_no h q]
theorem mend_loop {v : MV} {S : SC} (hF : Frz v S) (hO : OkC S) : ∀ (d x fu : Nat), x < s_n S → s_n S - rk S x ≤ d → d < fu → f_X5_endOf_b2 v fu (nI x) = some (nI (en S d x)) := by
  have hn := hO.n
  intro d
  induction d with
  | zero => intro x fu h1 h2 h3; have := rk_lt h1; omega
  | succ d ih =>
    intro x fu h1 h2 h3
    obtain ⟨fu, rfl⟩ : ∃ z, fu = z + 1 := ⟨fu - 1, by omega⟩
    have hr := rk_lt h1
    rw [f_X5_endOf_b2]
    dsimp only
    rw [ck_in (by omega) (by omega), cl_ (by omega), hF.2.2.2 x h1, br_src hO]
    cases e : src S x with
    | none => rw [if_pos rfl, en_n e]
    | some f =>
      obtain ⟨r1, r2, r3, -⟩ := src_some hO e
      have r4 := rk_lt r1
      rw [if_neg (by simp), ck_in (by omega) (by omega), nm_s, en_f e]
      exact ih f fu r1 (by omega) (by omega)
theorem mend_ok {v : MV} {S : SC} (hF : Frz v S) (hO : OkC S) {x : Nat} (hx : x < s_n S) : f_X5_endOf v (nI x) = some (nI (en S (s_n S) x)) := by
  have hn := hO.n
  unfold f_X5_endOf
  exact mend_loop hF hO (s_n S) x FU hx (by omega) (FU_big (by omega))
noncomputable def qEnd (S : SC) (x : Int32) : Int32 := if inN (s_n S) x then nI (en S (s_n S) x.toNatClampNeg) else -2
theorem mendq_ok {v : MV} {S : SC} (h : RepM (M_ro v) S) (hO : OkC S) (x : Int32) : ∃ v', f_X5_end v x = some (qEnd S x, v') ∧ Same v v' := by
  have hn := hO.n
  unfold f_X5_end qEnd
  rw [isSec_ok h hO, bd_s, b1_ne]
  rcases inN_cases x (n := s_n S) (by omega) with ⟨i, hi, rfl, q⟩ | ⟨q, q'⟩
  · obtain ⟨v', e, hs, hr', hF⟩ := frz_ok h hO
    rw [if_pos q, if_pos q, cl_ (by omega), e, bd_s, mend_ok hF hO hi, bd_s]
    exact ⟨v', rfl, hs⟩
  · rw [if_neg q', if_neg q']; exact ⟨v, rfl, Same.rfl'⟩
theorem end_c {v : CV} {w : FV} {S : SC} (h : RepC v S) (hF : FrF w S) (hO : OkC S) (x : Int32) : f_X4_end v w x = some (qEnd S x) := by
  have hn := hO.n
  unfold qEnd
  rcases inN_cases x (n := s_n S) (by omega) with ⟨i, hi, rfl, q⟩ | ⟨q, q'⟩
  · rw [if_pos q, cl_ (by omega), end_ok h hF hO hi]
  · rw [if_neg q', end_no h q]
noncomputable def qGath (S : SC) (x : Int32) : Int32 := if inN (s_n S) x then nI (sm (gath S x.toNatClampNeg) (s_n S)) else -2
theorem mgath_ok {v : MV} {S : SC} (h : RepM (M_ro v) S) (hO : OkC S) (x : Int32) : ∃ v', f_X5_gathers v x = some (qGath S x, v') ∧ Same v v' := by
  have hn := hO.n
  unfold f_X5_gathers qGath
  rw [isSec_ok h hO, bd_s, b1_ne]
  rcases inN_cases x (n := s_n S) (by omega) with ⟨i, hi, rfl, q⟩ | ⟨q, q'⟩
  · obtain ⟨v', e, hs, hr', hF⟩ := frz_ok h hO
    rw [if_pos q, if_pos q, cl_ (by omega), e, bd_s]
    refine ⟨v', ?_, hs⟩
    refine (?_ : f_X5_gathers_b19 (nI i) FU v' (nI (sm (gath S i) 0)) (nI 0) = _)
    refine loop0 (fun fu x => f_X5_gathers_b19 (nI i) fu v' (nI (sm (gath S i) x)) (nI x)) (s_n S) _ (by omega) (fun fu x hx => ?_) (fun fu => ?_)
    · have he := en_lt hO (s_n S) x hx
      try dsimp only
      rw [f_X5_gathers_b19]
      dsimp only
      unfold f_X5_gathers_b48
      rw [ck0, z0, hr'.n, br_le _ _ (by omega) (by omega), if_neg (by omega), mend_ok hF hO hx, bd_s, br_eq _ _ (by omega) (by omega), sm_s]
      by_cases c : en S (s_n S) x = i
      · rw [if_pos c, mneed_ok hr' hO hx, bd_s, show gath S i x = fneed S x from if_pos c, nm_s, nm_s, nI_1, nI_add]
      · rw [if_neg c, show gath S i x = 0 from if_neg c, nm_s, nm_s, nI_1, show (0 : Int32) = nI 0 from rfl, nI_add]
    · try dsimp only
      rw [f_X5_gathers_b19]
      dsimp only
      rw [ck0, z0, hr'.n, br_le _ _ (by omega) (by omega), if_pos (by omega)]
  · rw [if_neg q', if_neg q']; exact ⟨v, rfl, Same.rfl'⟩
theorem gath_c {v : CV} {w : FV} {S : SC} (h : RepC v S) (hF : FrF w S) (hO : OkC S) (x : Int32) : f_X4_gathers v w x = some (qGath S x) := by
  have hn := hO.n
  unfold qGath
  rcases inN_cases x (n := s_n S) (by omega) with ⟨i, hi, rfl, q⟩ | ⟨q, q'⟩
  · rw [if_pos q, cl_ (by omega), gathers_ok h hF hO hi]
  · rw [if_neg q', gathers_no h q]
/-! lays and joins -/
def lay (r : AF) (n vo ar ch fe : Nat) : AF := upd (upd (upd (upd (upd r (4 + 4 * n) (nI vo)) (4 + 4 * n + 1) (nI ar)) (4 + 4 * n + 2) (nI ch)) (4 + 4 * n + 3) (nI fe)) 0 (nI (n + 1))
theorem lay_at {r : AF} {n vo ar ch fe x : Nat} : lay r n vo ar ch fe x = if x = 0 then nI (n + 1) else if x = 4 + 4 * n + 3 then nI fe else if x = 4 + 4 * n + 2 then nI ch else if x = 4 + 4 * n + 1 then nI ar else if x = 4 + 4 * n then nI vo else r x := rfl
theorem lay_n {r : AF} {n vo ar ch fe x : Nat} (h : x ≠ 0) (h' : x < 4 + 4 * n ∨ 4 + 4 * n + 4 ≤ x) : lay r n vo ar ch fe x = r x := by
  rw [lay_at, if_neg h, if_neg (by omega), if_neg (by omega), if_neg (by omega), if_neg (by omega)]
theorem lays_ok {v : MV} {S : SC} (h : RepM (M_ro v) S) (hO : OkC S) (hn : s_n S < 12) {vo ar ch fe : Nat} : f_X5_lays v (nI vo) (nI ar) (nI ch) (nI fe) = some (sr v (lay (M_ro v) (s_n S) vo ar ch fe)) ∧ RepM (lay (M_ro v) (s_n S) vo ar ch fe) (sApp S vo ar ch fe) ∧ ∀ x, 92 ≤ x → lay (M_ro v) (s_n S) vo ar ch fe x = M_ro v x := by
  have hm := hO.m
  refine ⟨?_, ?_, fun x hx => lay_n (by omega) (by omega)⟩
  · unfold f_X5_lays
    simp only [ck0, nm_s, z0, h.n]
    rw [show (4 : Int32) = nI 4 from rfl, lin, ck_in (by omega) (by omega), nI_1, ck_in (by omega) (by omega), show (2 : Int32) = nI 2 from rfl, show (3 : Int32) = nI 3 from rfl, nI_add, nI_add, ck_in (by omega) (by omega), ck_in (by omega) (by omega), cl_ (by omega), cl_ (by omega), cl_ (by omega), cl_ (by omega), upd_n (by omega), upd_n (by omega), upd_n (by omega), upd_n (by omega), h.n, nI_1]
    rfl
  · refine ⟨lay_at, (lay_n (by omega) (by omega)).trans h.m, (lay_n (by omega) (by omega)).trans h.sh, (lay_n (by omega) (by omega)).trans h.pi, fun i hi => ?_, fun i hi => ?_, fun i hi => ?_, fun i hi => ?_, fun j hj => (lay_n (by omega) ?_).trans (h.ja j hj), fun j hj => (lay_n (by omega) ?_).trans (h.jb j hj)⟩
    · have hi' : i < s_n S + 1 := hi
      show _ = nI (va_up (s_vo S) (s_n S) vo i)
      unfold va_up
      by_cases c : i = s_n S
      · rw [if_pos c, lay_at, if_neg (by omega), if_neg (by omega), if_neg (by omega), if_neg (by omega), if_pos (by omega)]
      · rw [if_neg c, lay_n (by omega) (by omega)]; exact h.vo i (by omega)
    · have hi' : i < s_n S + 1 := hi
      show _ = nI (va_up (s_ar S) (s_n S) ar i)
      unfold va_up
      by_cases c : i = s_n S
      · rw [if_pos c, lay_at, if_neg (by omega), if_neg (by omega), if_neg (by omega), if_pos (by omega)]
      · rw [if_neg c, lay_n (by omega) (by omega)]; exact h.ar i (by omega)
    · have hi' : i < s_n S + 1 := hi
      show _ = nI (va_up (s_ch S) (s_n S) ch i)
      unfold va_up
      by_cases c : i = s_n S
      · rw [if_pos c, lay_at, if_neg (by omega), if_neg (by omega), if_pos (by omega)]
      · rw [if_neg c, lay_n (by omega) (by omega)]; exact h.ch i (by omega)
    · have hi' : i < s_n S + 1 := hi
      show _ = nI (va_up (s_fe S) (s_n S) fe i)
      unfold va_up
      by_cases c : i = s_n S
      · rw [if_pos c, lay_at, if_neg (by omega), if_pos (by omega)]
      · rw [if_neg c, lay_n (by omega) (by omega)]; exact h.fe i (by omega)
    · omega
    · omega
def jn (r : AF) (m a b : Nat) : AF := upd (upd (upd r (52 + 2 * m) (nI a)) (52 + 2 * m + 1) (nI b)) 1 (nI (m + 1))
theorem jn_at {r : AF} {m a b x : Nat} : jn r m a b x = if x = 1 then nI (m + 1) else if x = 52 + 2 * m + 1 then nI b else if x = 52 + 2 * m then nI a else r x := rfl
theorem jn_n {r : AF} {m a b x : Nat} (h : x ≠ 1) (h' : x < 52 + 2 * m ∨ 52 + 2 * m + 2 ≤ x) : jn r m a b x = r x := by
  rw [jn_at, if_neg h, if_neg (by omega), if_neg (by omega)]
theorem joins_ok {v : MV} {S : SC} (h : RepM (M_ro v) S) (hO : OkC S) (hm : s_m S < 20) {a b : Nat} : f_X5_joins v (nI a) (nI b) = some (sr v (jn (M_ro v) (s_m S) a b)) ∧ RepM (jn (M_ro v) (s_m S) a b) (sLink S a b) ∧ ∀ x, 92 ≤ x → jn (M_ro v) (s_m S) a b x = M_ro v x := by
  have hn := hO.n
  refine ⟨?_, ?_, fun x hx => jn_n (by omega) (by omega)⟩
  · unfold f_X5_joins
    simp only [ck1, nm_s, z1, h.m]
    rw [show (52 : Int32) = nI 52 from rfl, show (2 : Int32) = nI 2 from rfl, lin, ck_in (by omega) (by omega), cl_ (by omega), upd_n (by omega), h.m, lin, nI_1, ck_in (by omega) (by omega), cl_ (by omega), upd_n (by omega), upd_n (by omega), h.m, nI_1]
    rfl
  · refine ⟨(jn_n (by omega) (by omega)).trans h.n, jn_at, (jn_n (by omega) (by omega)).trans h.sh, (jn_n (by omega) (by omega)).trans h.pi, fun i hi => (jn_n (by omega) ?_).trans (h.vo i hi), fun i hi => (jn_n (by omega) ?_).trans (h.ar i hi), fun i hi => (jn_n (by omega) ?_).trans (h.ch i hi), fun i hi => (jn_n (by omega) ?_).trans (h.fe i hi), fun j hj => ?_, fun j hj => ?_⟩
    · have hi' : i < s_n S := hi
      omega
    · have hi' : i < s_n S := hi
      omega
    · have hi' : i < s_n S := hi
      omega
    · have hi' : i < s_n S := hi
      omega
    · have hj' : j < s_m S + 1 := hj
      show _ = nI (va_up (s_ja S) (s_m S) a j)
      unfold va_up
      by_cases c : j = s_m S
      · rw [if_pos c, jn_at, if_neg (by omega), if_neg (by omega), if_pos (by omega)]
      · rw [if_neg c, jn_n (by omega) (by omega)]; exact h.ja j (by omega)
    · have hj' : j < s_m S + 1 := hj
      show _ = nI (va_up (s_jb S) (s_m S) b j)
      unfold va_up
      by_cases c : j = s_m S
      · rw [if_pos c, jn_at, if_neg (by omega), if_pos (by omega)]
      · rw [if_neg c, jn_n (by omega) (by omega)]; exact h.jb j (by omega)
theorem sr_sr {v : MV} {a b : AF} : sr (sr v a) b = sr v b := rfl
/-! with a feeder more -/
theorem msw_ok {v : MV} {σ : ST} (hR : RelM v σ) (h : OkT σ) (hn : s_n (t_S σ) < 12) (hm : s_m (t_S σ) < 20) {i k : Nat} (hi : i < s_n (t_S σ)) (hk : 1 ≤ k ∧ k ≤ 15) : ∃ v', f_X5_isSoundWith v (nI k) (nI i) = some (if exAll (trial (t_S σ) i k) = 0 then 1 else 0, v') ∧ RelM v' σ := by
  have hk5 := h.k
  have hO := h.S
  have hT := trial_ok hO hn hm hi hk
  have hx : exAll (sLink (sApp (t_S σ) (k * k * k) (5 * k * k) 0 1) i (s_n (t_S σ))) ≤ 49152000 := exAll_small hT
  have k1 : RepK (cpd (M_ro v) 0 6 92) 6 (t_S σ) := cpd_to (repK_0.mpr hR.r) hO
  have k2 : RepM (cpd (M_ro v) 0 6 92) (t_S σ) := repK_0.mp (cpd_else (by omega) (repK_0.mpr hR.r) hO)
  have k3 : HistM (cpd (M_ro v) 0 6 92) (t_k σ) (t_h σ) := fun t ht => cpd_else (by omega) (hR.h t ht) (h.h t ht)
  obtain ⟨e2, r2, o2⟩ := lays_ok (v := sr v (cpd (M_ro v) 0 6 92)) k2 hO hn (vo := k * k * k) (ar := 5 * k * k) (ch := 0) (fe := 1)
  generalize hl : lay (M_ro (sr v (cpd (M_ro v) 0 6 92))) (s_n (t_S σ)) (k * k * k) (5 * k * k) 0 1 = L at e2 r2 o2
  obtain ⟨e3, r3, o3⟩ := joins_ok (v := sr v L) r2 (trialA_ok hO hn hk) hm (a := i) (b := s_n (t_S σ))
  generalize hj : jn (M_ro (sr v L)) (s_m (sApp (t_S σ) (k * k * k) (5 * k * k) 0 1)) i (s_n (t_S σ)) = J at e3 r3 o3
  obtain ⟨v9, e4, hs, r4, hF⟩ := excs_ok (v := sr v J) r3 hT
  rw [sr_sr] at e2 e3
  have hJ : ∀ x, 92 ≤ x → J x = cpd (M_ro v) 0 6 92 x := fun x hx => (o3 x hx).trans (o2 x hx)
  have hro : M_ro v9 = J := hs.1
  have k4 : RepK J 6 (t_S σ) := by
    have : shf J (92 * 6) = shf (cpd (M_ro v) 0 6 92) (92 * 6) := by
      funext x
      exact hJ _ (by omega)
    show RepM (shf J (92 * 6)) _
    rw [this]
    exact k1
  have k5 : HistM J (t_k σ) (t_h σ) := k3.congr hJ
  have fin : RelM (sr v9 (cpd (M_ro v9) 6 0 92)) σ := by
    rw [hro]
    obtain ⟨-, s2, s3, s4, -⟩ := hs
    refine ⟨repK_0.mp (cpd_to k4 hO), s2.trans hR.sa, fun t ht => cpd_else (by omega) (k5 t ht) (h.h t ht), s4.trans hR.le, ?_⟩
    show ∀ i, i < t_L σ → M_tx v9 i = t_c σ i
    rw [s3]
    exact hR.tx
  refine ⟨sr v9 (cpd (M_ro v9) 6 0 92), ?_, fin⟩
  unfold f_X5_isSoundWith f_X5_isSoundWith_b48
  rw [show (0 : Int32) = nI 0 from rfl, show (6 : Int32) = nI 6 from rfl, copies_ok (by omega) (by omega), bd_s, pk_mul, pk_mul, show (5 : Int32) = nI 5 from rfl, pk_mul, pk_mul, show (1 : Int32) = nI 1 from rfl, e2, bd_s, show ck (vp_in (nI 0) 644) = ck (vp_in (0 : Int32) 644) from rfl, ck0, cl_ (by omega), show M_ro (sr v L) 0 = nI (s_n (t_S σ) + 1) from r2.n, show (nI (s_n (t_S σ) + 1) - nI 1 : Int32) = nI (s_n (t_S σ)) from nI_pred _, e3, bd_s, e4, bd2_s, copies_ok (by omega) (by omega), bd_s, ck_t (show nI 1 = nI 0 ∨ nI 1 = nI 1 from Or.inr rfl), bd_s, ck_t (show nI 0 = nI 0 ∨ nI 0 = nI 1 from Or.inl rfl), br_eq _ _ (by omega) (by omega)]
  by_cases c : exAll (trial (t_S σ) i k) = 0
  · rw [if_pos c, if_pos (show exAll (sLink (sApp (t_S σ) (k * k * k) (5 * k * k) 0 1) i (s_n (t_S σ))) = 0 from c)]
  · rw [if_neg c, if_neg (show ¬ exAll (sLink (sApp (t_S σ) (k * k * k) (5 * k * k) 0 1) i (s_n (t_S σ))) = 0 from c)]
theorem mfull_ok {v : MV} {S : SC} (h : RepM (M_ro v) S) (hO : OkC S) : f_X5_isFull v = some (if s_n S < 12 ∧ s_m S < 20 then 0 else 1) := by
  have hn := hO.n
  have hm := hO.m
  unfold f_X5_isFull f_X5_isFull_b22
  rw [ck0, z0, h.n, show (12 : Int32) = nI 12 from rfl, br_eq _ _ (by omega) (by omega), ck1, z1, h.m, show (20 : Int32) = nI 20 from rfl, br_eq _ _ (by omega) (by omega)]
  by_cases c1 : s_n S = 12
  · rw [if_pos c1, if_neg (by omega)]
  · by_cases c2 : s_m S = 20
    · rw [if_neg c1, if_pos c2, if_neg (by omega)]
    · rw [if_neg c1, if_neg c2, if_pos (by omega)]
theorem mlf_loop {σ : ST} (h : OkT σ) (hn : s_n (t_S σ) < 12) (hm : s_m (t_S σ) < 20) {i : Nat} (hi : i < s_n (t_S σ)) : ∀ (d k fu : Nat) (v : MV), RelM v σ → 1 ≤ k → k + d = 16 → d < fu → ∃ v', f_X5_leastFeeder_b23 (nI i) fu v (nI k) = some (lf (t_S σ) i d k, v') ∧ RelM v' σ := by
  intro d
  induction d with
  | zero =>
    intro k fu v hR h0 h1 h2
    obtain ⟨fu, rfl⟩ : ∃ z, fu = z + 1 := ⟨fu - 1, by omega⟩
    rw [f_X5_leastFeeder_b23]
    dsimp only
    unfold f_X5_leastFeeder_b44
    rw [show (15 : Int32) = nI 15 from rfl, br_lt _ _ (by omega) (by omega), if_pos (by omega), br_lt _ _ (by omega) (by omega), if_pos (by omega)]
    exact ⟨v, rfl, hR⟩
  | succ d ih =>
    intro k fu v hR h0 h1 h2
    obtain ⟨fu, rfl⟩ : ∃ z, fu = z + 1 := ⟨fu - 1, by omega⟩
    obtain ⟨v', e, hR'⟩ := msw_ok hR h hn hm hi (k := k) ⟨h0, by omega⟩
    rw [f_X5_leastFeeder_b23]
    dsimp only
    unfold f_X5_leastFeeder_b44 lf
    rw [show (15 : Int32) = nI 15 from rfl, br_lt _ _ (by omega) (by omega), if_neg (by omega), e, bd2_s, b1_ne, br_lt _ _ (by omega) (by omega), if_neg (show ¬ 15 < k from by omega)]
    by_cases c : exAll (trial (t_S σ) i k) = 0
    · rw [if_pos c, if_pos c]; exact ⟨v', rfl, hR'⟩
    · rw [if_neg c, if_neg c, nm_s, nI_1]
      exact ih (k + 1) fu v' hR' (by omega) (by omega) (by omega)
noncomputable def qLF (S : SC) (x : Int32) : Int32 := if inN (s_n S) x then aLF S x.toNatClampNeg else -2
theorem b0_ne {c : Prop} [Decidable c] {α : Type} {p q : Option α} : br ((if c then (0 : Int32) else 1) = 0) p q = if c then p else q := by
  by_cases h : c
  · rw [if_pos h, if_pos h, br_T rfl]
  · rw [if_neg h, if_neg h, br_F (by decide)]
theorem mlf_ok {v : MV} {σ : ST} (hR : RelM v σ) (h : OkT σ) (x : Int32) : ∃ v', f_X5_leastFeeder v x = some (qLF (t_S σ) x, v') ∧ RelM v' σ := by
  have hn := h.S.n
  unfold f_X5_leastFeeder qLF
  rw [isSec_ok hR.r h.S, bd_s, b1_ne, mfull_ok hR.r h.S, bd_s, b0_ne]
  rcases inN_cases x (n := s_n (t_S σ)) (by omega) with ⟨i, hi, rfl, q⟩ | ⟨q, q'⟩
  · rw [if_pos q, if_pos q, cl_ (by omega)]
    unfold aLF
    by_cases c : s_n (t_S σ) < 12 ∧ s_m (t_S σ) < 20
    · rw [if_pos c, if_pos c]
      exact mlf_loop h c.1 c.2 hi 15 1 FU v hR (by omega) (by omega) (FU_big (by omega))
    · rw [if_neg c, if_neg c]; exact ⟨v, rfl, hR⟩
  · rw [if_neg q', if_neg q']; exact ⟨v, rfl, hR⟩
theorem lf_c {v vr : CV} {vd : FV} {S : SC} (h : RepC v S) (hO : OkC S) (x : Int32) : ∃ vr' vd', f_X4_leastFeeder v vr vd x = some (qLF S x, vr', vd') := by
  have hn := hO.n
  unfold qLF
  rcases inN_cases x (n := s_n S) (by omega) with ⟨i, hi, rfl, q⟩ | ⟨q, q'⟩
  · rw [if_pos q, cl_ (by omega)]; exact leastFeeder_ok h hO hi
  · rw [if_neg q', leastFeeder_no h q]; exact ⟨vr, vd, rfl⟩
theorem mbi_loop {σ : ST} (h : OkT σ) (hn : s_n (t_S σ) < 12) (hm : s_m (t_S σ) < 20) {k : Nat} (hk : 1 ≤ k ∧ k ≤ 15) (k12 : MV → Int32 → Option (Int32 × MV)) : ∀ (d x fu : Nat) (v : MV), RelM v σ → x + d = s_n (t_S σ) → d < fu → ∃ v', f_X5_bestFeeder_b20 k12 (nI k) fu v (nI x) = (match bi (t_S σ) k d x with | some r => some (r, v') | none => k12 v' (nI (k + 1))) ∧ RelM v' σ := by
  intro d
  induction d with
  | zero =>
    intro x fu v hR h1 h2
    obtain ⟨fu, rfl⟩ : ∃ z, fu = z + 1 := ⟨fu - 1, by omega⟩
    rw [f_X5_bestFeeder_b20]
    dsimp only
    rw [ck0, z0, hR.r.n, br_le _ _ (by omega) (by omega), if_pos (by omega), nm_s, nI_1]
    exact ⟨v, rfl, hR⟩
  | succ d ih =>
    intro x fu v hR h1 h2
    obtain ⟨fu, rfl⟩ : ∃ z, fu = z + 1 := ⟨fu - 1, by omega⟩
    obtain ⟨v', e, hR'⟩ := msw_ok hR h hn hm (i := x) (by omega) hk
    rw [f_X5_bestFeeder_b20]
    dsimp only
    unfold bi
    rw [ck0, z0, hR.r.n, br_le _ _ (by omega) (by omega), if_neg (by omega), e, bd2_s, b1_ne]
    by_cases c : exAll (trial (t_S σ) x k) = 0
    · rw [if_pos c, if_pos c]; exact ⟨v', rfl, hR'⟩
    · rw [if_neg c, if_neg c, nm_s, nI_1]
      exact ih (x + 1) fu v' hR' (by omega) (by omega)
theorem mbo_loop {σ : ST} (h : OkT σ) (hn : s_n (t_S σ) < 12) (hm : s_m (t_S σ) < 20) : ∀ (d k fu : Nat) (v : MV), RelM v σ → 1 ≤ k → k + d = 16 → d < fu → ∃ v', f_X5_bestFeeder_b12 fu v (nI k) = some (bo (t_S σ) d k, v') ∧ RelM v' σ := by
  intro d
  induction d with
  | zero =>
    intro k fu v hR h0 h1 h2
    obtain ⟨fu, rfl⟩ : ∃ z, fu = z + 1 := ⟨fu - 1, by omega⟩
    rw [f_X5_bestFeeder_b12]
    dsimp only
    rw [show (15 : Int32) = nI 15 from rfl, br_lt _ _ (by omega) (by omega), if_pos (by omega)]
    exact ⟨v, rfl, hR⟩
  | succ d ih =>
    intro k fu v hR h0 h1 h2
    obtain ⟨fu, rfl⟩ : ∃ z, fu = z + 1 := ⟨fu - 1, by omega⟩
    obtain ⟨v', e, hR'⟩ := mbi_loop h hn hm (k := k) ⟨h0, by omega⟩ (f_X5_bestFeeder_b12 fu) (s_n (t_S σ)) 0 FU v hR (by omega) (FU_big (by omega))
    rw [f_X5_bestFeeder_b12]
    dsimp only
    rw [show (15 : Int32) = nI 15 from rfl, br_lt _ _ (by omega) (by omega), if_neg (by omega), show (0 : Int32) = nI 0 from rfl, e]
    cases q : bi (t_S σ) k (s_n (t_S σ)) 0 with
    | some r => rw [bo_s q]; exact ⟨v', rfl, hR'⟩
    | none => rw [bo_n q]; exact ih (k + 1) fu v' hR' (by omega) (by omega) (by omega)
theorem mbf_ok {v : MV} {σ : ST} (hR : RelM v σ) (h : OkT σ) : ∃ v', f_X5_bestFeeder v = some (aBF (t_S σ), v') ∧ RelM v' σ := by
  unfold f_X5_bestFeeder aBF
  rw [mfull_ok hR.r h.S, bd_s, b0_ne]
  by_cases c : s_n (t_S σ) < 12 ∧ s_m (t_S σ) < 20
  · rw [if_pos c, if_pos c]
    exact mbo_loop h c.1 c.2 15 1 FU v hR (by omega) (by omega) (FU_big (by omega))
  · rw [if_neg c, if_neg c]; exact ⟨v, rfl, hR⟩
/-! with another chill -/
theorem rep_mchill {r : AF} {S : SC} (h : RepM r S) (hO : OkC S) {i a : Nat} (hi : i < s_n S) : RepM (upd r (4 + 4 * i + 2) (nI a)) (sChill S i a) := by
  have hn := hO.n
  have hm := hO.m
  refine ⟨(upd_n (by omega)).trans h.n, (upd_n (by omega)).trans h.m, (upd_n (by omega)).trans h.sh, (upd_n (by omega)).trans h.pi, fun j hj => (upd_n (by omega)).trans (h.vo j hj), fun j hj => (upd_n (by omega)).trans (h.ar j hj), fun j hj => ?_, fun j hj => (upd_n (by omega)).trans (h.fe j hj), fun j hj => (upd_n (by omega)).trans (h.ja j hj), fun j hj => (upd_n (by omega)).trans (h.jb j hj)⟩
  show _ = nI (va_up (s_ch S) i a j)
  unfold va_up
  by_cases c : j = i
  · rw [if_pos c, c, upd_s]
  · rw [if_neg c, upd_n (by omega)]; exact h.ch j hj
theorem mxw_ok {v : MV} {σ : ST} (hR : RelM v σ) (h : OkT σ) {i a : Nat} (hi : i < s_n (t_S σ)) (ha : a ≤ 500) : ∃ v', f_X5_excessesWith v (nI i) (nI a) = some (nI (exAll (sChill (t_S σ) i a)), v') ∧ RelM v' σ := by
  have hn := h.S.n
  have hC := sChill_ok h.S (i := i) ha
  have hr := rep_mchill hR.r h.S (a := a) hi
  obtain ⟨v7, e, hs, r7, hF⟩ := excs_ok (v := sr v (upd (M_ro v) (4 + 4 * i + 2) (nI a))) hr hC
  have hro : upd (M_ro v7) (4 + 4 * i + 2) (nI (s_ch (t_S σ) i)) = M_ro v := by
    rw [hs.1, ← hR.r.ch i hi]
    show upd (upd (M_ro v) (4 + 4 * i + 2) (nI a)) (4 + 4 * i + 2) (M_ro v (4 + 4 * i + 2)) = M_ro v
    rw [upd_upd, upd_self]
  refine ⟨sr v7 (M_ro v), ?_, ?_⟩
  · unfold f_X5_excessesWith
    rw [of2 hR.r h.S hi, bd_s, show (4 : Int32) = nI 4 from rfl, lin, show (2 : Int32) = nI 2 from rfl, nI_add, nm_s, ck_in (by omega) (by omega), nm_s, cl_ (by omega)]
    rw [show ((upd (M_ro v) (4 + 4 * i + 2) (nI a), M_sa v, M_od v, M_st v, M_ne v, M_fd v, M_tx v, M_le v, M_at v, M_nu v, M_it v, M_h v) : MV) = sr v (upd (M_ro v) (4 + 4 * i + 2) (nI a)) from rfl, e, bd2_s, nm_s, ck_in (by omega) (by omega), nm_s, cl_ (by omega), hro]
    rfl
  · obtain ⟨-, s2, s3, s4, -⟩ := hs
    refine ⟨hR.r, s2.trans hR.sa, hR.h, s4.trans hR.le, ?_⟩
    show ∀ i, i < t_L σ → M_tx v7 i = t_c σ i
    rw [s3]
    exact hR.tx
noncomputable def qXW (S : SC) (x y : Int32) : Int32 := if inN (s_n S) x then (if 0 ≤ y ∧ y ≤ 500 then nI (exAll (sChill S x.toNatClampNeg y.toNatClampNeg)) else -3) else -2
theorem mexw_ok {v : MV} {σ : ST} (hR : RelM v σ) (h : OkT σ) (x y : Int32) : ∃ v', f_X5_excessWith v x y = some (qXW (t_S σ) x y, v') ∧ RelM v' σ := by
  have hn := h.S.n
  unfold f_X5_excessWith qXW
  rw [isSec_ok hR.r h.S, bd_s, b1_ne, in_ok, bd_s, b1_ne]
  rcases inN_cases x (n := s_n (t_S σ)) (by omega) with ⟨i, hi, rfl, q⟩ | ⟨q, q'⟩
  · rw [if_pos q, if_pos q, cl_ (n := i) (by omega)]
    by_cases c : 0 ≤ y ∧ y ≤ 500
    · rw [if_pos c, if_pos c]
      obtain ⟨a, ha, rfl⟩ := dig (b := 500) (by omega) c
      obtain ⟨v', e, hR'⟩ := mxw_ok hR h hi ha
      rw [e, bd2_s, cl_ (by omega)]
      exact ⟨v', rfl, hR'⟩
    · rw [if_neg c, if_neg c]; exact ⟨v, rfl, hR⟩
  · rw [if_neg q', if_neg q']; exact ⟨v, rfl, hR⟩
theorem xw_c {v vr : CV} {vd : FV} {S : SC} (h : RepC v S) (hO : OkC S) (x y : Int32) : ∃ vr' vd', f_X4_excessWith v vr vd x y = some (qXW S x y, vr', vd') := by
  have hn := hO.n
  unfold qXW
  rcases inN_cases x (n := s_n S) (by omega) with ⟨i, hi, rfl, q⟩ | ⟨q, q'⟩
  · rw [if_pos q, cl_ (n := i) (by omega)]; exact excessWith_ok h hO hi y
  · rw [if_neg q', excessWith_no h q]; exact ⟨vr, vd, rfl⟩
theorem mlc_loop {σ : ST} (h : OkT σ) {i : Nat} (hi : i < s_n (t_S σ)) : ∀ (d c fu : Nat) (v : MV), RelM v σ → c + d = 501 → d < fu → ∃ v', f_X5_leastChill_b13 (nI i) fu v (nI c) = some (lc (t_S σ) i d c, v') ∧ RelM v' σ := by
  intro d
  induction d with
  | zero =>
    intro c fu v hR h1 h2
    obtain ⟨fu, rfl⟩ : ∃ z, fu = z + 1 := ⟨fu - 1, by omega⟩
    rw [f_X5_leastChill_b13]
    dsimp only
    unfold f_X5_leastChill_b35
    rw [show (500 : Int32) = nI 500 from rfl, br_lt _ _ (by omega) (by omega), if_pos (by omega), br_lt _ _ (by omega) (by omega), if_pos (by omega)]
    exact ⟨v, rfl, hR⟩
  | succ d ih =>
    intro c fu v hR h1 h2
    obtain ⟨fu, rfl⟩ : ∃ z, fu = z + 1 := ⟨fu - 1, by omega⟩
    have hx := exAll_small (sChill_ok h.S (i := i) (a := c) (by omega))
    obtain ⟨v', e, hR'⟩ := mxw_ok hR h hi (a := c) (by omega)
    rw [f_X5_leastChill_b13]
    dsimp only
    unfold f_X5_leastChill_b35 lc
    rw [show (500 : Int32) = nI 500 from rfl, br_lt _ _ (by omega) (by omega), if_neg (by omega), e, bd2_s, br_le0 _ (by omega), br_lt _ _ (by omega) (by omega), if_neg (show ¬ 500 < c from by omega)]
    by_cases z : exAll (sChill (t_S σ) i c) = 0
    · rw [if_pos z, if_pos z]; exact ⟨v', rfl, hR'⟩
    · rw [if_neg z, if_neg z, nm_s, nI_1]
      exact ih (c + 1) fu v' hR' (by omega) (by omega)
noncomputable def qLC (S : SC) (x : Int32) : Int32 := if inN (s_n S) x then lc S x.toNatClampNeg 501 0 else -2
theorem mlc_ok {v : MV} {σ : ST} (hR : RelM v σ) (h : OkT σ) (x : Int32) : ∃ v', f_X5_leastChill v x = some (qLC (t_S σ) x, v') ∧ RelM v' σ := by
  have hn := h.S.n
  unfold f_X5_leastChill qLC
  rw [isSec_ok hR.r h.S, bd_s, b1_ne]
  rcases inN_cases x (n := s_n (t_S σ)) (by omega) with ⟨i, hi, rfl, q⟩ | ⟨q, q'⟩
  · rw [if_pos q, if_pos q, cl_ (by omega)]
    exact mlc_loop h hi 501 0 FU v hR (by omega) (FU_big (by omega))
  · rw [if_neg q', if_neg q']; exact ⟨v, rfl, hR⟩
theorem lc_c {v vr : CV} {vd : FV} {S : SC} (h : RepC v S) (hO : OkC S) (x : Int32) : ∃ vr' vd', f_X4_leastChill v vr vd x = some (qLC S x, vr', vd') := by
  have hn := hO.n
  unfold qLC
  rcases inN_cases x (n := s_n S) (by omega) with ⟨i, hi, rfl, q⟩ | ⟨q, q'⟩
  · rw [if_pos q, cl_ (by omega)]; exact leastChill_ok h hO hi
  · rw [if_neg q', leastChill_no h q]; exact ⟨vr, vd, rfl⟩
