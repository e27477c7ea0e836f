/-! ===== 37: the program's questions that try something; modulus; digest ===== -/
/-! modulus -/
theorem md {a b : Nat} (ha : a < 2 ^ 31) (hb : b < 2 ^ 31) (h : 0 < b) : nI a - nI a / nI b * nI b = nI (a % b) := by
  have h1 : a / b * b ≤ a := Nat.div_mul_le_self a b
  have h2 := Nat.div_add_mod a b
  have h3 : b * (a / b) = a / b * b := Nat.mul_comm _ _
  rw [pk_div ha h hb, pk_mul, pk_sub h1]
  congr 1
  omega
theorem gcd_s {a b : Nat} : Nat.gcd a b = Nat.gcd b (a % b) := by
  rw [Nat.gcd_comm a b, Nat.gcd_rec b a, Nat.gcd_comm]
theorem mod_half {b r : Nat} (h0 : 0 < r) (h : r < b) : 2 * (b % r) < b := by
  have h1 := Nat.mod_lt b h0
  by_cases c : 2 * r ≤ b
  · omega
  · have : b % r = b - r := by
      rw [Nat.mod_eq_sub_mod (by omega), Nat.mod_eq_of_lt (by omega)]
    omega
theorem gcd_loop : ∀ (e a b fu t : Nat), b < 2 ^ e → t + 2 * e + 1 ≤ 1000 → 2 * e + 1 < fu → a ≤ 5500 → b ≤ 5500 → f_X4_commonDivisor_b7 fu (nI a) (nI b) (nI t) = some (nI (Nat.gcd a b)) := by
  intro e
  induction e with
  | zero =>
    intro a b fu t h1 h2 h3 h4 h5
    obtain ⟨fu, rfl⟩ : ∃ z, fu = z + 1 := ⟨fu - 1, by omega⟩
    obtain rfl : b = 0 := by omega
    rw [f_X4_commonDivisor_b7]
    dsimp only
    rw [show (1000 : Int32) = nI 1000 from rfl, br_le _ _ (by omega) (by omega), if_neg (by omega), br_z _ (by omega), if_pos rfl, Nat.gcd_zero_right]
  | succ e ih =>
    intro a b fu t h1 h2 h3 h4 h5
    obtain ⟨fu, rfl⟩ : ∃ z, fu = z + 1 + 1 := ⟨fu - 2, by omega⟩
    rw [f_X4_commonDivisor_b7]
    dsimp only
    rw [show (1000 : Int32) = nI 1000 from rfl, br_le _ _ (by omega) (by omega), if_neg (by omega), br_z _ (by omega)]
    by_cases c : b = 0
    · rw [if_pos c, c, Nat.gcd_zero_right]
    · have m1 := Nat.mod_lt a (by omega : 0 < b)
      rw [if_neg c, ck_n c (by omega), md (by omega) (by omega) (by omega), nm_s, nm_s, nI_1, f_X4_commonDivisor_b7]
      dsimp only
      rw [show (1000 : Int32) = nI 1000 from rfl, br_le _ _ (by omega) (by omega), if_neg (by omega), br_z _ (by omega), gcd_s]
      by_cases d : a % b = 0
      · rw [if_pos d, d, Nat.gcd_zero_right]
      · have m2 := mod_half (by omega : 0 < a % b) m1
        have m3 : 2 ^ (e + 1) = 2 * 2 ^ e := by rw [Nat.pow_succ, Nat.mul_comm]
        rw [if_neg d, ck_n d (by omega), md (by omega) (by omega) (by omega), nm_s, nm_s, nI_1, gcd_s]
        exact ih _ _ fu _ (by omega) (by omega) (by omega) (by omega) (by omega)
def aMod (S : SC) (i : Nat) (y : Int32) : Int32 := if y = 0 then nI (s_vo S i / Nat.gcd (s_vo S i) (s_ar S i + s_ch S i)) else nI ((s_ar S i + s_ch S i) / Nat.gcd (s_vo S i) (s_ar S i + s_ch S i))
theorem modulus_ok {v : CV} {S : SC} (h : RepC v S) (hO : OkC S) {i : Nat} (hi : i < s_n S) (y : Int32) : f_X4_modulus v (nI i) y = some (aMod S i y) := by
  have hn := hO.n
  have hv := hO.vo hi
  have ha := hO.ar hi
  have hc := hO.ch hi
  have g1 : 0 < Nat.gcd (s_vo S i) (s_ar S i + s_ch S i) := Nat.gcd_pos_of_pos_left _ (by omega)
  have g2 : Nat.gcd (s_vo S i) (s_ar S i + s_ch S i) ≤ s_vo S i := Nat.gcd_le_left _ (by omega)
  unfold f_X4_modulus aMod f_X4_commonDivisor
  rw [has_yes h hO hi, bd_s, br_F (by decide), at_in (by omega) (by omega), bd_s, h.vo i hi, cooled_ok h hO hi, bd_s]
  rw [show (0 : Int32) = nI 0 from rfl, gcd_loop 13 _ _ FU 0 (by omega) (by omega) (FU_big (by omega)) (by omega) (by omega), bd_s]
  unfold f_X4_modulus_b54
  rw [br_le0 _ (by omega), br_le0 _ (by omega), if_neg (by omega), if_neg (by omega), ck_n (by omega) (by omega), ck_n (by omega) (by omega), pk_div (by omega) g1 (by omega), pk_div (by omega) g1 (by omega)]
  by_cases c : y = nI 0
  · rw [br_T c, if_pos c]
  · rw [br_F c, if_neg c]
theorem modulus_no {v : CV} {S : SC} (h : RepC v S) {x y : Int32} (hx : outN (s_n S) x) : f_X4_modulus v x y = some (-2) := by
  unfold f_X4_modulus
  rw [has_no h hx, bd_s, br_T rfl]
/-! digest -/
noncomputable def dgc (S : SC) : Nat → Int64
  | 0 => 17
  | k + 1 => 31 * dgc S k + (nI (qCount S k)).toInt64
noncomputable def dgs (S : SC) (i : Nat) (h : Int64) : Nat → Int64
  | 0 => h
  | k + 1 => 31 * dgs S i h k + (qSec S i k).toInt64
noncomputable def dgS (S : SC) : Nat → Int64
  | 0 => dgc S 10
  | i + 1 => dgs S i (dgS S i) 11
noncomputable def dgJ (S : SC) : Nat → Int64
  | 0 => dgS S (s_n S)
  | j + 1 => 31 * (31 * dgJ S j + (nI (s_ja S j)).toInt64) + (nI (s_jb S j)).toInt64
noncomputable def dig_ (S : SC) : Int64 := dgJ S (s_m S)
theorem aCount_in {S : SC} {k : Nat} (hk : k < 10) : aCount S (nI k) = nI (qCount S k) := by
  unfold aCount
  rw [cl_ (by omega), if_pos ⟨nI_pos' (by omega), nI_le (b := 9) (by omega) (by omega)⟩]
theorem aSec_in {S : SC} {i k : Nat} (hk : k < 11) : aSec S i (nI k) = qSec S i k := by
  unfold aSec
  rw [cl_ (by omega), if_pos ⟨nI_pos' (by omega), nI_le (b := 10) (by omega) (by omega)⟩]
theorem digJ_ok {v : CV} {w : FV} {S : SC} (h : RepC v S) (hO : OkC S) : f_X4_digest_b83 v w FU (dgJ S 0) (nI 0) = some (dig_ S) := by
  have hm := hO.m
  refine loop0 (fun fu j => f_X4_digest_b83 v w fu (dgJ S j) (nI j)) (s_m S) _ (by omega) (fun fu j hj => ?_) (fun fu => ?_)
  · try dsimp only
    rw [f_X4_digest_b83]
    dsimp only
    rw [h.jo, br_le _ _ (by omega) (by omega), if_neg (by omega), joint_ok h hO hj, bd_s, nm_s, joint_ok h hO hj, bd_s, nm_s, nm_s, nI_1]
    rfl
  · try dsimp only
    rw [f_X4_digest_b83]
    dsimp only
    rw [h.jo, br_le _ _ (by omega) (by omega), if_pos (by omega)]
    rfl
theorem digS_in {v : CV} {w : FV} {S : SC} (h : RepC v S) (hF : FrF w S) (hO : OkC S) {i : Nat} (hi : i < s_n S) (k33 : Int64 → Int32 → Option Int64) (a : Int64) : f_X4_digest_b47 k33 v w (nI i) FU (dgs S i a 0) (nI 0) = k33 (dgs S i a 11) (nI (i + 1)) := by
  refine loop0 (fun fu k => f_X4_digest_b47 k33 v w (nI i) fu (dgs S i a k) (nI k)) 11 _ (by omega) (fun fu k hk => ?_) (fun fu => ?_)
  · try dsimp only
    rw [f_X4_digest_b47]
    dsimp only
    rw [show (11 : Int32) = nI 11 from rfl, br_le _ _ (by omega) (by omega), if_neg (by omega), section_ok h hF hO hi, bd_s, nm_s, nm_s, nI_1, aSec_in hk]
    rfl
  · try dsimp only
    rw [f_X4_digest_b47]
    dsimp only
    rw [show (11 : Int32) = nI 11 from rfl, br_le _ _ (by omega) (by omega), if_pos (by omega), nm_s, nI_1]
theorem digS_ok {v : CV} {w : FV} {S : SC} (h : RepC v S) (hF : FrF w S) (hO : OkC S) : f_X4_digest_b33 v w FU (dgS S 0) (nI 0) = some (dig_ S) := by
  have hn := hO.n
  refine loop0 (fun fu i => f_X4_digest_b33 v w fu (dgS S i) (nI i)) (s_n S) _ (by omega) (fun fu i hi => ?_) (fun fu => ?_)
  · try dsimp only
    rw [f_X4_digest_b33]
    dsimp only
    rw [h.se, br_le _ _ (by omega) (by omega), if_neg (by omega)]
    exact digS_in h hF hO hi _ _
  · try dsimp only
    rw [f_X4_digest_b33]
    dsimp only
    rw [h.se, br_le _ _ (by omega) (by omega), if_pos (by omega)]
    exact digJ_ok h hO
theorem digest_ok {v : CV} {w : FV} {S : SC} (h : RepC v S) (hF : FrF w S) (hO : OkC S) : f_X4_digest v w = some (dig_ S) := by
  unfold f_X4_digest
  refine loop0 (fun fu k => f_X4_digest_b6 v w fu (dgc S k) (nI k)) 10 _ (by omega) (fun fu k hk => ?_) (fun fu => ?_)
  · try dsimp only
    rw [f_X4_digest_b6]
    dsimp only
    rw [show (10 : Int32) = nI 10 from rfl, br_le _ _ (by omega) (by omega), if_neg (by omega), count_ok h hF hO, bd_s, nm_s, nm_s, nI_1, aCount_in hk]
    rfl
  · try dsimp only
    rw [f_X4_digest_b6]
    dsimp only
    rw [show (10 : Int32) = nI 10 from rfl, br_le _ _ (by omega) (by omega), if_pos (by omega)]
    exact digS_ok h hF hO
/-! a feeder more -/
def trial (S : SC) (i k : Nat) : SC := sLink (sApp S (k * k * k) (5 * k * k) 0 1) i (s_n S)
theorem cube {k : Nat} (h : 1 ≤ k ∧ k ≤ 15) : (1 ≤ k * k * k ∧ k * k * k ≤ 5000) ∧ (1 ≤ 5 * k * k ∧ 5 * k * k ≤ 5000) := by
  obtain ⟨h1, h2⟩ := h
  have a1 : 1 * 1 ≤ k * k := Nat.mul_le_mul h1 h1
  have a2 : k * k ≤ 15 * 15 := Nat.mul_le_mul h2 h2
  have b1 : 1 * 1 ≤ k * k * k := Nat.mul_le_mul (by omega) h1
  have b2 : k * k * k ≤ 225 * 15 := Nat.mul_le_mul (by omega) h2
  have e : 5 * k * k = 5 * (k * k) := Nat.mul_assoc _ _ _
  omega
theorem nb_new {S : SC} (hO : OkC S) {i : Nat} (hi : i < s_n S) : nb S i (s_n S) = false := by
  cases e : nb S i (s_n S) with
  | false => rfl
  | true =>
    obtain ⟨j, hj, q⟩ := nbk_iff.mp e
    have := hO.jj hj
    omega
theorem nbk_app {S : SC} {vo ar ch fe a b : Nat} : ∀ k, nbk (sApp S vo ar ch fe) a b k = nbk S a b k
  | 0 => rfl
  | k + 1 => by rw [nbk_s, nbk_s, nbk_app k]; rfl
theorem trialA_ok {S : SC} (hO : OkC S) (hn : s_n S < 12) {k : Nat} (hk : 1 ≤ k ∧ k ≤ 15) : OkC (sApp S (k * k * k) (5 * k * k) 0 1) := by
  have q := cube hk
  exact sApp_ok hO hn q.1 q.2 (by omega) (by omega)
theorem trial_ok {S : SC} (hO : OkC S) (hn : s_n S < 12) (hm : s_m S < 20) {i k : Nat} (hi : i < s_n S) (hk : 1 ≤ k ∧ k ≤ 15) : OkC (trial S i k) := by
  refine sLink_ok (trialA_ok hO hn hk) hm (Nat.lt_succ_of_lt hi) (Nat.lt_succ_self _) (by omega) ?_
  show nbk (sApp S (k * k * k) (5 * k * k) 0 1) i (s_n S) (s_m S) = false
  rw [nbk_app]
  exact nb_new hO hi
theorem swf_ok {v vr : CV} {vd : FV} {S : SC} (h : RepC v S) (hO : OkC S) (hn : s_n S < 12) (hm : s_m S < 20) {i k : Nat} (hi : i < s_n S) (hk : 1 ≤ k ∧ k ≤ 15) : ∃ vr' vd', f_X4_isSoundWithFeeder v vr vd (nI i) (nI k) = some (if exAll (trial S i k) = 0 then 1 else 0, vr', vd') := by
  obtain ⟨v1, e1, h1⟩ := copyFrom_rep (v := vr) h hO
  obtain ⟨v2, e2, h2⟩ := append_ok h1 hO hn (vo := k * k * k) (ar := 5 * k * k) (ch := 0) (fe := 1) (by omega)
  obtain ⟨v3, e3, h3⟩ := link_ok h2 (trialA_ok hO hn hk) hm (a := i) (b := s_n S)
  obtain ⟨w4, e4, h4⟩ := follow_ok h3 (trial_ok hO hn hm hi hk) vd
  refine ⟨v3, w4, ?_⟩
  unfold f_X4_isSoundWithFeeder
  rw [e1, bd_s, pk_mul, pk_mul, show (5 : Int32) = nI 5 from rfl, pk_mul, pk_mul, show (0 : Int32) = nI 0 from rfl, show (1 : Int32) = nI 1 from rfl, e2, bd2_s, e3, bd2_s, e4, bd_s, sound_ok h4 (trial_ok hO hn hm hi hk), bd_s, ck_t]
  · rfl
  · exact b01 _
noncomputable def lf (S : SC) (i : Nat) : Nat → Nat → Int32
  | 0, _ => -1
  | d + 1, k => if exAll (trial S i k) = 0 then nI k else lf S i d (k + 1)
theorem lf_loop {v : CV} {S : SC} (h : RepC v S) (hO : OkC S) (hn : s_n S < 12) (hm : s_m S < 20) {i : Nat} (hi : i < s_n S) : ∀ (d k fu : Nat) (vr : CV) (vd : FV), 1 ≤ k → k + d = 16 → d < fu → ∃ vr' vd', f_X4_leastFeeder_b26 v (nI i) fu vr vd (nI k) = some (lf S i d k, vr', vd') := by
  intro d
  induction d with
  | zero =>
    intro k fu vr vd h0 h1 h2
    obtain ⟨fu, rfl⟩ : ∃ z, fu = z + 1 := ⟨fu - 1, by omega⟩
    rw [f_X4_leastFeeder_b26]
    dsimp only
    rw [show (15 : Int32) = nI 15 from rfl, br_lt _ _ (by omega) (by omega), if_pos (by omega)]
    exact ⟨vr, vd, rfl⟩
  | succ d ih =>
    intro k fu vr vd h0 h1 h2
    obtain ⟨fu, rfl⟩ : ∃ z, fu = z + 1 := ⟨fu - 1, by omega⟩
    obtain ⟨vr', vd', e⟩ := swf_ok (vr := vr) (vd := vd) h hO hn hm hi (k := k) ⟨h0, by omega⟩
    rw [f_X4_leastFeeder_b26]
    dsimp only
    rw [show (15 : Int32) = nI 15 from rfl, br_lt _ _ (by omega) (by omega), if_neg (by omega), e, bd3_s, b1_ne]
    unfold lf
    by_cases c : exAll (trial S i k) = 0
    · rw [if_pos c, if_pos c]; exact ⟨vr', vd', rfl⟩
    · rw [if_neg c, if_neg c, nm_s, nI_1]
      exact ih (k + 1) fu vr' vd' (by omega) (by omega) (by omega)
theorem room_ok {v : CV} {S : SC} (h : RepC v S) (hO : OkC S) : f_X4_hasRoomForFeeder v = some (if s_n S < 12 ∧ s_m S < 20 then 1 else 0) := by
  unfold f_X4_hasRoomForFeeder
  rw [roomS_ok h hO, bd_s, b1_ne, roomJ_ok h hO, bd_s, b1_ne]
  by_cases c1 : s_n S < 12
  · by_cases c2 : s_m S < 20
    · rw [if_pos c1, if_pos c2, if_pos (show s_n S < 12 ∧ s_m S < 20 from ⟨c1, c2⟩)]
    · rw [if_pos c1, if_neg c2, if_neg (fun z => c2 z.2)]
  · rw [if_neg c1, if_neg (fun z => c1 z.1)]
noncomputable def aLF (S : SC) (i : Nat) : Int32 := if s_n S < 12 ∧ s_m S < 20 then lf S i 15 1 else -5
theorem leastFeeder_ok {v vr : CV} {vd : FV} {S : SC} (h : RepC v S) (hO : OkC S) {i : Nat} (hi : i < s_n S) : ∃ vr' vd', f_X4_leastFeeder v vr vd (nI i) = some (aLF S i, vr', vd') := by
  unfold f_X4_leastFeeder aLF
  rw [has_yes h hO hi, bd_s, br_F (by decide), room_ok h hO, bd_s, b1_ne]
  by_cases c : s_n S < 12 ∧ s_m S < 20
  · rw [if_pos c, if_pos c]
    exact lf_loop h hO c.1 c.2 hi 15 1 FU vr vd (by omega) (by omega) (FU_big (by omega))
  · rw [if_neg c, if_neg c]; exact ⟨vr, vd, rfl⟩
theorem leastFeeder_no {v vr : CV} {vd : FV} {S : SC} (h : RepC v S) {x : Int32} (hx : outN (s_n S) x) : f_X4_leastFeeder v vr vd x = some (-2, vr, vd) := by
  unfold f_X4_leastFeeder
  rw [has_no h hx, bd_s, br_T rfl]
noncomputable def bi (S : SC) (k : Nat) : Nat → Nat → Option Int32
  | 0, _ => none
  | d + 1, x => if exAll (trial S x k) = 0 then some (100 * nI k + nI x) else bi S k d (x + 1)
noncomputable def bo (S : SC) : Nat → Nat → Int32
  | 0, _ => -1
  | d + 1, k => match bi S k (s_n S) 0 with
    | some r => r
    | none => bo S d (k + 1)
theorem bo_n {S : SC} {d k : Nat} (h : bi S k (s_n S) 0 = none) : bo S (d + 1) k = bo S d (k + 1) := by
  show (match bi S k (s_n S) 0 with | some r => r | none => bo S d (k + 1)) = _
  rw [h]
theorem bo_s {S : SC} {d k : Nat} {r : Int32} (h : bi S k (s_n S) 0 = some r) : bo S (d + 1) k = r := by
  show (match bi S k (s_n S) 0 with | some r => r | none => bo S d (k + 1)) = _
  rw [h]
theorem bi_loop {v : CV} {S : SC} (h : RepC v S) (hO : OkC S) (hn : s_n S < 12) (hm : s_m S < 20) {k : Nat} (hk : 1 ≤ k ∧ k ≤ 15) (k12 : CV → FV → Int32 → Option (Int32 × CV × FV)) : ∀ (d x fu : Nat) (vr : CV) (vd : FV), x + d = s_n S → d < fu → ∃ vr' vd', f_X4_bestFeeder_b20 k12 v (nI k) fu vr vd (nI x) = (match bi S k d x with | some r => some (r, vr', vd') | none => k12 vr' vd' (nI (k + 1))) := by
  intro d
  induction d with
  | zero =>
    intro x fu vr vd h1 h2
    obtain ⟨fu, rfl⟩ : ∃ z, fu = z + 1 := ⟨fu - 1, by omega⟩
    rw [f_X4_bestFeeder_b20]
    dsimp only
    rw [h.se, br_le _ _ (by omega) (by omega), if_pos (by omega), nm_s, nI_1]
    exact ⟨vr, vd, rfl⟩
  | succ d ih =>
    intro x fu vr vd h1 h2
    obtain ⟨fu, rfl⟩ : ∃ z, fu = z + 1 := ⟨fu - 1, by omega⟩
    obtain ⟨vr', vd', e⟩ := swf_ok (vr := vr) (vd := vd) h hO hn hm (i := x) (by omega) hk
    rw [f_X4_bestFeeder_b20]
    dsimp only
    rw [h.se, br_le _ _ (by omega) (by omega), if_neg (by omega), e, bd3_s, b1_ne]
    unfold bi
    by_cases c : exAll (trial S x k) = 0
    · rw [if_pos c, if_pos c]; exact ⟨vr', vd', rfl⟩
    · rw [if_neg c, if_neg c, nm_s, nI_1]
      exact ih (x + 1) fu vr' vd' (by omega) (by omega)
theorem bo_loop {v : CV} {S : SC} (h : RepC v S) (hO : OkC S) (hn : s_n S < 12) (hm : s_m S < 20) : ∀ (d k fu : Nat) (vr : CV) (vd : FV), 1 ≤ k → k + d = 16 → d < fu → ∃ vr' vd', f_X4_bestFeeder_b12 v fu vr vd (nI k) = some (bo S d k, vr', vd') := by
  intro d
  induction d with
  | zero =>
    intro k fu vr vd h0 h1 h2
    obtain ⟨fu, rfl⟩ : ∃ z, fu = z + 1 := ⟨fu - 1, by omega⟩
    rw [f_X4_bestFeeder_b12]
    dsimp only
    rw [show (15 : Int32) = nI 15 from rfl, br_lt _ _ (by omega) (by omega), if_pos (by omega)]
    exact ⟨vr, vd, rfl⟩
  | succ d ih =>
    intro k fu vr vd h0 h1 h2
    obtain ⟨fu, rfl⟩ : ∃ z, fu = z + 1 := ⟨fu - 1, by omega⟩
    obtain ⟨vr', vd', e⟩ := bi_loop h hO hn hm (k := k) ⟨h0, by omega⟩ (f_X4_bestFeeder_b12 v fu) (s_n S) 0 FU vr vd (by omega) (FU_big (by omega))
    rw [f_X4_bestFeeder_b12]
    dsimp only
    rw [show (15 : Int32) = nI 15 from rfl, br_lt _ _ (by omega) (by omega), if_neg (by omega), show (0 : Int32) = nI 0 from rfl, e]
    cases q : bi S k (s_n S) 0 with
    | some r => rw [bo_s q]; exact ⟨vr', vd', rfl⟩
    | none => rw [bo_n q]; exact ih (k + 1) fu vr' vd' (by omega) (by omega) (by omega)
noncomputable def aBF (S : SC) : Int32 := if s_n S < 12 ∧ s_m S < 20 then bo S 15 1 else -5
theorem bestFeeder_ok {v vr : CV} {vd : FV} {S : SC} (h : RepC v S) (hO : OkC S) : ∃ vr' vd', f_X4_bestFeeder v vr vd = some (aBF S, vr', vd') := by
  unfold f_X4_bestFeeder aBF
  rw [room_ok h hO, bd_s, b1_ne]
  by_cases c : s_n S < 12 ∧ s_m S < 20
  · rw [if_pos c, if_pos c]
    exact bo_loop h hO c.1 c.2 15 1 FU vr vd (by omega) (by omega) (FU_big (by omega))
  · rw [if_neg c, if_neg c]; exact ⟨vr, vd, rfl⟩
/-! another chill -/
theorem excessWith_ok {v vr : CV} {vd : FV} {S : SC} (h : RepC v S) (hO : OkC S) {i : Nat} (hi : i < s_n S) (y : Int32) : ∃ vr' vd', f_X4_excessWith v vr vd (nI i) y = some (if 0 ≤ y ∧ y ≤ 500 then nI (exAll (sChill S i y.toNatClampNeg)) else -3, vr', vd') := by
  have hn := hO.n
  unfold f_X4_excessWith
  rw [has_yes h hO hi, bd_s, br_F (by decide), within_ok, bd_s, b1_ne]
  by_cases c : 0 ≤ y ∧ y ≤ 500
  · rw [if_pos c, if_pos c]
    obtain ⟨a, ha, rfl⟩ := dig (b := 500) (by omega) c
    obtain ⟨v1, e1, h1⟩ := copyFrom_rep (v := vr) h hO
    have h2 := rep_chill h1 (i := i) (a := a)
    have hO2 := sChill_ok hO (i := i) ha
    obtain ⟨w', e3, h3⟩ := follow_ok h2 hO2 vd
    rw [e1, bd_s, put_in (by omega) (by omega), bd_s, e3, bd_s, exAll_ok h3 hO2, bd_s, cl_ (by omega)]
    exact ⟨_, w', rfl⟩
  · rw [if_neg c, if_neg c]; exact ⟨vr, vd, rfl⟩
theorem excessWith_no {v vr : CV} {vd : FV} {S : SC} (h : RepC v S) {x y : Int32} (hx : outN (s_n S) x) : f_X4_excessWith v vr vd x y = some (-2, vr, vd) := by
  unfold f_X4_excessWith
  rw [has_no h hx, bd_s, br_T rfl]
