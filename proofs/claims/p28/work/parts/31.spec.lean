/-! ===== 31: what a casting is; the program's Casting ===== -/
abbrev SC : Type := Nat × Nat × Nat × Nat × (Nat → Nat) × (Nat → Nat) × (Nat → Nat) × (Nat → Nat) × (Nat → Nat) × (Nat → Nat)
def s_n (S : SC) : Nat := S.1
def s_m (S : SC) : Nat := S.2.1
def s_sh (S : SC) : Nat := S.2.2.1
def s_pi (S : SC) : Nat := S.2.2.2.1
def s_vo (S : SC) : Nat → Nat := S.2.2.2.2.1
def s_ar (S : SC) : Nat → Nat := S.2.2.2.2.2.1
def s_ch (S : SC) : Nat → Nat := S.2.2.2.2.2.2.1
def s_fe (S : SC) : Nat → Nat := S.2.2.2.2.2.2.2.1
def s_ja (S : SC) : Nat → Nat := S.2.2.2.2.2.2.2.2.1
def s_jb (S : SC) : Nat → Nat := S.2.2.2.2.2.2.2.2.2
/-- the program's numbers tell the casting S -/
def RepC (v : CV) (S : SC) : Prop := C_se v = nI (s_n S) ∧ C_jo v = nI (s_m S) ∧ C_sh v = nI (s_sh S) ∧ C_pi v = nI (s_pi S) ∧ (∀ i, i < s_n S → C_vo v i = nI (s_vo S i)) ∧ (∀ i, i < s_n S → C_ar v i = nI (s_ar S i)) ∧ (∀ i, i < s_n S → C_ch v i = nI (s_ch S i)) ∧ (∀ i, i < s_n S → C_fe v i = nI (s_fe S i)) ∧ (∀ j, j < s_m S → C_fi v j = nI (s_ja S j)) ∧ (∀ j, j < s_m S → C_sd v j = nI (s_jb S j)) ∧ ∀ i, i < 12 → C_fe v i = 0 ∨ C_fe v i = 1
theorem RepC.se {v : CV} {S : SC} (h : RepC v S) : C_se v = nI (s_n S) := h.1
theorem RepC.jo {v : CV} {S : SC} (h : RepC v S) : C_jo v = nI (s_m S) := h.2.1
theorem RepC.sh {v : CV} {S : SC} (h : RepC v S) : C_sh v = nI (s_sh S) := h.2.2.1
theorem RepC.pi {v : CV} {S : SC} (h : RepC v S) : C_pi v = nI (s_pi S) := h.2.2.2.1
theorem RepC.vo {v : CV} {S : SC} (h : RepC v S) : ∀ i, i < s_n S → C_vo v i = nI (s_vo S i) := h.2.2.2.2.1
theorem RepC.ar {v : CV} {S : SC} (h : RepC v S) : ∀ i, i < s_n S → C_ar v i = nI (s_ar S i) := h.2.2.2.2.2.1
theorem RepC.ch {v : CV} {S : SC} (h : RepC v S) : ∀ i, i < s_n S → C_ch v i = nI (s_ch S i) := h.2.2.2.2.2.2.1
theorem RepC.fe {v : CV} {S : SC} (h : RepC v S) : ∀ i, i < s_n S → C_fe v i = nI (s_fe S i) := h.2.2.2.2.2.2.2.1
theorem RepC.fi {v : CV} {S : SC} (h : RepC v S) : ∀ j, j < s_m S → C_fi v j = nI (s_ja S j) := h.2.2.2.2.2.2.2.2.1
theorem RepC.sd {v : CV} {S : SC} (h : RepC v S) : ∀ j, j < s_m S → C_sd v j = nI (s_jb S j) := h.2.2.2.2.2.2.2.2.2.1
theorem RepC.ff {v : CV} {S : SC} (h : RepC v S) : ∀ i, i < 12 → C_fe v i = 0 ∨ C_fe v i = 1 := h.2.2.2.2.2.2.2.2.2.2
/-- the bounds of the document -/
def OkC (S : SC) : Prop := s_n S ≤ 12 ∧ s_m S ≤ 20 ∧ s_sh S ≤ 200 ∧ s_pi S ≤ 500 ∧ (∀ i, i < s_n S → (1 ≤ s_vo S i ∧ s_vo S i ≤ 5000) ∧ (1 ≤ s_ar S i ∧ s_ar S i ≤ 5000) ∧ s_ch S i ≤ 500 ∧ s_fe S i ≤ 1) ∧ (∀ j, j < s_m S → s_ja S j < s_n S ∧ s_jb S j < s_n S ∧ s_ja S j ≠ s_jb S j) ∧ ∀ i j, i < j → j < s_m S → ¬ (s_ja S i = s_ja S j ∧ s_jb S i = s_jb S j) ∧ ¬ (s_ja S i = s_jb S j ∧ s_jb S i = s_ja S j)
theorem OkC.n {S : SC} (h : OkC S) : s_n S ≤ 12 := h.1
theorem OkC.m {S : SC} (h : OkC S) : s_m S ≤ 20 := h.2.1
theorem OkC.sh {S : SC} (h : OkC S) : s_sh S ≤ 200 := h.2.2.1
theorem OkC.pi {S : SC} (h : OkC S) : s_pi S ≤ 500 := h.2.2.2.1
theorem OkC.vo {S : SC} (h : OkC S) {i : Nat} (hi : i < s_n S) : 1 ≤ s_vo S i ∧ s_vo S i ≤ 5000 := (h.2.2.2.2.1 i hi).1
theorem OkC.ar {S : SC} (h : OkC S) {i : Nat} (hi : i < s_n S) : 1 ≤ s_ar S i ∧ s_ar S i ≤ 5000 := (h.2.2.2.2.1 i hi).2.1
theorem OkC.ch {S : SC} (h : OkC S) {i : Nat} (hi : i < s_n S) : s_ch S i ≤ 500 := (h.2.2.2.2.1 i hi).2.2.1
theorem OkC.fe {S : SC} (h : OkC S) {i : Nat} (hi : i < s_n S) : s_fe S i ≤ 1 := (h.2.2.2.2.1 i hi).2.2.2
theorem OkC.jj {S : SC} (h : OkC S) {j : Nat} (hj : j < s_m S) : s_ja S j < s_n S ∧ s_jb S j < s_n S ∧ s_ja S j ≠ s_jb S j := h.2.2.2.2.2.1 j hj
theorem OkC.one {S : SC} (h : OkC S) {i j : Nat} (hij : i < j) (hj : j < s_m S) : ¬ (s_ja S i = s_ja S j ∧ s_jb S i = s_jb S j) ∧ ¬ (s_ja S i = s_jb S j ∧ s_jb S i = s_ja S j) := h.2.2.2.2.2.2 i j hij hj
/-! the program's small questions -/
theorem has_no {v : CV} {S : SC} (h : RepC v S) {x : Int32} (hx : x < 0 ∨ nI (s_n S) ≤ x) : f_X0_has v x = some 0 := by
  unfold f_X0_has
  by_cases h0 : x < 0
  · rw [br_T h0]
  · rw [br_F h0, h.se, br_T (hx.resolve_left h0)]
theorem has_yes {v : CV} {S : SC} (h : RepC v S) (hO : OkC S) {i : Nat} (hi : i < s_n S) : f_X0_has v (nI i) = some 1 := by
  have := hO.n
  unfold f_X0_has
  rw [br_neg i (by omega), h.se, br_le _ _ (by omega) (by omega), if_neg (by omega)]
theorem hasJ_no {v : CV} {S : SC} (h : RepC v S) {x : Int32} (hx : x < 0 ∨ nI (s_m S) ≤ x) : f_X0_hasJoint v x = some 0 := by
  unfold f_X0_hasJoint
  by_cases h0 : x < 0
  · rw [br_T h0]
  · rw [br_F h0, h.jo, br_T (hx.resolve_left h0)]
theorem hasJ_yes {v : CV} {S : SC} (h : RepC v S) (hO : OkC S) {i : Nat} (hi : i < s_m S) : f_X0_hasJoint v (nI i) = some 1 := by
  have := hO.m
  unfold f_X0_hasJoint
  rw [br_neg i (by omega), h.jo, br_le _ _ (by omega) (by omega), if_neg (by omega)]
theorem roomS_ok {v : CV} {S : SC} (h : RepC v S) (hO : OkC S) : f_X0_hasRoomForSection v = some (if s_n S < 12 then 1 else 0) := by
  have := hO.n
  unfold f_X0_hasRoomForSection
  rw [h.se, show (12 : Int32) = nI 12 from rfl, br_le _ _ (by omega) (by omega)]
  by_cases h1 : s_n S < 12
  · rw [if_pos h1, if_neg (by omega)]
  · rw [if_neg h1, if_pos (by omega)]
theorem roomJ_ok {v : CV} {S : SC} (h : RepC v S) (hO : OkC S) : f_X0_hasRoomForJoint v = some (if s_m S < 20 then 1 else 0) := by
  have := hO.m
  unfold f_X0_hasRoomForJoint
  rw [h.jo, show (20 : Int32) = nI 20 from rfl, br_le _ _ (by omega) (by omega)]
  by_cases h1 : s_m S < 20
  · rw [if_pos h1, if_neg (by omega)]
  · rw [if_neg h1, if_pos (by omega)]
theorem isFeeder_ok {v : CV} {S : SC} (h : RepC v S) (hO : OkC S) {i : Nat} (hi : i < s_n S) : f_X0_isFeeder v (nI i) = some (nI (s_fe S i)) := by
  have := hO.n
  have hf := hO.fe hi
  unfold f_X0_isFeeder
  rw [has_yes h hO hi, bd_s, br_F (by decide), ck_in (by omega) (by omega), cl_ (by omega), h.fe i hi, br_z _ (by omega)]
  by_cases h1 : s_fe S i = 0
  · rw [if_pos h1, h1]; rfl
  · have : s_fe S i = 1 := by omega
    rw [if_neg h1, this]; rfl
theorem cooled_ok {v : CV} {S : SC} (h : RepC v S) (hO : OkC S) {i : Nat} (hi : i < s_n S) : f_X0_cooledArea v (nI i) = some (nI (s_ar S i + s_ch S i)) := by
  have := hO.n
  unfold f_X0_cooledArea
  rw [at_in (by omega) (by omega), bd_s, at_in (by omega) (by omega), bd_s, h.ar i hi, h.ch i hi, nI_add]
def fneed (S : SC) (i : Nat) : Nat := s_vo S i * s_sh S / 1000
theorem fneed_le {S : SC} (hO : OkC S) {i : Nat} (hi : i < s_n S) : fneed S i ≤ 1000 := by
  have h1 := (hO.vo hi).2
  have h2 := hO.sh
  have h3 : s_vo S i * s_sh S ≤ 5000 * 200 := Nat.mul_le_mul h1 h2
  unfold fneed
  omega
theorem firstNeed_ok {v : CV} {S : SC} (h : RepC v S) (hO : OkC S) {i : Nat} (hi : i < s_n S) : f_X0_firstNeed v (nI i) = some (nI (fneed S i)) := by
  have := hO.n
  have h1 := (hO.vo hi).2
  have h2 := hO.sh
  have h3 : s_vo S i * s_sh S ≤ 5000 * 200 := Nat.mul_le_mul h1 h2
  unfold f_X0_firstNeed
  rw [at_in (by omega) (by omega), bd_s, ck_1000, nm_s, h.vo i hi, h.sh, pk_mul, show (1000 : Int32) = nI 1000 from rfl, pk_div (by omega) (by omega) (by omega)]
  rfl
def bear (S : SC) (i : Nat) : Nat := if s_fe S i = 1 then s_vo S i * s_pi S / 1000 else 0
theorem bear_le {S : SC} (hO : OkC S) {i : Nat} (hi : i < s_n S) : bear S i ≤ 2500 := by
  have h1 := (hO.vo hi).2
  have h2 := hO.pi
  have h3 : s_vo S i * s_pi S ≤ 5000 * 500 := Nat.mul_le_mul h1 h2
  unfold bear
  split <;> omega
theorem bear_ok {v : CV} {S : SC} (h : RepC v S) (hO : OkC S) {i : Nat} (hi : i < s_n S) : f_X0_bearablePores v (nI i) = some (nI (bear S i)) := by
  have := hO.n
  have h1 := (hO.vo hi).2
  have h2 := hO.pi
  have h3 : s_vo S i * s_pi S ≤ 5000 * 500 := Nat.mul_le_mul h1 h2
  have hf := hO.fe hi
  unfold f_X0_bearablePores bear
  rw [isFeeder_ok h hO hi, bd_s, br_z _ (by omega)]
  by_cases h1 : s_fe S i = 0
  · rw [if_pos h1, if_neg (by omega)]; rfl
  · rw [if_neg h1, if_pos (by omega), at_in (by omega) (by omega), bd_s, ck_1000, nm_s, h.vo i hi, h.pi, pk_mul, show (1000 : Int32) = nI 1000 from rfl, pk_div (by omega) (by omega) (by omega)]
/-! whether one freezes before another; how many before -/
def bef (S : SC) (j i : Nat) : Bool := decide (s_vo S j * (s_ar S i + s_ch S i) < s_vo S i * (s_ar S j + s_ch S j) ∨ (s_vo S j * (s_ar S i + s_ch S i) = s_vo S i * (s_ar S j + s_ch S j) ∧ j < i))
def rk (S : SC) (i : Nat) : Nat := cnt (fun j => bef S j i) (s_n S)
theorem prod_le {S : SC} (hO : OkC S) {i j : Nat} (hi : i < s_n S) (hj : j < s_n S) : s_vo S i * (s_ar S j + s_ch S j) ≤ 27500000 := by
  have h1 := (hO.vo hi).2
  have h2 := (hO.ar hj).2
  have h3 := hO.ch hj
  have : s_vo S i * (s_ar S j + s_ch S j) ≤ 5000 * 5500 := Nat.mul_le_mul h1 (by omega)
  omega
theorem stepOf_ok {v : CV} {S : SC} (h : RepC v S) (hO : OkC S) {i : Nat} (hi : i < s_n S) : f_X0_stepOf v (nI i) = some (nI (rk S i)) := by
  have hn := hO.n
  unfold f_X0_stepOf
  rw [at_in (by omega) (by omega), bd_s, cooled_ok h hO hi, bd_s, h.vo i hi]
  refine (?_ : f_X0_stepOf_b21 v (nI i) (nI (s_vo S i)) (nI (s_ar S i + s_ch S i)) FU (nI (cnt (fun j => bef S j i) 0)) (nI 0) = _)
  refine loop0 (fun fu k => f_X0_stepOf_b21 v (nI i) (nI (s_vo S i)) (nI (s_ar S i + s_ch S i)) fu (nI (cnt (fun j => bef S j i) k)) (nI k)) (s_n S) _ (by omega) (fun fu k hk => ?_) (fun fu => ?_)
  · show f_X0_stepOf_b21 v (nI i) (nI (s_vo S i)) (nI (s_ar S i + s_ch S i)) (fu + 1) (nI (cnt (fun j => bef S j i) k)) (nI k) = f_X0_stepOf_b21 v (nI i) (nI (s_vo S i)) (nI (s_ar S i + s_ch S i)) fu (nI (cnt (fun j => bef S j i) k + (if bef S k i then 1 else 0))) (nI (k + 1))
    have p1 := prod_le hO hk hi
    have p2 := prod_le hO hi hk
    rw [f_X0_stepOf_b21]
    dsimp only
    rw [h.se, br_le _ _ (by omega) (by omega), if_neg (by omega), at_in (by omega) (by omega), bd_s, nm_s, cooled_ok h hO hk, bd_s, nm_s, h.vo k hk, pk_mul, pk_mul, br_lt _ _ (by omega) (by omega), br_eq _ _ (by omega) (by omega), br_le _ _ (by omega) (by omega)]
    simp only [nm_s, nI_1]
    by_cases c1 : s_vo S k * (s_ar S i + s_ch S i) < s_vo S i * (s_ar S k + s_ch S k)
    · rw [if_pos c1, if_pos (by unfold bef; exact decide_eq_true (Or.inl c1))]
    · rw [if_neg c1]
      by_cases c2 : s_vo S k * (s_ar S i + s_ch S i) = s_vo S i * (s_ar S k + s_ch S k)
      · rw [if_pos c2]
        by_cases c3 : i ≤ k
        · rw [if_pos c3, if_neg (by unfold bef; intro z; have := of_decide_eq_true z; omega)]; rfl
        · rw [if_neg c3, if_pos (by unfold bef; exact decide_eq_true (Or.inr ⟨c2, by omega⟩))]
      · rw [if_neg c2, if_neg (by unfold bef; intro z; have := of_decide_eq_true z; omega)]; rfl
  · show f_X0_stepOf_b21 v (nI i) (nI (s_vo S i)) (nI (s_ar S i + s_ch S i)) (fu + 1) (nI (cnt (fun j => bef S j i) (s_n S))) (nI (s_n S)) = _
    rw [f_X0_stepOf_b21]
    dsimp only
    rw [h.se, br_le _ _ (by omega) (by omega), if_pos (by omega)]
    rfl
/-! joints -/
def tch (S : SC) (j x : Nat) : Bool := decide (s_ja S j = x ∨ s_jb S j = x)
theorem touches_ok {v : CV} {S : SC} (h : RepC v S) (hO : OkC S) {j x : Nat} (hj : j < s_m S) (hx : x < 2 ^ 31) : f_X0_touches v (nI j) (nI x) = some (if tch S j x then 1 else 0) := by
  have hm := hO.m
  have hn := hO.n
  obtain ⟨h1, h2, -⟩ := hO.jj hj
  unfold f_X0_touches f_X0_touches_b24 tch
  rw [at_in (by omega) (by omega), bd_s, at_in (by omega) (by omega), bd_s, h.fi j hj, h.sd j hj, br_eq _ _ (by omega) (by omega), br_eq _ _ (by omega) (by omega)]
  by_cases c1 : s_ja S j = x
  · rw [if_pos c1, if_pos (decide_eq_true (Or.inl c1))]
  · rw [if_neg c1]
    by_cases c2 : s_jb S j = x
    · rw [if_pos c2, if_pos (decide_eq_true (Or.inr c2))]
    · rw [if_neg c2, if_neg (by intro z; have := of_decide_eq_true z; omega)]
/-- whether two are neighbours, among the first k joints -/
def nbk (S : SC) (a b : Nat) : Nat → Bool
  | 0 => false
  | k + 1 => nbk S a b k || decide ((s_ja S k = a ∧ s_jb S k = b) ∨ (s_ja S k = b ∧ s_jb S k = a))
def nb (S : SC) (a b : Nat) : Bool := nbk S a b (s_m S)
theorem nbk_s {S : SC} {a b k : Nat} : nbk S a b (k + 1) = (nbk S a b k || decide ((s_ja S k = a ∧ s_jb S k = b) ∨ (s_ja S k = b ∧ s_jb S k = a))) := rfl
theorem nbk_iff {S : SC} {a b k : Nat} : nbk S a b k = true ↔ ∃ j, j < k ∧ ((s_ja S j = a ∧ s_jb S j = b) ∨ (s_ja S j = b ∧ s_jb S j = a)) := by
  induction k with
  | zero => simp [nbk]
  | succ k ih =>
    unfold nbk
    rw [Bool.or_eq_true, ih, decide_eq_true_eq]
    constructor
    · rintro (⟨j, h1, h2⟩ | h)
      · exact ⟨j, by omega, h2⟩
      · exact ⟨k, by omega, h⟩
    · rintro ⟨j, h1, h2⟩
      rcases Nat.lt_or_ge j k with q | q
      · exact Or.inl ⟨j, q, h2⟩
      · have : j = k := by omega
        subst this
        exact Or.inr h2
theorem b1_ne {c : Prop} [Decidable c] {α : Type} {p q : Option α} : br ((if c then (1 : Int32) else 0) = 0) p q = if c then q else p := by
  by_cases h : c
  · rw [if_pos h, if_pos h, br_F (by decide)]
  · rw [if_neg h, if_neg h, br_T rfl]
theorem canLink_ok {v : CV} {S : SC} (h : RepC v S) (hO : OkC S) {a b : Nat} (ha : a < s_n S) (hb : b < s_n S) : f_X0_canLink v (nI a) (nI b) = some (if a ≠ b ∧ nb S a b = false then 1 else 0) := by
  have hm := hO.m
  have hn := hO.n
  unfold f_X0_canLink
  rw [br_eq _ _ (by omega) (by omega)]
  by_cases hab : a = b
  · rw [if_pos hab, if_neg (fun q => q.1 hab)]
  · rw [if_neg hab]
    have key : ∀ d k fu, k + d = s_m S → d < fu → nbk S a b k = false → f_X0_canLink_b9 v (nI a) (nI b) fu (nI k) = some (if nb S a b = false then 1 else 0) := by
      intro d
      induction d with
      | zero =>
        intro k fu h1 h2 h3
        obtain ⟨fu, rfl⟩ : ∃ z, fu = z + 1 := ⟨fu - 1, by omega⟩
        have : k = s_m S := by omega
        subst this
        rw [f_X0_canLink_b9]
        dsimp only
        rw [h.jo, br_le _ _ (by omega) (by omega), if_pos (by omega), show nb S a b = false from h3]
        rfl
      | succ d ih =>
        intro k fu h1 h2 h3
        obtain ⟨fu, rfl⟩ : ∃ z, fu = z + 1 := ⟨fu - 1, by omega⟩
        have hk : k < s_m S := by omega
        obtain ⟨j1, j2, j3⟩ := hO.jj hk
        rw [f_X0_canLink_b9]
        dsimp only
        rw [h.jo, br_le _ _ (by omega) (by omega), if_neg (by omega), touches_ok h hO hk (by omega), bd_s, touches_ok h hO hk (by omega), bd_s, b1_ne, b1_ne]
        simp only [nm_s, nI_1]
        by_cases c1 : tch S k a = true
        · rw [if_pos c1]
          have d1 := of_decide_eq_true c1
          by_cases c2 : tch S k b = true
          · rw [if_pos c2]
            have d2 := of_decide_eq_true c2
            have : nb S a b = true := nbk_iff.mpr ⟨k, hk, by omega⟩
            rw [this]
            rfl
          · rw [if_neg c2]
            have d2 : ¬ (s_ja S k = b ∨ s_jb S k = b) := fun q => c2 (decide_eq_true q)
            refine ih (k + 1) fu (by omega) (by omega) ?_
            unfold nbk
            rw [h3, Bool.false_or, decide_eq_false_iff_not]
            omega
        · rw [if_neg c1]
          have d1 : ¬ (s_ja S k = a ∨ s_jb S k = a) := fun q => c1 (decide_eq_true q)
          refine ih (k + 1) fu (by omega) (by omega) ?_
          unfold nbk
          rw [h3, Bool.false_or, decide_eq_false_iff_not]
          omega
    rw [show (0 : Int32) = nI 0 from rfl, key (s_m S) 0 FU (by omega) (FU_big (by omega)) rfl]
    by_cases c : nb S a b = false
    · rw [if_pos c, if_pos ⟨hab, c⟩]
    · rw [if_neg c, if_neg (fun q => c q.2)]
      rfl
