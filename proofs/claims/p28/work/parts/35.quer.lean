/-! ===== 35: the questions, as the document puts them; the program's answers ===== -/
def isF (S : SC) (i : Nat) : Bool := decide (s_fe S i = 1)
def castV (S : SC) (i : Nat) : Nat := if s_fe S i = 1 then 0 else s_vo S i
def yl (S : SC) : Nat := if sm (s_vo S) (s_n S) = 0 then 0 else 1000 * sm (castV S) (s_n S) / sm (s_vo S) (s_n S)
noncomputable def fedB (S : SC) (o : Option Nat) (j : Nat) : Bool := decide (src S j = o)
theorem cnt_s {p : Nat → Bool} {n : Nat} : cnt p (n + 1) = cnt p n + if p n = true then 1 else 0 := rfl
theorem cnt_t {p : Nat → Bool} {n : Nat} (h : p n = true) : cnt p (n + 1) = cnt p n + 1 := by rw [cnt_s, if_pos h]
theorem cnt_f {p : Nat → Bool} {n : Nat} (h : ¬ p n = true) : cnt p (n + 1) = cnt p n := by rw [cnt_s, if_neg h]; rfl
theorem sm_s {f : Nat → Nat} {n : Nat} : sm f (n + 1) = sm f n + f n := rfl
theorem feeders_ok {v : CV} {S : SC} (h : RepC v S) (hO : OkC S) : f_X0_feeders v = some (nI (cnt (isF S) (s_n S))) := by
  have hn := hO.n
  unfold f_X0_feeders
  refine (?_ : f_X0_feeders_b4 v FU (nI (cnt (isF S) 0)) (nI 0) = _)
  refine loop0 (fun fu i => f_X0_feeders_b4 v fu (nI (cnt (isF S) i)) (nI i)) (s_n S) _ (by omega) (fun fu i hi => ?_) (fun fu => ?_)
  · have hf := hO.fe hi
    try dsimp only
    rw [f_X0_feeders_b4]
    dsimp only
    rw [h.se, br_le _ _ (by omega) (by omega), if_neg (by omega), isFeeder_ok h hO hi, bd_s, br_z _ (by omega)]
    by_cases c : s_fe S i = 1
    · rw [if_neg (by omega), cnt_t (decide_eq_true c)]
      simp only [nm_s, nI_1]
    · rw [if_pos (by omega), cnt_f (fun z => c (of_decide_eq_true z))]
      simp only [nm_s, nI_1]
  · try dsimp only
    rw [f_X0_feeders_b4]
    dsimp only
    rw [h.se, br_le _ _ (by omega) (by omega), if_pos (by omega)]
theorem vo_sum {S : SC} (hO : OkC S) {k : Nat} (hk : k ≤ s_n S) : sm (s_vo S) k ≤ 60000 := by
  have h1 := hO.n
  have h2 : sm (s_vo S) k ≤ k * 5000 := sm_le (fun i hi => (hO.vo (by omega)).2)
  omega
theorem castV_le {S : SC} {i : Nat} : castV S i ≤ s_vo S i := by
  unfold castV
  split <;> omega
theorem ca_sum {S : SC} (hO : OkC S) {k : Nat} (hk : k ≤ s_n S) : sm (castV S) k ≤ 60000 := by
  have h1 := hO.n
  have h2 : sm (castV S) k ≤ k * 5000 := sm_le (fun i hi => Nat.le_trans castV_le (hO.vo (by omega)).2)
  omega
theorem yield_end {S : SC} (hO : OkC S) {α : Type} {x y : Nat} (hx : x ≤ 60000) (hy : y ≤ 60000) : (br (nI x ≤ 0) (some 0) (ck (¬ (nI x : Int32) = 0) <| nm ((1000 * nI y) : Int32) fun t => some (t / nI x))) = some (nI (if x = 0 then 0 else 1000 * y / x)) := by
  rw [br_le0 _ (by omega)]
  by_cases c : x = 0
  · rw [if_pos c, if_pos c]; rfl
  · rw [if_neg c, if_neg c, ck_n c (by omega), nm_s, show (1000 : Int32) = nI 1000 from rfl, pk_mul, pk_div (by omega) (by omega) (by omega)]
theorem yield_ok {v : CV} {S : SC} (h : RepC v S) (hO : OkC S) : f_X0_yieldPerMille v = some (nI (yl S)) := by
  have hn := hO.n
  unfold f_X0_yieldPerMille
  refine (?_ : f_X0_yieldPerMille_b6 v FU (nI (sm (s_vo S) 0)) (nI (sm (castV S) 0)) (nI 0) = _)
  refine loop0 (fun fu i => f_X0_yieldPerMille_b6 v fu (nI (sm (s_vo S) i)) (nI (sm (castV S) i)) (nI i)) (s_n S) _ (by omega) (fun fu i hi => ?_) (fun fu => ?_)
  · have hf := hO.fe hi
    try dsimp only
    rw [f_X0_yieldPerMille_b6]
    dsimp only
    rw [h.se, br_le _ _ (by omega) (by omega), if_neg (by omega), at_in (by omega) (by omega), bd_s, nm_s, isFeeder_ok h hO hi, bd_s, br_z _ (by omega), h.vo i hi, sm_s, sm_s]
    by_cases c : s_fe S i = 1
    · rw [if_neg (by omega), show castV S i = 0 from if_pos c]
      simp only [nm_s, nI_1, nI_add, Nat.add_zero]
    · rw [if_pos (by omega), show castV S i = s_vo S i from if_neg c]
      simp only [bd_s, nm_s, nI_1, nI_add]
  · try dsimp only
    rw [f_X0_yieldPerMille_b6]
    dsimp only
    rw [h.se, br_le _ _ (by omega) (by omega), if_pos (by omega)]
    exact yield_end (α := Nat) hO (vo_sum hO (Nat.le_refl _)) (ca_sum hO (Nat.le_refl _))
theorem nbs_ok {v : CV} {S : SC} (h : RepC v S) (hO : OkC S) {i : Nat} (hi : i < s_n S) : f_X0_neighbours v (nI i) = some (nI (cnt (fun j => tch S j i) (s_m S))) := by
  have hn := hO.n
  have hm := hO.m
  unfold f_X0_neighbours
  refine (?_ : f_X0_neighbours_b4 v (nI i) FU (nI (cnt (fun j => tch S j i) 0)) (nI 0) = _)
  refine loop0 (fun fu j => f_X0_neighbours_b4 v (nI i) fu (nI (cnt (fun j => tch S j i) j)) (nI j)) (s_m S) _ (by omega) (fun fu j hj => ?_) (fun fu => ?_)
  · try dsimp only
    rw [f_X0_neighbours_b4]
    dsimp only
    rw [h.jo, br_le _ _ (by omega) (by omega), if_neg (by omega), touches_ok h hO hj (by omega), bd_s, b1_ne]
    by_cases c : tch S j i = true
    · rw [if_pos c, cnt_t (p := fun j => tch S j i) c]
      simp only [nm_s, nI_1]
    · rw [if_neg c, cnt_f (p := fun j => tch S j i) c]
      simp only [nm_s, nI_1]
  · try dsimp only
    rw [f_X0_neighbours_b4]
    dsimp only
    rw [h.jo, br_le _ _ (by omega) (by omega), if_pos (by omega)]
theorem nI_inj {a b : Nat} (ha : a < 2 ^ 31) (hb : b < 2 ^ 31) (h : nI a = nI b) : a = b := by
  have := congrArg Int32.toNatClampNeg h
  rwa [cl_ ha, cl_ hb] at this
theorem enc_inj {S : SC} (hO : OkC S) {i : Nat} {o : Option Nat} (ho : ∀ f, o = some f → f < 12) : enc (src S i) = enc o ↔ src S i = o := by
  constructor
  · intro q
    have hn := hO.n
    cases e : src S i with
    | none =>
      rw [e] at q
      cases o with
      | none => rfl
      | some f => exact absurd q.symm (m1_ne f (by have := ho f rfl; omega))
    | some g =>
      have hg := (src_some hO e).1
      rw [e] at q
      cases o with
      | none => exact absurd q (m1_ne g (by omega))
      | some f =>
        have hf := ho f rfl
        rw [nI_inj (by omega) (by omega) q]
  · intro q; rw [q]
theorem fedBy_ok {w : FV} {S : SC} (h : FrF w S) (hO : OkC S) {o : Option Nat} (ho : ∀ f, o = some f → f < 12) : f_X1_fedBy w (enc o) = some (nI (cnt (fedB S o) (s_n S))) := by
  have hn := hO.n
  unfold f_X1_fedBy
  refine (?_ : f_X1_fedBy_b4 w (enc o) FU (nI (cnt (fedB S o) 0)) (nI 0) = _)
  refine loop0 (fun fu j => f_X1_fedBy_b4 w (enc o) fu (nI (cnt (fedB S o) j)) (nI j)) (s_n S) _ (by omega) (fun fu j hj => ?_) (fun fu => ?_)
  · try dsimp only
    rw [f_X1_fedBy_b4]
    dsimp only
    rw [h.se, br_le _ _ (by omega) (by omega), if_neg (by omega), ck_in (by omega) (by omega), cl_ (by omega), h.so j hj]
    by_cases c : src S j = o
    · rw [br_T ((enc_inj hO ho).mpr c), cnt_t (p := fedB S o) (decide_eq_true c)]
      simp only [nm_s, nI_1]
    · rw [br_F (fun z => c ((enc_inj hO ho).mp z)), cnt_f (p := fedB S o) (fun z => c (of_decide_eq_true z))]
      simp only [nm_s, nI_1]
  · try dsimp only
    rw [f_X1_fedBy_b4]
    dsimp only
    rw [h.se, br_le _ _ (by omega) (by omega), if_pos (by omega)]
theorem exAll_small {S : SC} (hO : OkC S) : exAll S ≤ 49152000 := sm_small hO (fun i hi => exc_small hO hi) _ (Nat.le_refl _)
theorem exAll_ok {w : FV} {S : SC} (h : FrF w S) (hO : OkC S) : f_X1_excessOfAll w = some (nI (exAll S)) := by
  have hn := hO.n
  unfold f_X1_excessOfAll
  rw [h.se, sum_ok (g := exc S) (by omega) (by omega) h.ex, bd_s]
  rfl
theorem sound_ok {w : FV} {S : SC} (h : FrF w S) (hO : OkC S) : f_X1_isSound w = some (if exAll S = 0 then 1 else 0) := by
  have := exAll_small hO
  unfold f_X1_isSound
  rw [exAll_ok h hO, bd_s, br_z _ (by omega)]
  split <;> rfl
/-! the way of the metal -/
noncomputable def en (S : SC) : Nat → Nat → Nat
  | 0, x => x
  | d + 1, x => match src S x with
    | none => x
    | some f => en S d f
theorem en_n {S : SC} {d x : Nat} (h : src S x = none) : en S (d + 1) x = x := by
  show (match src S x with | none => x | some f => en S d f) = x
  rw [h]
theorem en_f {S : SC} {d x f : Nat} (h : src S x = some f) : en S (d + 1) x = en S d f := by
  show (match src S x with | none => x | some f => en S d f) = _
  rw [h]
theorem en_lt {S : SC} (hO : OkC S) : ∀ (d x : Nat), x < s_n S → en S d x < s_n S
  | 0, x, h => h
  | d + 1, x, h => by
    cases e : src S x with
    | none => rw [en_n e]; exact h
    | some f => rw [en_f e]; exact en_lt hO d f (src_some hO e).1
theorem hot_loop {w : FV} {S : SC} (h : FrF w S) (hO : OkC S) : ∀ (d x t fu : Nat), t + d = s_n S → d < fu → x < s_n S → f_X1_hotSpotOf_b4 w fu (nI x) (nI t) = some (nI (en S d x)) := by
  have hn := hO.n
  intro d
  induction d with
  | zero =>
    intro x t fu h1 h2 h3
    obtain ⟨fu, rfl⟩ : ∃ z, fu = z + 1 := ⟨fu - 1, by omega⟩
    rw [f_X1_hotSpotOf_b4]
    dsimp only
    rw [h.se, br_le _ _ (by omega) (by omega), if_pos (by omega)]
    rfl
  | succ d ih =>
    intro x t fu h1 h2 h3
    obtain ⟨fu, rfl⟩ : ∃ z, fu = z + 1 := ⟨fu - 1, by omega⟩
    rw [f_X1_hotSpotOf_b4]
    dsimp only
    rw [h.se, br_le _ _ (by omega) (by omega), if_neg (by omega), at_in (by omega) (by omega), bd_s, h.so x h3, br_src hO]
    cases e : src S x with
    | none => rw [if_pos rfl, en_n e]
    | some f =>
      rw [if_neg (by simp), bd_s, nm_s, nI_1, en_f e]
      exact ih f (t + 1) fu (by omega) (by omega) (src_some hO e).1
theorem hot_ok {w : FV} {S : SC} (h : FrF w S) (hO : OkC S) {x : Nat} (hx : x < s_n S) : f_X1_hotSpotOf w (nI x) = some (nI (en S (s_n S) x)) := by
  have hn := hO.n
  unfold f_X1_hotSpotOf
  exact hot_loop h hO (s_n S) x 0 FU (by omega) (FU_big (by omega)) hx
noncomputable def wy (S : SC) (k : Int32) : Nat → Option Nat → Int32 → Option Nat
  | 0, o, _ => o
  | _ + 1, none, _ => none
  | d + 1, some x, t => if k ≤ t then some x else wy S k d (src S x) (t + 1)
noncomputable def gath (S : SC) (i x : Nat) : Nat := if en S (s_n S) x = i then fneed S x else 0
theorem gath_le {S : SC} (hO : OkC S) {i x : Nat} (hx : x < s_n S) : gath S i x ≤ 1000 := by
  unfold gath
  split
  · exact fneed_le hO hx
  · omega
/-! the answers -/
noncomputable def qCount (S : SC) : Nat → Nat
  | 0 => s_n S
  | 1 => s_m S
  | 2 => s_sh S
  | 3 => s_pi S
  | 4 => cnt (isF S) (s_n S)
  | 5 => cnt (fedB S none) (s_n S)
  | 6 => sm (pores S) (s_n S)
  | 7 => exAll S
  | 8 => yl S
  | _ => if exAll S = 0 then 1 else 0
noncomputable def aCount (S : SC) (x : Int32) : Int32 := if 0 ≤ x ∧ x ≤ 9 then nI (qCount S x.toNatClampNeg) else -3
theorem dig {x : Int32} {b : Nat} (hb : b < 2 ^ 31) (h : 0 ≤ x ∧ x ≤ nI b) : ∃ k, k ≤ b ∧ x = nI k := by
  obtain ⟨k, -, h2, h3⟩ := nat_of (a := 0) hb h.1 h.2 (by omega)
  exact ⟨k, h2, h3⟩
theorem count_ok {v : CV} {w : FV} {S : SC} (h : RepC v S) (hF : FrF w S) (hO : OkC S) (x : Int32) : f_X4_count v w x = some (aCount S x) := by
  have hn := hO.n
  by_cases c : 0 ≤ x ∧ x ≤ 9
  · obtain ⟨k, hk, rfl⟩ := dig (b := 9) (by omega) c
    unfold aCount
    rw [if_pos c, cl_ (by omega)]
    unfold f_X4_count
    match k, hk with
    | 0, _ => rw [br_T (by decide), h.se]; rfl
    | 1, _ => rw [br_F (by decide), br_T (by decide), h.jo]; rfl
    | 2, _ => rw [br_F (by decide), br_F (by decide), br_T (by decide), h.sh]; rfl
    | 3, _ => rw [br_F (by decide), br_F (by decide), br_F (by decide), br_T (by decide), h.pi]; rfl
    | 4, _ => rw [br_F (by decide), br_F (by decide), br_F (by decide), br_F (by decide), br_T (by decide), feeders_ok h hO]; rfl
    | 5, _ => rw [br_F (by decide), br_F (by decide), br_F (by decide), br_F (by decide), br_F (by decide), br_T (by decide), show (-1 : Int32) = enc none from rfl, fedBy_ok hF hO (o := none) (fun f z => by cases z)]; rfl
    | 6, _ => rw [br_F (by decide), br_F (by decide), br_F (by decide), br_F (by decide), br_F (by decide), br_F (by decide), br_T (by decide), h.se, sum_ok (g := pores S) (by omega) (by omega) hF.po]; rfl
    | 7, _ => rw [br_F (by decide), br_F (by decide), br_F (by decide), br_F (by decide), br_F (by decide), br_F (by decide), br_F (by decide), br_T (by decide), exAll_ok hF hO]; rfl
    | 8, _ => rw [br_F (by decide), br_F (by decide), br_F (by decide), br_F (by decide), br_F (by decide), br_F (by decide), br_F (by decide), br_F (by decide), br_T (by decide), yield_ok h hO]; rfl
    | 9, _ =>
      rw [br_F (by decide), br_F (by decide), br_F (by decide), br_F (by decide), br_F (by decide), br_F (by decide), br_F (by decide), br_F (by decide), br_F (by decide), br_T (by decide), sound_ok hF hO, bd_s, b1_ne]
      show (if exAll S = 0 then some 1 else some 0) = some (nI (if exAll S = 0 then 1 else 0))
      split <;> rfl
    | k + 10, hk => omega
  · unfold aCount
    rw [if_neg c]
    have ne : ∀ y : Int32, (0 ≤ y ∧ y ≤ 9) → ¬ x = y := fun y hy z => c (z ▸ hy)
    unfold f_X4_count
    rw [br_F (ne _ (by decide)), br_F (ne _ (by decide)), br_F (ne _ (by decide)), br_F (ne _ (by decide)), br_F (ne _ (by decide)), br_F (ne _ (by decide)), br_F (ne _ (by decide)), br_F (ne _ (by decide)), br_F (ne _ (by decide)), br_F (ne _ (by decide))]
noncomputable def qSec (S : SC) (i : Nat) : Nat → Int32
  | 0 => nI (s_vo S i)
  | 1 => nI (s_ar S i)
  | 2 => nI (s_ch S i)
  | 3 => nI (s_fe S i)
  | 4 => nI (rk S i)
  | 5 => nI (need S i)
  | 6 => nI (pores S i)
  | 7 => nI (exc S i)
  | 8 => enc (src S i)
  | 9 => nI (cnt (fedB S (some i)) (s_n S))
  | _ => nI (cnt (fun j => tch S j i) (s_m S))
noncomputable def aSec (S : SC) (i : Nat) (x : Int32) : Int32 := if 0 ≤ x ∧ x ≤ 10 then qSec S i x.toNatClampNeg else -3
/-- x is none of the numbers below n -/
def outN (n : Nat) (x : Int32) : Prop := x < 0 ∨ nI n ≤ x
theorem in_out (x : Int32) {n : Nat} (hn : n < 2 ^ 31) : (∃ i, i < n ∧ x = nI i) ∨ outN n x := by
  by_cases c : x < 0
  · exact Or.inr (Or.inl c)
  · by_cases d : nI n ≤ x
    · exact Or.inr (Or.inr d)
    · left
      have h0 : 0 ≤ x := Int32.not_lt.mp c
      have h1 : x < nI n := Int32.not_le.mp d
      cases n with
      | zero => exact absurd h1 c
      | succ n =>
        have h2 : x ≤ nI n := by
          rw [Int32.lt_iff_toInt_lt, nI_toInt hn] at h1
          rw [Int32.le_iff_toInt_le, nI_toInt (by omega)]
          omega
        obtain ⟨k, a, b⟩ := dig (by omega) ⟨h0, h2⟩
        exact ⟨k, by omega, b⟩
theorem section_ok {v : CV} {w : FV} {S : SC} (h : RepC v S) (hF : FrF w S) (hO : OkC S) {i : Nat} (hi : i < s_n S) (x : Int32) : f_X4_section v w (nI i) x = some (aSec S i x) := by
  have hn := hO.n
  have hf := hO.fe hi
  unfold f_X4_section
  rw [has_yes h hO hi, bd_s, br_F (by decide)]
  by_cases c : 0 ≤ x ∧ x ≤ 10
  · obtain ⟨k, hk, rfl⟩ := dig (b := 10) (by omega) c
    unfold aSec
    rw [if_pos c, cl_ (by omega)]
    match k, hk with
    | 0, _ => rw [br_T (by decide), at_in (by omega) (by omega), h.vo i hi]; rfl
    | 1, _ => rw [br_F (by decide), br_T (by decide), at_in (by omega) (by omega), h.ar i hi]; rfl
    | 2, _ => rw [br_F (by decide), br_F (by decide), br_T (by decide), at_in (by omega) (by omega), h.ch i hi]; rfl
    | 3, _ =>
      rw [br_F (by decide), br_F (by decide), br_F (by decide), br_T (by decide), isFeeder_ok h hO hi, bd_s, br_z _ (by omega)]
      show _ = some (nI (s_fe S i))
      by_cases d : s_fe S i = 0
      · rw [if_pos d, d]; rfl
      · rw [if_neg d, show s_fe S i = 1 from by omega]; rfl
    | 4, _ => rw [br_F (by decide), br_F (by decide), br_F (by decide), br_F (by decide), br_T (by decide), at_in (by omega) (by omega), hF.st i hi]; rfl
    | 5, _ => rw [br_F (by decide), br_F (by decide), br_F (by decide), br_F (by decide), br_F (by decide), br_T (by decide), at_in (by omega) (by omega), hF.ne i hi]; rfl
    | 6, _ => rw [br_F (by decide), br_F (by decide), br_F (by decide), br_F (by decide), br_F (by decide), br_F (by decide), br_T (by decide), at_in (by omega) (by omega), hF.po i hi]; rfl
    | 7, _ => rw [br_F (by decide), br_F (by decide), br_F (by decide), br_F (by decide), br_F (by decide), br_F (by decide), br_F (by decide), br_T (by decide), at_in (by omega) (by omega), hF.ex i hi]; rfl
    | 8, _ => rw [br_F (by decide), br_F (by decide), br_F (by decide), br_F (by decide), br_F (by decide), br_F (by decide), br_F (by decide), br_F (by decide), br_T (by decide), at_in (by omega) (by omega), hF.so i hi]; rfl
    | 9, _ => rw [br_F (by decide), br_F (by decide), br_F (by decide), br_F (by decide), br_F (by decide), br_F (by decide), br_F (by decide), br_F (by decide), br_F (by decide), br_T (by decide), show nI i = enc (some i) from rfl, fedBy_ok hF hO (fun f z => by cases z; omega)]; rfl
    | 10, _ => rw [br_F (by decide), br_F (by decide), br_F (by decide), br_F (by decide), br_F (by decide), br_F (by decide), br_F (by decide), br_F (by decide), br_F (by decide), br_F (by decide), br_T (by decide), nbs_ok h hO hi]; rfl
    | k + 11, hk => omega
  · unfold aSec
    rw [if_neg c]
    have ne : ∀ y : Int32, (0 ≤ y ∧ y ≤ 10) → ¬ x = y := fun y hy z => c (z ▸ hy)
    rw [br_F (ne _ (by decide)), br_F (ne _ (by decide)), br_F (ne _ (by decide)), br_F (ne _ (by decide)), br_F (ne _ (by decide)), br_F (ne _ (by decide)), br_F (ne _ (by decide)), br_F (ne _ (by decide)), br_F (ne _ (by decide)), br_F (ne _ (by decide)), br_F (ne _ (by decide))]
theorem section_no {v : CV} {w : FV} {S : SC} (h : RepC v S) {x y : Int32} (hx : outN (s_n S) x) : f_X4_section v w x y = some (-2) := by
  unfold f_X4_section
  rw [has_no h hx, bd_s, br_T rfl]
theorem joint_no {v : CV} {S : SC} (h : RepC v S) {x y : Int32} (hx : outN (s_m S) x) : f_X4_joint v x y = some (-2) := by
  unfold f_X4_joint
  rw [hasJ_no h hx, bd_s, br_T rfl]
def aJoint (S : SC) (j : Nat) (y : Int32) : Int32 := if y = 0 then nI (s_ja S j) else if y = 1 then nI (s_jb S j) else -3
theorem bin_iff {y : Int32} : (0 ≤ y ∧ y ≤ 1) ↔ (y = 0 ∨ y = 1) := by
  constructor
  · intro q
    obtain ⟨k, hk, rfl⟩ := dig (b := 1) (by omega) q
    rcases (by omega : k = 0 ∨ k = 1) with rfl | rfl
    · exact Or.inl rfl
    · exact Or.inr rfl
  · rintro (rfl | rfl) <;> decide
theorem joint_ok {v : CV} {S : SC} (h : RepC v S) (hO : OkC S) {j : Nat} (hj : j < s_m S) (y : Int32) : f_X4_joint v (nI j) y = some (aJoint S j y) := by
  have hm := hO.m
  unfold f_X4_joint aJoint
  rw [hasJ_yes h hO hj, bd_s, br_F (by decide), within_ok, bd_s, b1_ne]
  by_cases c : y = 0 ∨ y = 1
  · rw [if_pos (bin_iff.mpr c)]
    rcases c with rfl | rfl
    · rw [br_T rfl, if_pos rfl, at_in (by omega) (by omega), bd_s, h.fi j hj]
    · rw [br_F (by decide), if_neg (by decide), if_pos rfl, at_in (by omega) (by omega), bd_s, h.sd j hj]
  · rw [if_neg (fun z => c (bin_iff.mp z)), if_neg (fun z => c (Or.inl z)), if_neg (fun z => c (Or.inr z))]
noncomputable def aStep (S : SC) (x : Int32) : Int32 := if 0 ≤ x then (if nI (s_n S) ≤ x then -1 else nI (ord S x.toNatClampNeg)) else -3
theorem atStep_ok {v : CV} {w : FV} {S : SC} (h : RepC v S) (hF : FrF w S) (hO : OkC S) (x : Int32) : f_X4_atStep v w x = some (aStep S x) := by
  have hn := hO.n
  unfold f_X4_atStep aStep
  by_cases c : 0 ≤ x
  · rw [br_T c, if_pos c, h.se]
    by_cases d : nI (s_n S) ≤ x
    · rw [br_T d, if_pos d]
    · rw [br_F d, if_neg d]
      rcases in_out x (n := s_n S) (by omega) with ⟨i, hi, rfl⟩ | q
      · rw [at_in (by omega) (by omega), bd_s, hF.od i hi, cl_ (by omega)]
      · rcases q with q | q
        · exact absurd q (Int32.not_lt.mpr c)
        · exact absurd q d
  · rw [br_F c, if_neg c]
theorem way_loop {v : CV} {w : FV} {S : SC} (hF : FrF w S) (hO : OkC S) (k : Int32) : ∀ (d fu : Nat) (o : Option Nat) (t : Nat), d < fu → (∀ x, o = some x → x < s_n S ∧ s_n S - rk S x < d ∧ t + (s_n S - rk S x) ≤ 12) → t ≤ 12 → 0 < d → f_X4_way_b26 v w k fu (enc o) (nI t) = some (enc (wy S k d o (nI t))) := by
  have hn := hO.n
  intro d
  induction d with
  | zero => intro fu o t h1 h2 h0 h3; omega
  | succ d ih =>
    intro fu o t h1 h2 h0 h3
    obtain ⟨fu, rfl⟩ : ∃ z, fu = z + 1 := ⟨fu - 1, by omega⟩
    rw [f_X4_way_b26]
    dsimp only
    cases o with
    | none =>
      by_cases c : k ≤ nI t
      · rw [br_T c]; rfl
      · rw [br_F c]
        by_cases c2 : (12 : Int32) ≤ nI t
        · rw [br_T c2]; rfl
        · rw [br_F c2, br_T (show enc none = -1 from rfl)]; rfl
    | some x =>
      obtain ⟨q1, q2, q4⟩ := h2 x rfl
      have q3 := rk_lt q1
      have c2 : ¬ (12 : Int32) ≤ nI t := by
        rw [show (12 : Int32) = nI 12 from rfl, nI_leI (by omega) (by omega)]
        omega
      unfold wy
      by_cases c : k ≤ nI t
      · rw [br_T c, if_pos c]
      · rw [br_F c, if_neg c, br_F c2, show enc (some x) = nI x from rfl, br_F (m1_ne x (by omega)), at_in (by omega) (by omega), bd_s, nm_s, hF.so x q1, nI_1]
        refine ih fu _ _ (by omega) (fun y hy => ?_) (by omega) (by omega)
        obtain ⟨r1, r2, r3, -⟩ := src_some hO hy
        have r4 := rk_lt r1
        exact ⟨r1, by omega, by omega⟩
noncomputable def aWay (S : SC) (i : Nat) (k : Int32) : Int32 := if 0 ≤ k then enc (wy S k 14 (some i) 0) else -3
theorem way_ok {v : CV} {w : FV} {S : SC} (h : RepC v S) (hF : FrF w S) (hO : OkC S) {i : Nat} (hi : i < s_n S) (k : Int32) : f_X4_way v w (nI i) k = some (aWay S i k) := by
  have hn := hO.n
  have hr := rk_lt hi
  unfold f_X4_way aWay
  rw [has_yes h hO hi, bd_s, br_F (by decide)]
  by_cases c : 0 ≤ k
  · rw [br_T c, if_pos c, show nI i = enc (some i) from rfl]
    exact way_loop hF hO k 14 FU (some i) 0 (FU_big (by omega)) (fun x hx => by cases hx; exact ⟨hi, by omega, by omega⟩) (by omega) (by omega)
  · rw [br_F c, if_neg c]
theorem way_no {v : CV} {w : FV} {S : SC} (h : RepC v S) {x y : Int32} (hx : outN (s_n S) x) : f_X4_way v w x y = some (-2) := by
  unfold f_X4_way
  rw [has_no h hx, bd_s, br_T rfl]
theorem end_ok {v : CV} {w : FV} {S : SC} (h : RepC v S) (hF : FrF w S) (hO : OkC S) {i : Nat} (hi : i < s_n S) : f_X4_end v w (nI i) = some (nI (en S (s_n S) i)) := by
  unfold f_X4_end
  rw [has_yes h hO hi, bd_s, br_F (by decide), hot_ok hF hO hi]
  rfl
theorem end_no {v : CV} {w : FV} {S : SC} (h : RepC v S) {x : Int32} (hx : outN (s_n S) x) : f_X4_end v w x = some (-2) := by
  unfold f_X4_end
  rw [has_no h hx, bd_s, br_T rfl]
theorem gath_sum {S : SC} (hO : OkC S) {i k : Nat} (hk : k ≤ s_n S) : sm (gath S i) k ≤ 12000 := by
  have h1 := hO.n
  have h2 : sm (gath S i) k ≤ k * 1000 := sm_le (fun x hx => gath_le hO (by omega))
  omega
theorem gathers_ok {v : CV} {w : FV} {S : SC} (h : RepC v S) (hF : FrF w S) (hO : OkC S) {i : Nat} (hi : i < s_n S) : f_X4_gathers v w (nI i) = some (nI (sm (gath S i) (s_n S))) := by
  have hn := hO.n
  unfold f_X4_gathers
  rw [has_yes h hO hi, bd_s, br_F (by decide)]
  refine (?_ : f_X4_gathers_b18 v w (nI i) FU (nI (sm (gath S i) 0)) (nI 0) = _)
  refine loop0 (fun fu x => f_X4_gathers_b18 v w (nI i) fu (nI (sm (gath S i) x)) (nI x)) (s_n S) _ (by omega) (fun fu x hx => ?_) (fun fu => ?_)
  · have he := en_lt hO (s_n S) x hx
    try dsimp only
    rw [f_X4_gathers_b18]
    dsimp only
    rw [h.se, br_le _ _ (by omega) (by omega), if_neg (by omega), hot_ok hF hO hx, bd_s, br_eq _ _ (by omega) (by omega), sm_s]
    by_cases c : en S (s_n S) x = i
    · rw [if_pos c, firstNeed_ok h hO hx, bd_s, show gath S i x = fneed S x from if_pos c]
      simp only [nm_s, nI_1, nI_add]
    · rw [if_neg c, show gath S i x = 0 from if_neg c]
      simp only [nm_s, nI_1, Nat.add_zero]
  · try dsimp only
    rw [f_X4_gathers_b18]
    dsimp only
    rw [h.se, br_le _ _ (by omega) (by omega), if_pos (by omega)]
theorem gathers_no {v : CV} {w : FV} {S : SC} (h : RepC v S) {x : Int32} (hx : outN (s_n S) x) : f_X4_gathers v w x = some (-2) := by
  unfold f_X4_gathers
  rw [has_no h hx, bd_s, br_T rfl]
