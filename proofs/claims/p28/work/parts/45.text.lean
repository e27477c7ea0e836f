/-! ===== 45: the text, as the document reads it; both readers' small steps ===== -/
def cd (c : AF) (L p : Nat) : Int32 := if p < L then c p else -1
def skd (c : AF) (L : Nat) : Nat → Nat → Nat
  | 0, p => p
  | d + 1, p => if p < L ∧ c p = 32 then skd c L d (p + 1) else p
def skp (c : AF) (L p : Nat) : Nat := skd c L (L - p) p
theorem skd_more {c : AF} {L : Nat} : ∀ (d p : Nat), L - p ≤ d → skd c L d p = skd c L (L - p) p
  | 0, p, h => by rw [show L - p = 0 from by omega]
  | d + 1, p, h => by
    by_cases q : p < L
    · rw [show L - p = (L - (p + 1)) + 1 from by omega]
      unfold skd
      by_cases z : p < L ∧ c p = 32
      · rw [if_pos z, if_pos z]
        exact skd_more d (p + 1) (by omega)
      · rw [if_neg z, if_neg z]
    · rw [show L - p = 0 from by omega]
      unfold skd
      rw [if_neg (fun z => q z.1)]
theorem skp_y {c : AF} {L p : Nat} (h1 : p < L) (h2 : c p = 32) : skp c L p = skp c L (p + 1) := by
  unfold skp
  rw [show L - p = (L - (p + 1)) + 1 from by omega]
  conv => lhs; unfold skd
  rw [if_pos ⟨h1, h2⟩]
theorem skp_n {c : AF} {L p : Nat} (h : ¬ (p < L ∧ c p = 32)) : skp c L p = p := by
  unfold skp
  cases e : L - p with
  | zero => rfl
  | succ d => unfold skd; rw [if_neg h]
theorem skp_le {c : AF} {L : Nat} : ∀ (d p : Nat), p ≤ L → L - p ≤ d → p ≤ skp c L p ∧ skp c L p ≤ L ∧ ¬ (skp c L p < L ∧ c (skp c L p) = 32) := by
  intro d
  induction d with
  | zero =>
    intro p h1 h2
    rw [skp_n (by omega)]
    exact ⟨Nat.le_refl _, h1, by omega⟩
  | succ d ih =>
    intro p h1 h2
    by_cases z : p < L ∧ c p = 32
    · rw [skp_y z.1 z.2]
      obtain ⟨a, b, e⟩ := ih (p + 1) (by omega) (by omega)
      exact ⟨by omega, b, e⟩
    · rw [skp_n z]
      exact ⟨Nat.le_refl _, h1, z⟩
theorem skp_ge {c : AF} {L p : Nat} (h : p ≤ L) : p ≤ skp c L p := (skp_le (L - p) p h (Nat.le_refl _)).1
theorem skp_to {c : AF} {L p : Nat} (h : p ≤ L) : skp c L p ≤ L := (skp_le (L - p) p h (Nat.le_refl _)).2.1
theorem skp_stop {c : AF} {L p : Nat} (h : p ≤ L) : ¬ (skp c L p < L ∧ c (skp c L p) = 32) := (skp_le (L - p) p h (Nat.le_refl _)).2.2
theorem skp_idem {c : AF} {L p : Nat} (h : p ≤ L) : skp c L (skp c L p) = skp c L p := skp_n (skp_stop h)
theorem cd_in {c : AF} {L p : Nat} (h : p < L) : cd c L p = c p := if_pos h
theorem cd_out {c : AF} {L p : Nat} (h : ¬ p < L) : cd c L p = -1 := if_neg h
theorem cd_lt {c : AF} {L p : Nat} {x : Int32} (hx : x ≠ -1) (h : cd c L p = x) : p < L := by
  by_cases q : p < L
  · exact q
  · rw [cd_out q] at h; exact absurd h.symm hx
abbrev isDg (x : Int32) : Prop := 48 ≤ x ∧ x ≤ 57
theorem m1_nd : ¬ isDg (-1) := fun q => absurd q.1 (by decide)
def rnd (c : AF) (L : Nat) : Nat → Nat → Nat
  | 0, p => p
  | d + 1, p => if p < L ∧ isDg (c p) then rnd c L d (p + 1) else p
/-- where the digits from p on end -/
def rn (c : AF) (L p : Nat) : Nat := rnd c L (L - p) p
theorem rn_y {c : AF} {L p : Nat} (h1 : p < L) (h2 : isDg (c p)) : rn c L p = rn c L (p + 1) := by
  unfold rn
  rw [show L - p = (L - (p + 1)) + 1 from by omega]
  conv => lhs; unfold rnd
  rw [if_pos ⟨h1, h2⟩]
theorem rn_n {c : AF} {L p : Nat} (h : ¬ (p < L ∧ isDg (c p))) : rn c L p = p := by
  unfold rn
  cases e : L - p with
  | zero => rfl
  | succ d => unfold rnd; rw [if_neg h]
theorem rn_le {c : AF} {L : Nat} : ∀ (d p : Nat), p ≤ L → L - p ≤ d → p ≤ rn c L p ∧ rn c L p ≤ L := by
  intro d
  induction d with
  | zero => intro p h1 h2; rw [rn_n (by omega)]; omega
  | succ d ih =>
    intro p h1 h2
    by_cases z : p < L ∧ isDg (c p)
    · rw [rn_y z.1 z.2]
      have := ih (p + 1) (by omega) (by omega)
      omega
    · rw [rn_n z]; omega
def vl (c : AF) (s : Nat) : Nat → Int32
  | 0 => 0
  | k + 1 => 10 * vl c s k + c (s + k) - 48
/-- a number between lo and hi, and where it ends; none: a fault at the first code -/
def nmb (c : AF) (L : Nat) (lo hi : Int32) (p : Nat) : Option (Int32 × Nat) :=
  if (skp c L p < rn c L (skp c L p) ∧ rn c L (skp c L p) < skp c L p + 5) ∧ lo ≤ vl c (skp c L p) (rn c L (skp c L p) - skp c L p) ∧ vl c (skp c L p) (rn c L (skp c L p) - skp c L p) ≤ hi then some (vl c (skp c L p) (rn c L (skp c L p) - skp c L p), rn c L (skp c L p)) else none
theorem nmb_in {c : AF} {L p e : Nat} {lo hi x : Int32} (hp : p ≤ L) (h : nmb c L lo hi p = some (x, e)) : p < e ∧ e ≤ L ∧ lo ≤ x ∧ x ≤ hi := by
  unfold nmb at h
  split at h
  · rename_i q
    cases h
    have h1 := skp_ge (c := c) hp
    have h2 := rn_le (c := c) (L - skp c L p) (skp c L p) (skp_to hp) (Nat.le_refl _)
    exact ⟨by omega, h2.2, q.2⟩
  · cases h
/-- a sign, and what stands behind it -/
def sgn (c : AF) (L : Nat) (x : Int32) (p : Nat) : Option Nat := if cd c L (skp c L p) = x then some (skp c L p + 1) else none
theorem sgn_in {c : AF} {L p e : Nat} {x : Int32} (hp : p ≤ L) (hx : x ≠ -1) (h : sgn c L x p = some e) : p < e ∧ e ≤ L := by
  unfold sgn at h
  split at h
  · rename_i q
    cases h
    have h1 := skp_ge (c := c) hp
    have h2 := cd_lt hx q
    omega
  · cases h
/-! the program's steps -/
theorem code_ok {co c : AF} {L p : Nat} {it pl fa : Int32} (h : ∀ i, i < L → co i = c i) (hL : L ≤ 120) (hp : p < 2 ^ 31) : f_X3_codeAt (co, nI L, it, pl, fa) (nI p) = some (cd c L p) := by
  unfold f_X3_codeAt
  dsimp only [T_co, T_le, T_it, T_pl, T_fa]
  rw [br_neg _ hp, br_le _ _ (by omega) hp, show (120 : Int32) = nI 120 from rfl, br_le _ _ (by omega) hp]
  by_cases q : p < L
  · rw [if_neg (by omega), if_neg (by omega), ck_in (by omega) (by omega), cl_ hp, cd_in q, h p q]
  · rw [if_pos (by omega), cd_out q]
theorem next_ok {co c : AF} {L : Nat} {it fa : Int32} (h : ∀ i, i < L → co i = c i) (hL : L ≤ 120) : ∀ (d p t fu : Nat), p ≤ L → L - p ≤ d → d < fu → t ≤ p → f_X3_next_b2 fu (co, nI L, it, nI p, fa) (nI t) = some (cd c L (skp c L p), (co, nI L, it, nI (skp c L p), fa)) := by
  intro d
  induction d with
  | zero =>
    intro p t fu h1 h2 h3 h4
    obtain ⟨fu, rfl⟩ : ∃ z, fu = z + 1 := ⟨fu - 1, by omega⟩
    rw [skp_n (by omega), f_X3_next_b2]
    unfold f_X3_next_b37
    dsimp only [T_co, T_le, T_it, T_pl, T_fa]
    rw [code_ok h hL (by omega), bd_s, bd_s, cd_out (by omega), br_F (show ¬ (-1 : Int32) = 32 by decide)]
    by_cases q : 120 ≤ nI t
    · rw [br_T q]
    · rw [br_F q]
  | succ d ih =>
    intro p t fu h1 h2 h3 h4
    obtain ⟨fu, rfl⟩ : ∃ z, fu = z + 1 := ⟨fu - 1, by omega⟩
    rw [f_X3_next_b2]
    unfold f_X3_next_b37
    dsimp only [T_co, T_le, T_it, T_pl, T_fa]
    rw [code_ok h hL (by omega), bd_s, bd_s, show (120 : Int32) = nI 120 from rfl, br_le _ _ (by omega) (by omega)]
    by_cases z : p < L ∧ c p = 32
    · rw [if_neg (by omega), cd_in z.1, br_T z.2, nm_s, nm_s, nI_1, nI_1, skp_y z.1 z.2]
      exact ih (p + 1) (t + 1) fu (by omega) (by omega) (by omega) (by omega)
    · rw [skp_n z, br_F (fun q => z ⟨cd_lt (by decide) q, by rw [← q, cd_in (cd_lt (by decide) q)]⟩)]
      split <;> rfl
theorem nxt {co c : AF} {L p : Nat} {it fa : Int32} (h : ∀ i, i < L → co i = c i) (hL : L ≤ 120) (hp : p ≤ L) : f_X3_next (co, nI L, it, nI p, fa) = some (cd c L (skp c L p), (co, nI L, it, nI (skp c L p), fa)) := by
  unfold f_X3_next
  exact next_ok h hL L p 0 FU hp (by omega) (FU_big (by omega)) (Nat.zero_le _)
theorem dg_ok {x : Int32} {α : Type} {p q : Option α} : (bd (f_X3_isDigit x) fun r => br (r = 0) p q) = if 48 ≤ x ∧ x ≤ 57 then q else p := by
  unfold f_X3_isDigit
  by_cases c1 : x < 48
  · rw [br_T c1, bd_s, br_T rfl, if_neg (fun z => Int32.not_lt.mpr z.1 c1)]
  · rw [br_F c1]
    by_cases c2 : 57 < x
    · rw [br_T c2, bd_s, br_T rfl, if_neg (fun z => Int32.not_lt.mpr z.2 c2)]
    · rw [br_F c2, bd_s, br_F (by decide), if_pos ⟨Int32.not_lt.mp c1, Int32.not_lt.mp c2⟩]
theorem b95_ok {u : TV} {lo hi x x6 : Int32} {k : Nat} (hk : k < 2 ^ 31) : f_X3_readNumber_b95 u lo hi x (nI k) x6 = if (0 < k ∧ k < 5) ∧ lo ≤ x ∧ x ≤ hi then some (x, u) else some (x, (T_co u, T_le u, T_it u, T_pl u, x6)) := by
  unfold f_X3_readNumber_b95 f_X3_readNumber_b115
  rw [br_z _ hk, show (4 : Int32) = nI 4 from rfl, br_lt _ _ (by omega) hk, within_ok, bd_s, b1_ne]
  by_cases c1 : k = 0
  · rw [if_pos c1, if_neg (fun z => by omega)]
  · rw [if_neg c1]
    by_cases c2 : 4 < k
    · rw [if_pos c2, if_neg (fun z => by omega)]
    · rw [if_neg c2]
      by_cases c3 : lo ≤ x ∧ x ≤ hi
      · rw [if_pos c3, if_pos ⟨by omega, c3⟩]
      · rw [if_neg c3, if_neg (fun z => c3 z.2)]
theorem num_loop {co c : AF} {L s : Nat} {it fa lo hi : Int32} (h : ∀ i, i < L → co i = c i) (hL : L ≤ 120) (hs : s ≤ L) : ∀ (d k fu : Nat) (x : Int32), s + k ≤ L → L - (s + k) ≤ d → d < fu → rn c L (s + k) = rn c L s → (k ≤ 4 → x = vl c s k) →
    ∃ y, f_X3_readNumber_b30 lo hi (nI s) fu (co, nI L, it, nI (s + k), fa) x (nI k) (cd c L (s + k)) (nI k) = (if (s < rn c L s ∧ rn c L s < s + 5) ∧ lo ≤ y ∧ y ≤ hi then some (y, (co, nI L, it, nI (rn c L s), fa)) else some (y, (co, nI L, it, nI (rn c L s), nI s))) ∧ (rn c L s < s + 5 → y = vl c s (rn c L s - s)) := by
  intro d
  induction d with
  | zero =>
    intro k fu x h1 h2 h3 h4 h5
    obtain ⟨fu, rfl⟩ : ∃ z, fu = z + 1 := ⟨fu - 1, by omega⟩
    have e : rn c L s = s + k := by rw [← h4]; exact rn_n (by omega)
    refine ⟨x, ?_, fun q => by rw [e, show s + k - s = k from by omega]; exact h5 (by omega)⟩
    rw [f_X3_readNumber_b30]
    dsimp only
    rw [dg_ok, cd_out (by omega), if_neg (by decide), b95_ok (by omega), e]
    dsimp only [T_co, T_le, T_it, T_pl, T_fa]
    have : ((0 < k ∧ k < 5) ∧ lo ≤ x ∧ x ≤ hi) ↔ ((s < s + k ∧ s + k < s + 5) ∧ lo ≤ x ∧ x ≤ hi) := by
      constructor
      · rintro ⟨a, b⟩; exact ⟨by omega, b⟩
      · rintro ⟨a, b⟩; exact ⟨by omega, b⟩
    by_cases z : (0 < k ∧ k < 5) ∧ lo ≤ x ∧ x ≤ hi
    · rw [if_pos z, if_pos (this.mp z)]
      unfold br
      split <;> rfl
    · rw [if_neg z, if_neg (fun y => z (this.mpr y))]
      unfold br
      split <;> rfl
  | succ d ih =>
    intro k fu x h1 h2 h3 h4 h5
    obtain ⟨fu, rfl⟩ : ∃ z, fu = z + 1 := ⟨fu - 1, by omega⟩
    by_cases q : s + k < L ∧ isDg (c (s + k))
    · rw [f_X3_readNumber_b30]
      dsimp only
      unfold f_X3_readNumber_b65
      dsimp only [T_co, T_le, T_it, T_pl, T_fa]
      rw [show (120 : Int32) = nI 120 from rfl, br_le _ _ (by omega) (by omega), if_neg (by omega), dg_ok, cd_in q.1, if_pos (show 48 ≤ c (s + k) ∧ c (s + k) ≤ 57 from q.2), show (4 : Int32) = nI 4 from rfl, br_le _ _ (by omega) (by omega)]
      simp only [nm_s, nI_1, code_ok h hL (by omega : s + k + 1 < 2 ^ 31), bd_s]
      have e4 : rn c L (s + (k + 1)) = rn c L s := by rw [← h4]; exact (rn_y q.1 q.2).symm
      by_cases z : 4 ≤ k
      · rw [if_pos z]
        exact ih (k + 1) fu x (by omega) (by omega) (by omega) e4 (fun y => by omega)
      · rw [if_neg z]
        refine ih (k + 1) fu _ (by omega) (by omega) (by omega) e4 (fun y => ?_)
        rw [h5 (by omega)]
        rfl
    · have e : rn c L s = s + k := by rw [← h4]; exact rn_n q
      refine ⟨x, ?_, fun q => by rw [e, show s + k - s = k from by omega]; exact h5 (by omega)⟩
      have nd_ : ¬ (48 ≤ cd c L (s + k) ∧ cd c L (s + k) ≤ 57) := by
        intro w
        by_cases l : s + k < L
        · rw [cd_in l] at w; exact q ⟨l, w⟩
        · rw [cd_out l] at w; exact m1_nd w
      rw [f_X3_readNumber_b30]
      dsimp only
      rw [dg_ok, if_neg nd_, b95_ok (by omega), e]
      dsimp only [T_co, T_le, T_it, T_pl, T_fa]
      have : ((0 < k ∧ k < 5) ∧ lo ≤ x ∧ x ≤ hi) ↔ ((s < s + k ∧ s + k < s + 5) ∧ lo ≤ x ∧ x ≤ hi) := by
        constructor
        · rintro ⟨a, b⟩; exact ⟨by omega, b⟩
        · rintro ⟨a, b⟩; exact ⟨by omega, b⟩
      by_cases z : (0 < k ∧ k < 5) ∧ lo ≤ x ∧ x ≤ hi
      · rw [if_pos z, if_pos (this.mp z)]
        unfold br
        split <;> rfl
      · rw [if_neg z, if_neg (fun y => z (this.mpr y))]
        unfold br
        split <;> rfl
theorem number_ok {co c : AF} {L p : Nat} {it lo hi : Int32} (h : ∀ i, i < L → co i = c i) (hL : L ≤ 120) (hp : p ≤ L) :
    (∃ x e, nmb c L lo hi p = some (x, e) ∧ f_X3_readNumber (co, nI L, it, nI p, -1) lo hi = some (x, (co, nI L, it, nI e, -1))) ∨ (nmb c L lo hi p = none ∧ ∃ y pl, f_X3_readNumber (co, nI L, it, nI p, -1) lo hi = some (y, (co, nI L, it, nI pl, nI (skp c L p))) ∧ pl ≤ L) := by
  have hs := skp_to (c := c) hp
  obtain ⟨y, e, q⟩ := num_loop (it := it) (fa := -1) (lo := lo) (hi := hi) h hL hs (L - skp c L p) 0 FU 0 hs (Nat.le_refl _) (FU_big (by omega)) rfl (fun _ => rfl)
  have hr := rn_le (c := c) (L - skp c L p) (skp c L p) hs (Nat.le_refl _)
  have e0 : f_X3_readNumber (co, nI L, it, nI p, -1) lo hi = f_X3_readNumber_b30 lo hi (nI (skp c L p)) FU (co, nI L, it, nI (skp c L p + 0), -1) 0 (nI 0) (cd c L (skp c L p + 0)) (nI 0) := by
    unfold f_X3_readNumber
    rw [br_T (show T_fa (co, nI L, it, nI p, -1) = -1 from rfl), nxt h hL hp, bd2_s]
    rfl
  rw [e0, e]
  unfold nmb
  by_cases w : skp c L p < rn c L (skp c L p) ∧ rn c L (skp c L p) < skp c L p + 5
  · rw [← q w.2]
    by_cases z : lo ≤ y ∧ y ≤ hi
    · rw [if_pos ⟨w, z⟩, if_pos ⟨w, z⟩]
      exact Or.inl ⟨y, _, rfl, rfl⟩
    · rw [if_neg (fun k => z k.2), if_neg (fun k => z k.2)]
      exact Or.inr ⟨rfl, y, _, rfl, hr.2⟩
  · rw [if_neg (fun k => w k.1), if_neg (fun k => w k.1)]
    exact Or.inr ⟨rfl, y, _, rfl, hr.2⟩
theorem number_f {u : TV} {lo hi : Int32} (h : ¬ T_fa u = -1) : f_X3_readNumber u lo hi = some (0, u) := by
  unfold f_X3_readNumber
  rw [br_F h]
theorem expect_f {u : TV} {x : Int32} (h : ¬ T_fa u = -1) : f_X3_expect u x = some u := by
  unfold f_X3_expect
  rw [br_F h]
theorem expect_ok {co c : AF} {L p : Nat} {it x : Int32} (h : ∀ i, i < L → co i = c i) (hL : L ≤ 120) (hp : p ≤ L) :
    (∃ e, sgn c L x p = some e ∧ f_X3_expect (co, nI L, it, nI p, -1) x = some (co, nI L, it, nI e, -1)) ∨ (sgn c L x p = none ∧ f_X3_expect (co, nI L, it, nI p, -1) x = some (co, nI L, it, nI (skp c L p), nI (skp c L p))) := by
  unfold f_X3_expect sgn
  rw [br_T (show T_fa (co, nI L, it, nI p, -1) = -1 from rfl), nxt h hL hp, bd2_s]
  by_cases q : cd c L (skp c L p) = x
  · rw [br_T q, if_pos q, nm_s]
    exact Or.inl ⟨_, rfl, by dsimp only [T_co, T_le, T_it, T_pl, T_fa]; rw [nI_1]⟩
  · rw [br_F q, if_neg q]
    exact Or.inr ⟨rfl, rfl⟩
