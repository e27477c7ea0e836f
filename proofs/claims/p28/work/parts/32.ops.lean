/-! ===== 32: what changes a casting: the program's Casting ===== -/
theorem copyFrom_ok {v v1 : CV} (hf : ∀ i, i < 12 → C_fe v1 i = 0 ∨ C_fe v1 i = 1) : f_X0_copyFrom v v1 = some (C_se v1, C_jo v1, C_sh v1, C_pi v1, mix (C_vo v1) (C_vo v) 12, mix (C_ar v1) (C_ar v) 12, mix (C_ch v1) (C_ch v) 12, mix (C_fe v1) (C_fe v) 12, mix (C_fi v1) (C_fi v) 20, mix (C_sd v1) (C_sd v) 20) := by
  unfold f_X0_copyFrom
  refine (?_ : f_X0_copyFrom_b34 v1 FU (C_se v1, C_jo v1, C_sh v1, C_pi v1, C_vo v, C_ar v, C_ch v, C_fe v, C_fi v, C_sd v) (nI 0) = _)
  rw [show (C_se v1, C_jo v1, C_sh v1, C_pi v1, C_vo v, C_ar v, C_ch v, C_fe v, C_fi v, C_sd v) = (C_se v1, C_jo v1, C_sh v1, C_pi v1, mix (C_vo v1) (C_vo v) 0, mix (C_ar v1) (C_ar v) 0, mix (C_ch v1) (C_ch v) 0, mix (C_fe v1) (C_fe v) 0, C_fi v, C_sd v) from by rw [mix_0, mix_0, mix_0, mix_0]]
  refine loop0 (fun fu i => f_X0_copyFrom_b34 v1 fu (C_se v1, C_jo v1, C_sh v1, C_pi v1, mix (C_vo v1) (C_vo v) i, mix (C_ar v1) (C_ar v) i, mix (C_ch v1) (C_ch v) i, mix (C_fe v1) (C_fe v) i, C_fi v, C_sd v) (nI i)) 12 _ (by omega) (fun fu i hi => ?_) (fun fu => ?_)
  · try dsimp only
    rw [f_X0_copyFrom_b34]
    have fk := hf i hi
    try dsimp only [C_se, C_jo, C_sh, C_pi, C_vo, C_ar, C_ch, C_fe, C_fi, C_sd] at fk ⊢
    simp only [nm_s, nI_1, ck_in hi (by omega : 12 < 2 ^ 31), cl_ (by omega : i < 2 ^ 31)]
    rw [show (12 : Int32) = nI 12 from rfl, br_le _ _ (by omega) (by omega), if_neg (by omega), ck_b fk]
    rw [mix_s rfl, mix_s rfl, mix_s rfl, mix_s rfl]
  · try dsimp only
    rw [f_X0_copyFrom_b34]
    try dsimp only
    rw [show (12 : Int32) = nI 12 from rfl, br_le _ _ (by omega) (by omega), if_pos (by omega)]
    refine (?_ : f_X0_copyFrom_b96 v1 FU _ (nI 0) = _)
    rw [show (C_se v1, C_jo v1, C_sh v1, C_pi v1, mix (C_vo v1) (C_vo v) 12, mix (C_ar v1) (C_ar v) 12, mix (C_ch v1) (C_ch v) 12, mix (C_fe v1) (C_fe v) 12, C_fi v, C_sd v) = (C_se v1, C_jo v1, C_sh v1, C_pi v1, mix (C_vo v1) (C_vo v) 12, mix (C_ar v1) (C_ar v) 12, mix (C_ch v1) (C_ch v) 12, mix (C_fe v1) (C_fe v) 12, mix (C_fi v1) (C_fi v) 0, mix (C_sd v1) (C_sd v) 0) from by rw [mix_0, mix_0]]
    refine loop0 (fun fu i => f_X0_copyFrom_b96 v1 fu (C_se v1, C_jo v1, C_sh v1, C_pi v1, mix (C_vo v1) (C_vo v) 12, mix (C_ar v1) (C_ar v) 12, mix (C_ch v1) (C_ch v) 12, mix (C_fe v1) (C_fe v) 12, mix (C_fi v1) (C_fi v) i, mix (C_sd v1) (C_sd v) i) (nI i)) 20 _ (by omega) (fun fu i hi => ?_) (fun fu => ?_)
    · try dsimp only
      rw [f_X0_copyFrom_b96]
      try dsimp only [C_se, C_jo, C_sh, C_pi, C_vo, C_ar, C_ch, C_fe, C_fi, C_sd]
      simp only [nm_s, nI_1, ck_in hi (by omega : 20 < 2 ^ 31), cl_ (by omega : i < 2 ^ 31)]
      rw [show (20 : Int32) = nI 20 from rfl, br_le _ _ (by omega) (by omega), if_neg (by omega)]
      rw [mix_s rfl, mix_s rfl]
    · try dsimp only
      rw [f_X0_copyFrom_b96]
      try dsimp only
      rw [show (20 : Int32) = nI 20 from rfl, br_le _ _ (by omega) (by omega), if_pos (by omega)]
theorem copyFrom_rep {v v1 : CV} {S : SC} (h : RepC v1 S) (hO : OkC S) : ∃ v', f_X0_copyFrom v v1 = some v' ∧ RepC v' S := by
  have hn := hO.n
  have hm := hO.m
  refine ⟨_, copyFrom_ok h.ff, h.se, h.jo, h.sh, h.pi, fun i hi => ?_, fun i hi => ?_, fun i hi => ?_, fun i hi => ?_, fun j hj => ?_, fun j hj => ?_, fun i hi => ?_⟩
  · exact (mix_in (by omega)).trans (h.vo i hi)
  · exact (mix_in (by omega)).trans (h.ar i hi)
  · exact (mix_in (by omega)).trans (h.ch i hi)
  · exact (mix_in (by omega)).trans (h.fe i hi)
  · exact (mix_in (by omega)).trans (h.fi j hj)
  · exact (mix_in (by omega)).trans (h.sd j hj)
  · show mix (C_fe v1) (C_fe v) 12 i = 0 ∨ mix (C_fe v1) (C_fe v) 12 i = 1
    rw [mix_in hi]
    exact h.ff i hi
/-! one more section, one more joint -/
def sApp (S : SC) (vo ar ch fe : Nat) : SC := (s_n S + 1, s_m S, s_sh S, s_pi S, va_up (s_vo S) (s_n S) vo, va_up (s_ar S) (s_n S) ar, va_up (s_ch S) (s_n S) ch, va_up (s_fe S) (s_n S) fe, s_ja S, s_jb S)
theorem rep_up {f : AF} {g : Nat → Nat} {n x : Nat} {y : Int32} (hy : y = nI x) (h : ∀ i, i < n → f i = nI (g i)) : ∀ i, i < n + 1 → upd f n y i = nI (va_up g n x i) := by
  intro i hi
  unfold upd va_up
  by_cases q : i = n
  · rw [if_pos q, if_pos q, hy]
  · rw [if_neg q, if_neg q]
    exact h i (by omega)
theorem append_ok {v : CV} {S : SC} (h : RepC v S) (hO : OkC S) (hn : s_n S < 12) {vo ar ch fe : Nat} (hfe : fe ≤ 1) : ∃ v', f_X0_append v (nI vo) (nI ar) (nI ch) (nI fe) = some (nI (s_n S), v') ∧ RepC v' (sApp S vo ar ch fe) := by
  have e01 : nI fe = 0 ∨ nI fe = 1 := by
    rcases (by omega : fe = 0 ∨ fe = 1) with rfl | rfl
    · exact Or.inl rfl
    · exact Or.inr rfl
  refine ⟨(nI (s_n S + 1), C_jo v, C_sh v, C_pi v, upd (C_vo v) (s_n S) (nI vo), upd (C_ar v) (s_n S) (nI ar), upd (C_ch v) (s_n S) (nI ch), upd (C_fe v) (s_n S) (nI fe), C_fi v, C_sd v), ?_, ?_⟩
  · unfold f_X0_append
    rw [h.se, br_neg _ (by omega), show (12 : Int32) = nI 12 from rfl, br_lt _ _ (by omega) (by omega), if_pos hn]
    simp only [nm_s, nI_1, ck_in hn (by omega : 12 < 2 ^ 31), cl_ (by omega : s_n S < 2 ^ 31), ck_b e01]
  · refine ⟨rfl, h.jo, h.sh, h.pi, rep_up rfl h.vo, rep_up rfl h.ar, rep_up rfl h.ch, rep_up rfl h.fe, h.fi, h.sd, fun i hi => ?_⟩
    show upd (C_fe v) (s_n S) (nI fe) i = 0 ∨ upd (C_fe v) (s_n S) (nI fe) i = 1
    unfold upd
    by_cases q : i = s_n S
    · rw [if_pos q]; exact e01
    · rw [if_neg q]; exact h.ff i hi
theorem sApp_ok {S : SC} (hO : OkC S) (hn : s_n S < 12) {vo ar ch fe : Nat} (h1 : 1 ≤ vo ∧ vo ≤ 5000) (h2 : 1 ≤ ar ∧ ar ≤ 5000) (h3 : ch ≤ 500) (h4 : fe ≤ 1) : OkC (sApp S vo ar ch fe) := by
  refine ⟨?_, hO.m, hO.sh, hO.pi, fun i hi => ?_, fun j hj => ?_, fun i j hij hj => hO.one hij hj⟩
  · show s_n S + 1 ≤ 12; omega
  · have hi' : i < s_n S + 1 := hi
    show (1 ≤ va_up (s_vo S) (s_n S) vo i ∧ va_up (s_vo S) (s_n S) vo i ≤ 5000) ∧ (1 ≤ va_up (s_ar S) (s_n S) ar i ∧ va_up (s_ar S) (s_n S) ar i ≤ 5000) ∧ va_up (s_ch S) (s_n S) ch i ≤ 500 ∧ va_up (s_fe S) (s_n S) fe i ≤ 1
    unfold va_up
    by_cases q : i = s_n S
    · rw [if_pos q, if_pos q, if_pos q, if_pos q]; exact ⟨h1, h2, h3, h4⟩
    · rw [if_neg q, if_neg q, if_neg q, if_neg q]
      have : i < s_n S := by omega
      exact ⟨hO.vo this, hO.ar this, hO.ch this, hO.fe this⟩
  · obtain ⟨q1, q2, q3⟩ := hO.jj hj
    exact ⟨Nat.lt_succ_of_lt q1, Nat.lt_succ_of_lt q2, q3⟩
def sLink (S : SC) (a b : Nat) : SC := (s_n S, s_m S + 1, s_sh S, s_pi S, s_vo S, s_ar S, s_ch S, s_fe S, va_up (s_ja S) (s_m S) a, va_up (s_jb S) (s_m S) b)
theorem link_ok {v : CV} {S : SC} (h : RepC v S) (hO : OkC S) (hm : s_m S < 20) {a b : Nat} : ∃ v', f_X0_link v (nI a) (nI b) = some (nI (s_m S), v') ∧ RepC v' (sLink S a b) := by
  refine ⟨(C_se v, nI (s_m S + 1), C_sh v, C_pi v, C_vo v, C_ar v, C_ch v, C_fe v, upd (C_fi v) (s_m S) (nI a), upd (C_sd v) (s_m S) (nI b)), ?_, ?_⟩
  · unfold f_X0_link
    rw [h.jo, br_neg _ (by omega), show (20 : Int32) = nI 20 from rfl, br_lt _ _ (by omega) (by omega), if_pos hm]
    simp only [nm_s, nI_1, ck_in hm (by omega : 20 < 2 ^ 31), cl_ (by omega : s_m S < 2 ^ 31)]
  · exact ⟨h.se, rfl, h.sh, h.pi, h.vo, h.ar, h.ch, h.fe, rep_up rfl h.fi, rep_up rfl h.sd, h.ff⟩
theorem sLink_ok {S : SC} (hO : OkC S) (hm : s_m S < 20) {a b : Nat} (ha : a < s_n S) (hb : b < s_n S) (hab : a ≠ b) (hnb : nb S a b = false) : OkC (sLink S a b) := by
  have hnb' : ¬ ∃ j, j < s_m S ∧ ((s_ja S j = a ∧ s_jb S j = b) ∨ (s_ja S j = b ∧ s_jb S j = a)) := fun q => by
    have := nbk_iff.mpr q
    rw [show nbk S a b (s_m S) = nb S a b from rfl, hnb] at this
    cases this
  refine ⟨hO.n, ?_, hO.sh, hO.pi, fun i hi => ⟨hO.vo hi, hO.ar hi, hO.ch hi, hO.fe hi⟩, fun j hj => ?_, fun i j hij hj => ?_⟩
  · show s_m S + 1 ≤ 20; omega
  · have hj' : j < s_m S + 1 := hj
    show va_up (s_ja S) (s_m S) a j < s_n S ∧ va_up (s_jb S) (s_m S) b j < s_n S ∧ va_up (s_ja S) (s_m S) a j ≠ va_up (s_jb S) (s_m S) b j
    unfold va_up
    by_cases q : j = s_m S
    · rw [if_pos q, if_pos q]; exact ⟨ha, hb, hab⟩
    · rw [if_neg q, if_neg q]; exact hO.jj (by omega)
  · have hj' : j < s_m S + 1 := hj
    show ¬ (va_up (s_ja S) (s_m S) a i = va_up (s_ja S) (s_m S) a j ∧ va_up (s_jb S) (s_m S) b i = va_up (s_jb S) (s_m S) b j) ∧ ¬ (va_up (s_ja S) (s_m S) a i = va_up (s_jb S) (s_m S) b j ∧ va_up (s_jb S) (s_m S) b i = va_up (s_ja S) (s_m S) a j)
    unfold va_up
    have hi : i ≠ s_m S := by omega
    rw [if_neg hi, if_neg hi]
    by_cases q : j = s_m S
    · rw [if_pos q, if_pos q]
      exact ⟨fun z => hnb' ⟨i, by omega, Or.inl z⟩, fun z => hnb' ⟨i, by omega, Or.inr z⟩⟩
    · rw [if_neg q, if_neg q]; exact hO.one hij (by omega)
/-! one joint less -/
/-- without the place j -/
def shl {α : Type} (f : Nat → α) (j : Nat) : Nat → α := fun k => if k < j then f k else f (k + 1)
/-- the places from j on moved by one, up to i -/
def shm {α : Type} (f : Nat → α) (j i : Nat) : Nat → α := fun k => if j ≤ k ∧ k < i then f (k + 1) else f k
theorem shm_0 {α : Type} {f : Nat → α} {j : Nat} : shm f j j = f := by
  funext k
  unfold shm
  rw [if_neg (by omega)]
theorem shm_s {f : AF} {j i : Nat} (h : j ≤ i) {x : Int32} (hx : x = f (i + 1)) : upd (shm f j i) i x = shm f j (i + 1) := by
  subst hx
  funext k
  unfold upd shm
  by_cases q : k = i
  · rw [if_pos q, if_pos (by omega), q]
  · rw [if_neg q]
    by_cases c : j ≤ k ∧ k < i
    · rw [if_pos c, if_pos (by omega)]
    · rw [if_neg c, if_neg (by omega)]
theorem shm_up {α : Type} {f : Nat → α} {j i : Nat} : shm f j i (i + 1) = f (i + 1) := by
  unfold shm
  rw [if_neg (by omega)]
theorem shm_in {α : Type} {f : Nat → α} {j i k : Nat} (h : k < i) : shm f j i k = shl f j k := by
  unfold shm shl
  by_cases c : k < j
  · rw [if_neg (by omega), if_pos c]
  · rw [if_pos (by omega), if_neg c]
def sUnlink (S : SC) (j : Nat) : SC := (s_n S, s_m S - 1, s_sh S, s_pi S, s_vo S, s_ar S, s_ch S, s_fe S, shl (s_ja S) j, shl (s_jb S) j)
theorem rep_shl {f : AF} {g : Nat → Nat} {m j : Nat} (hj : j < m) (h : ∀ i, i < m → f i = nI (g i)) : ∀ i, i < m - 1 → shm f j (m - 1) i = nI (shl g j i) := by
  intro i hi
  rw [shm_in hi]
  unfold shl
  by_cases c : i < j
  · rw [if_pos c, if_pos c]; exact h i (by omega)
  · rw [if_neg c, if_neg c]; exact h (i + 1) (by omega)
theorem pred_nI {m : Nat} (h : 0 < m) : nI m - 1 = nI (m - 1) := by
  obtain ⟨k, rfl⟩ : ∃ k, m = k + 1 := ⟨m - 1, by omega⟩
  rw [nI_pred]
  rfl
theorem unlink_ok {v : CV} {S : SC} (h : RepC v S) (hO : OkC S) {j : Nat} (hj : j < s_m S) : ∃ v', f_X0_unlink v (nI j) = some v' ∧ RepC v' (sUnlink S j) := by
  have hm := hO.m
  refine ⟨(C_se v, nI (s_m S - 1), C_sh v, C_pi v, C_vo v, C_ar v, C_ch v, C_fe v, shm (C_fi v) j (s_m S - 1), shm (C_sd v) j (s_m S - 1)), ?_, ?_⟩
  · unfold f_X0_unlink
    rw [nm_s, if_neg (nI_pos (by omega))]
    have e0 : v = (C_se v, C_jo v, C_sh v, C_pi v, C_vo v, C_ar v, C_ch v, C_fe v, shm (C_fi v) j j, shm (C_sd v) j j) := by
      rw [shm_0, shm_0]; rfl
    refine (congrArg (fun z => f_X0_unlink_b6 FU z (nI j)) e0).trans ?_
    refine loopN (fun fu i => f_X0_unlink_b6 fu (C_se v, C_jo v, C_sh v, C_pi v, C_vo v, C_ar v, C_ch v, C_fe v, shm (C_fi v) j i, shm (C_sd v) j i) (nI i)) j (s_m S - 1) _ (fun fu i hji hi => ?_) (fun fu => ?_) (s_m S - 1 - j) j FU (Nat.le_refl _) (by omega) (FU_big (by omega))
    · try dsimp only
      rw [f_X0_unlink_b6]
      try dsimp only [C_se, C_jo, C_sh, C_pi, C_vo, C_ar, C_ch, C_fe, C_fi, C_sd]
      rw [show v.2.1 = nI (s_m S) from h.jo, nI_1, br_le _ _ (by omega) (by omega), if_neg (by omega), at_in (by omega) (by omega), bd_s, put_in (by omega) (by omega), bd_s, at_in (by omega) (by omega), bd_s, put_in (by omega) (by omega), bd_s, nm_s]
      rw [shm_up, shm_up, shm_s hji rfl, shm_s hji rfl]
    · try dsimp only
      rw [f_X0_unlink_b6]
      try dsimp only [C_se, C_jo, C_sh, C_pi, C_vo, C_ar, C_ch, C_fe, C_fi, C_sd]
      rw [show v.2.1 = nI (s_m S) from h.jo, nI_1, br_le _ _ (by omega) (by omega), if_pos (by omega), nm_s, pred_nI (by omega)]
  · exact ⟨h.se, rfl, h.sh, h.pi, h.vo, h.ar, h.ch, h.fe, rep_shl hj h.fi, rep_shl hj h.sd, h.ff⟩
theorem sUnlink_ok {S : SC} (hO : OkC S) {j : Nat} (hj : j < s_m S) : OkC (sUnlink S j) := by
  refine ⟨hO.n, ?_, hO.sh, hO.pi, fun i hi => ⟨hO.vo hi, hO.ar hi, hO.ch hi, hO.fe hi⟩, fun i hi => ?_, fun i k hik hk => ?_⟩
  · show s_m S - 1 ≤ 20
    have := hO.m
    omega
  · have hi' : i < s_m S - 1 := hi
    show shl (s_ja S) j i < s_n S ∧ shl (s_jb S) j i < s_n S ∧ shl (s_ja S) j i ≠ shl (s_jb S) j i
    unfold shl
    by_cases c : i < j
    · rw [if_pos c, if_pos c]; exact hO.jj (by omega)
    · rw [if_neg c, if_neg c]; exact hO.jj (by omega)
  · have hk' : k < s_m S - 1 := hk
    show ¬ (shl (s_ja S) j i = shl (s_ja S) j k ∧ shl (s_jb S) j i = shl (s_jb S) j k) ∧ ¬ (shl (s_ja S) j i = shl (s_jb S) j k ∧ shl (s_jb S) j i = shl (s_ja S) j k)
    unfold shl
    by_cases c : i < j <;> by_cases e : k < j
    · rw [if_pos c, if_pos c, if_pos e, if_pos e]; exact hO.one hik (by omega)
    · rw [if_pos c, if_pos c, if_neg e, if_neg e]; exact hO.one (by omega) (by omega)
    · omega
    · rw [if_neg c, if_neg c, if_neg e, if_neg e]; exact hO.one (by omega) (by omega)
/-! one section less -/
def sDropJ (S : SC) (s : Nat) : Nat → SC
  | 0 => S
  | r + 1 => sDropJ (if tch S r s then sUnlink S r else S) s r
theorem sDropJ_ok {s : Nat} : ∀ (r : Nat) (S : SC), OkC S → r ≤ s_m S → (∀ j, r ≤ j → j < s_m S → tch S j s = false) → OkC (sDropJ S s r) ∧ s_n (sDropJ S s r) = s_n S ∧ (∀ j, j < s_m (sDropJ S s r) → tch (sDropJ S s r) j s = false) ∧ s_vo (sDropJ S s r) = s_vo S ∧ s_ar (sDropJ S s r) = s_ar S ∧ s_ch (sDropJ S s r) = s_ch S ∧ s_fe (sDropJ S s r) = s_fe S ∧ s_sh (sDropJ S s r) = s_sh S ∧ s_pi (sDropJ S s r) = s_pi S
  | 0, S, hO, hr, h => ⟨hO, rfl, fun j hj => h j (Nat.zero_le _) hj, rfl, rfl, rfl, rfl, rfl, rfl⟩
  | r + 1, S, hO, hr, h => by
    unfold sDropJ
    by_cases c : tch S r s = true
    · rw [if_pos c]
      have := sDropJ_ok r (sUnlink S r) (sUnlink_ok hO (by omega)) (by show r ≤ s_m S - 1; omega) (fun j h1 h2 => by
        have h2' : j < s_m S - 1 := h2
        have := h (j + 1) (by omega) (by omega)
        unfold tch at this ⊢
        rw [decide_eq_false_iff_not] at this ⊢
        show ¬ (shl (s_ja S) r j = s ∨ shl (s_jb S) r j = s)
        unfold shl
        rw [if_neg (by omega), if_neg (by omega)]
        exact this)
      exact this
    · rw [if_neg c]
      refine sDropJ_ok r S hO (by omega) (fun j h1 h2 => ?_)
      rcases Nat.lt_or_ge r j with q | q
      · exact h j (by omega) h2
      · have : j = r := by omega
        subst this
        cases e : tch S j s with
        | false => rfl
        | true => exact absurd e c
theorem m1_sub (x : Int32) : x + (-1) = x - 1 := (Int32.sub_eq_add_neg x 1).symm
theorem dropJ_loop {s : Nat} (hs : s < 2 ^ 31) : ∀ (r : Nat) (v : CV) (S : SC) (fu : Nat), RepC v S → OkC S → r ≤ s_m S → r < fu → ∃ v', f_X0_drop_b7 (nI s) fu v (nI r - 1) = f_X0_drop_b33 (nI s) FU v' 0 ∧ RepC v' (sDropJ S s r)
  | 0, v, S, fu, h, hO, hr, hf => by
    obtain ⟨fu, rfl⟩ : ∃ z, fu = z + 1 := ⟨fu - 1, by omega⟩
    refine ⟨v, ?_, h⟩
    rw [f_X0_drop_b7]
    try dsimp only
    rw [br_T (by decide)]
  | r + 1, v, S, fu, h, hO, hr, hf => by
    obtain ⟨fu, rfl⟩ : ∃ z, fu = z + 1 := ⟨fu - 1, by omega⟩
    have hm := hO.m
    rw [f_X0_drop_b7]
    try dsimp only
    rw [nI_pred, br_neg _ (by omega), touches_ok h hO (by omega) hs, bd_s, b1_ne]
    unfold sDropJ
    by_cases c : tch S r s = true
    · obtain ⟨v1, e1, h1⟩ := unlink_ok h hO (j := r) (by omega)
      rw [if_pos c, if_pos c, e1, bd_s, nm_s, m1_sub]
      exact dropJ_loop hs r v1 (sUnlink S r) fu h1 (sUnlink_ok hO (by omega)) (by show r ≤ s_m S - 1; omega) (by omega)
    · rw [if_neg c, if_neg c, nm_s, m1_sub]
      exact dropJ_loop hs r v S fu h hO (by omega) (by omega)
def ren (s a : Nat) : Nat := if a ≤ s then a else a - 1
theorem without_ok {s a : Nat} (hs : s < 2 ^ 31) (ha : a < 2 ^ 31) : f_X0_without (nI s) (nI a) = some (nI (ren s a)) := by
  unfold f_X0_without ren
  rw [br_le _ _ ha hs]
  by_cases c : a ≤ s
  · rw [if_pos c, if_pos c]
  · rw [if_neg c, if_neg c, pred_nI (by omega)]
def sDrop (S : SC) (s : Nat) : SC := (s_n S - 1, s_m (sDropJ S s (s_m S)), s_sh S, s_pi S, shl (s_vo S) s, shl (s_ar S) s, shl (s_ch S) s, shl (s_fe S) s, fun j => ren s (s_ja (sDropJ S s (s_m S)) j), fun j => ren s (s_jb (sDropJ S s (s_m S)) j))
theorem sDrop_ok {S : SC} (hO : OkC S) {s : Nat} (hs : s < s_n S) : OkC (sDrop S s) := by
  obtain ⟨o, e1, e2, -, -, -, -, -, -⟩ := sDropJ_ok (s := s) (s_m S) S hO (Nat.le_refl _) (fun j h1 h2 => by omega)
  have hn := hO.n
  have far : ∀ j, j < s_m (sDropJ S s (s_m S)) → s_ja (sDropJ S s (s_m S)) j ≠ s ∧ s_jb (sDropJ S s (s_m S)) j ≠ s := fun j hj => by
    have := e2 j hj
    unfold tch at this
    rw [decide_eq_false_iff_not] at this
    omega
  have sec : ∀ i, i < s_n S - 1 → (1 ≤ shl (s_vo S) s i ∧ shl (s_vo S) s i ≤ 5000) ∧ (1 ≤ shl (s_ar S) s i ∧ shl (s_ar S) s i ≤ 5000) ∧ shl (s_ch S) s i ≤ 500 ∧ shl (s_fe S) s i ≤ 1 := fun i hi => by
    unfold shl
    by_cases c : i < s
    · rw [if_pos c, if_pos c, if_pos c, if_pos c]; exact hO.2.2.2.2.1 i (by omega)
    · rw [if_neg c, if_neg c, if_neg c, if_neg c]; exact hO.2.2.2.2.1 (i + 1) (by omega)
  refine ⟨?_, o.m, hO.sh, hO.pi, sec, fun j hj => ?_, fun i j hij hj => ?_⟩
  · show s_n S - 1 ≤ 12; omega
  · obtain ⟨q1, q2, q3⟩ := o.jj hj
    obtain ⟨f1, f2⟩ := far j hj
    rw [e1] at q1 q2
    show ren s _ < s_n S - 1 ∧ ren s _ < s_n S - 1 ∧ ren s _ ≠ ren s _
    unfold ren
    refine ⟨?_, ?_, ?_⟩ <;> (repeat' split) <;> omega
  · have hj' : j < s_m (sDropJ S s (s_m S)) := hj
    obtain ⟨f1, f2⟩ := far j hj'
    obtain ⟨g1, g2⟩ := far i (by omega)
    have := o.one hij hj'
    show ¬ (ren s _ = ren s _ ∧ ren s _ = ren s _) ∧ ¬ (ren s _ = ren s _ ∧ ren s _ = ren s _)
    have inj : ∀ a b : Nat, a ≠ s → b ≠ s → ren s a = ren s b → a = b := fun a b h1 h2 h3 => by
      unfold ren at h3
      (repeat' split at h3) <;> omega
    exact ⟨fun z => this.1 ⟨inj _ _ g1 f1 z.1, inj _ _ g2 f2 z.2⟩, fun z => this.2 ⟨inj _ _ g1 f2 z.1, inj _ _ g2 f1 z.2⟩⟩
theorem drop_ok {v : CV} {S : SC} (h : RepC v S) (hO : OkC S) {s : Nat} (hs : s < s_n S) : ∃ v', f_X0_drop v (nI s) = some v' ∧ RepC v' (sDrop S s) := by
  have hn := hO.n
  have hm := hO.m
  obtain ⟨o, e1, e2, ev, ea, ec, ef, esh, epi⟩ := sDropJ_ok (s := s) (s_m S) S hO (Nat.le_refl _) (fun j h1 h2 => by omega)
  obtain ⟨v1, l1, r1⟩ := dropJ_loop (s := s) (by omega) (s_m S) v S FU h hO (Nat.le_refl _) (FU_big (by omega))
  generalize hS1 : sDropJ S s (s_m S) = S1 at o e1 e2 ev ea ec ef esh epi r1
  have hm1 := o.m
  refine ⟨(nI (s_n S - 1), C_jo v1, C_sh v1, C_pi v1, shm (C_vo v1) s 11, shm (C_ar v1) s 11, shm (C_ch v1) s 11, shm (C_fe v1) s 11, mix (fun j => nI (ren s (s_ja S1 j))) (C_fi v1) (s_m S1), mix (fun j => nI (ren s (s_jb S1 j))) (C_sd v1) (s_m S1)), ?_, ?_⟩
  · unfold f_X0_drop
    rw [nm_s, h.jo, l1]
    have e0 : v1 = (C_se v1, C_jo v1, C_sh v1, C_pi v1, C_vo v1, C_ar v1, C_ch v1, C_fe v1, mix (fun j => nI (ren s (s_ja S1 j))) (C_fi v1) 0, mix (fun j => nI (ren s (s_jb S1 j))) (C_sd v1) 0) := by
      rw [mix_0, mix_0]; rfl
    refine (congrArg (fun z => f_X0_drop_b33 (nI s) FU z (nI 0)) e0).trans ?_
    refine loop0 (fun fu i => f_X0_drop_b33 (nI s) fu (C_se v1, C_jo v1, C_sh v1, C_pi v1, C_vo v1, C_ar v1, C_ch v1, C_fe v1, mix (fun j => nI (ren s (s_ja S1 j))) (C_fi v1) i, mix (fun j => nI (ren s (s_jb S1 j))) (C_sd v1) i) (nI i)) (s_m S1) _ (by omega) (fun fu i hi => ?_) (fun fu => ?_)
    · obtain ⟨j1, j2, -⟩ := o.jj hi
      have q1 : v1.2.2.2.2.2.2.2.2.1 i = nI (s_ja S1 i) := r1.fi i hi
      have q2 : v1.2.2.2.2.2.2.2.2.2 i = nI (s_jb S1 i) := r1.sd i hi
      try dsimp only
      rw [f_X0_drop_b33]
      try dsimp only [C_se, C_jo, C_sh, C_pi, C_vo, C_ar, C_ch, C_fe, C_fi, C_sd]
      rw [show v1.2.1 = nI (s_m S1) from r1.jo, br_le _ _ (by omega) (by omega), if_neg (by omega), at_in (by omega) (by omega), bd_s, mix_out (Nat.le_refl _), q1, without_ok (by omega) (by omega), bd_s, put_in (by omega) (by omega), bd_s, at_in (by omega) (by omega), bd_s, mix_out (Nat.le_refl _), q2, without_ok (by omega) (by omega), bd_s, put_in (by omega) (by omega), bd_s, nm_s, nI_1]
      rw [mix_s rfl, mix_s rfl]
    · try dsimp only
      rw [f_X0_drop_b33]
      try dsimp only [C_jo]
      rw [show v1.2.1 = nI (s_m S1) from r1.jo, br_le _ _ (by omega) (by omega), if_pos (by omega), nm_s, if_neg (nI_pos (by omega))]
      generalize hF : mix (fun j => nI (ren s (s_ja S1 j))) (C_fi v1) (s_m S1) = F
      generalize hG : mix (fun j => nI (ren s (s_jb S1 j))) (C_sd v1) (s_m S1) = G
      have e0 : (C_se v1, nI (s_m S1), C_sh v1, C_pi v1, C_vo v1, C_ar v1, C_ch v1, C_fe v1, F, G) = (C_se v1, nI (s_m S1), C_sh v1, C_pi v1, shm (C_vo v1) s s, shm (C_ar v1) s s, shm (C_ch v1) s s, shm (C_fe v1) s s, F, G) := by
        rw [shm_0, shm_0, shm_0, shm_0]
      refine (congrArg (fun z => f_X0_drop_b93 FU z (nI s)) e0).trans ?_
      refine loopN (fun fu i => f_X0_drop_b93 fu (C_se v1, nI (s_m S1), C_sh v1, C_pi v1, shm (C_vo v1) s i, shm (C_ar v1) s i, shm (C_ch v1) s i, shm (C_fe v1) s i, F, G) (nI i)) s 11 _ (fun fu i hsi hi => ?_) (fun fu => ?_) (11 - s) s FU (Nat.le_refl _) (by omega) (FU_big (by omega))
      · have fk := r1.ff (i + 1) (by omega)
        try dsimp only
        rw [f_X0_drop_b93]
        try dsimp only [C_se, C_jo, C_sh, C_pi, C_vo, C_ar, C_ch, C_fe, C_fi, C_sd] at fk ⊢
        simp only [nm_s, nI_1, ck_in (by omega : i + 1 < 12) (by omega : 12 < 2 ^ 31), ck_in (by omega : i < 12) (by omega : 12 < 2 ^ 31), cl_ (by omega : i + 1 < 2 ^ 31), cl_ (by omega : i < 2 ^ 31), shm_up]
        rw [show (12 : Int32) = nI 12 from rfl, br_le _ _ (by omega) (by omega), if_neg (by omega), ck_b fk]
        rw [shm_s hsi rfl, shm_s hsi rfl, shm_s hsi rfl, shm_s hsi rfl]
      · try dsimp only
        rw [f_X0_drop_b93]
        try dsimp only [C_se, C_jo, C_sh, C_pi, C_vo, C_ar, C_ch, C_fe, C_fi, C_sd]
        rw [show v1.1 = nI (s_n S1) from r1.se, nI_1, show (12 : Int32) = nI 12 from rfl, br_le _ _ (by omega) (by omega), if_pos (by omega), nm_s, e1, pred_nI (by omega)]
  · have sub : ∀ (f : AF) (g : Nat → Nat), (∀ i, i < s_n S1 → f i = nI (g i)) → ∀ i, i < s_n S - 1 → shm f s 11 i = nI (shl g s i) := fun f g hfg i hi => by
      rw [shm_in (by omega)]
      unfold shl
      by_cases c : i < s
      · rw [if_pos c, if_pos c]; exact hfg i (by omega)
      · rw [if_neg c, if_neg c]; exact hfg (i + 1) (by omega)
    refine ⟨rfl, ?_, ?_, ?_, ?_, ?_, ?_, ?_, ?_, ?_, fun i hi => ?_⟩
    · show C_jo v1 = nI (s_m (sDropJ S s (s_m S))); rw [hS1]; exact r1.jo
    · show C_sh v1 = nI (s_sh S); rw [← esh]; exact r1.sh
    · show C_pi v1 = nI (s_pi S); rw [← epi]; exact r1.pi
    · show ∀ i, i < s_n S - 1 → shm (C_vo v1) s 11 i = nI (shl (s_vo S) s i); rw [← ev]; exact sub _ _ r1.vo
    · show ∀ i, i < s_n S - 1 → shm (C_ar v1) s 11 i = nI (shl (s_ar S) s i); rw [← ea]; exact sub _ _ r1.ar
    · show ∀ i, i < s_n S - 1 → shm (C_ch v1) s 11 i = nI (shl (s_ch S) s i); rw [← ec]; exact sub _ _ r1.ch
    · show ∀ i, i < s_n S - 1 → shm (C_fe v1) s 11 i = nI (shl (s_fe S) s i); rw [← ef]; exact sub _ _ r1.fe
    · show ∀ j, j < s_m (sDropJ S s (s_m S)) → _ = nI (ren s (s_ja (sDropJ S s (s_m S)) j)); rw [hS1]; intro j hj; show mix (fun j => nI (ren s (s_ja S1 j))) (C_fi v1) (s_m S1) j = _; exact mix_in hj
    · show ∀ j, j < s_m (sDropJ S s (s_m S)) → _ = nI (ren s (s_jb (sDropJ S s (s_m S)) j)); rw [hS1]; intro j hj; show mix (fun j => nI (ren s (s_jb S1 j))) (C_sd v1) (s_m S1) j = _; exact mix_in hj
    · show shm (C_fe v1) s 11 i = 0 ∨ shm (C_fe v1) s 11 i = 1
      unfold shm
      split
      · exact r1.ff (i + 1) (by omega)
      · exact r1.ff i hi
