/-! ===== 52: sums, the flow of the needs, ways, neighbours (about a casting alone) ===== -/
theorem sm_add {f g : Nat → Nat} : ∀ n : Nat, sm (fun x => f x + g x) n = sm f n + sm g n
  | 0 => rfl
  | n + 1 => by
    rw [sm_s, sm_s, sm_s, sm_add n]
    omega
theorem sm_zero : ∀ n : Nat, sm (fun _ => 0) n = 0
  | 0 => rfl
  | n + 1 => by rw [sm_s, sm_zero n]
theorem sm_swap {f : Nat → Nat → Nat} {m : Nat} : ∀ n : Nat, sm (fun x => sm (f x) m) n = sm (fun y => sm (fun x => f x y) n) m
  | 0 => (sm_zero m).symm
  | n + 1 => by
    rw [sm_s, sm_swap n, ← sm_add]
    exact sm_congr (fun i _ => rfl)
/-- one place alone -/
theorem sm_one {a v : Nat} : ∀ n : Nat, a < n → sm (fun x => if x = a then v else 0) n = v
  | 0, h => absurd h (Nat.not_lt_zero _)
  | n + 1, h => by
    rw [sm_s]
    by_cases c : n = a
    · subst c
      rw [if_pos rfl, sm_congr (g := fun _ => 0) (fun i hi => if_neg (by omega)), sm_zero]
      omega
    · rw [if_neg c, sm_one n (by omega), Nat.add_zero]
/-- a sum with one place changed -/
theorem sm_up {f : Nat → Nat} {k v : Nat} : ∀ n : Nat, k < n → sm (va_up f k v) n + f k = sm f n + v
  | 0, h => absurd h (Nat.not_lt_zero _)
  | n + 1, h => by
    rw [sm_s, sm_s]
    by_cases c : n = k
    · subst c
      rw [sm_congr (f := va_up f n v) (g := f) (fun i hi => by unfold va_up; exact if_neg (by omega)), show va_up f n v n = v from by unfold va_up; exact if_pos rfl]
      omega
    · have ih := sm_up (f := f) (k := k) (v := v) n (by omega)
      rw [show va_up f k v n = f n from by unfold va_up; exact if_neg c]
      omega
/-- the order is a permutation -/
theorem sm_ord {S : SC} (hO : OkC S) {f : Nat → Nat} : sm (fun t => f (ord S t)) (s_n S) = sm f (s_n S) := by
  have e1 : sm (fun t => f (ord S t)) (s_n S) = sm (fun t => sm (fun i => if i = ord S t then f i else 0) (s_n S)) (s_n S) := by
    refine sm_congr (fun t ht => ?_)
    obtain ⟨h1, -⟩ := ord_ok hO ht
    rw [sm_congr (g := fun i => if i = ord S t then f (ord S t) else 0) (fun i _ => ?_), sm_one _ h1]
    by_cases c : i = ord S t
    · rw [if_pos c, if_pos c, c]
    · rw [if_neg c, if_neg c]
  rw [e1, sm_swap]
  refine sm_congr (fun i hi => ?_)
  rw [sm_congr (g := fun t => if t = rk S i then f i else 0) (fun t ht => ?_), sm_one _ (rk_lt hi)]
  obtain ⟨-, h2⟩ := ord_ok hO ht
  by_cases c : i = ord S t
  · rw [if_pos c, if_pos (by rw [c]; exact h2.symm)]
  · rw [if_neg c, if_neg (fun z => c (by rw [z]; exact (ord_rk hO hi).symm))]
/-- counting is summing -/
theorem cnt_sm {p : Nat → Bool} : ∀ n : Nat, cnt p n = sm (fun i => if p i = true then 1 else 0) n
  | 0 => rfl
  | n + 1 => by rw [cnt_s, sm_s, cnt_sm n]
/-! the way ends -/
theorem en_more {S : SC} (hO : OkC S) : ∀ (d x : Nat), x < s_n S → s_n S - rk S x ≤ d → en S (d + 1) x = en S d x
  | 0, x, hx, h => by have := rk_lt hx; omega
  | d + 1, x, hx, h => by
    cases e : src S x with
    | none => rw [en_n e, en_n e]
    | some f =>
      obtain ⟨h1, -, h3, -⟩ := src_some hO e
      rw [en_f e, en_f e]
      exact en_more hO d f h1 (by omega)
theorem en_src {S : SC} (hO : OkC S) {x f : Nat} (h : src S x = some f) : en S (s_n S) x = en S (s_n S) f := by
  obtain ⟨h1, h2, h3, -⟩ := src_some hO h
  obtain ⟨d, hd⟩ : ∃ d, s_n S = d + 1 := ⟨s_n S - 1, by omega⟩
  have hf := rk_lt h1
  have e := en_more hO d f h1 (by omega)
  rw [hd, en_f h]
  exact e.symm
theorem en_hot {S : SC} {x : Nat} (hx : x < s_n S) (h : src S x = none) : en S (s_n S) x = x := by
  obtain ⟨d, hd⟩ : ∃ d, s_n S = d + 1 := ⟨s_n S - 1, by omega⟩
  rw [hd, en_n h]
/-! the flow -/
/-- what is still on its way to h, ahead of the step t -/
noncomputable def flw (S : SC) (h t x : Nat) : Nat := if en S (s_n S) x = h ∧ (t ≤ rk S x ∨ src S x = none) then nd S t x else 0
theorem flw_step {S : SC} (hO : OkC S) {h t : Nat} (ht : t < s_n S) : sm (flw S h (t + 1)) (s_n S) = sm (flw S h t) (s_n S) := by
  obtain ⟨o1, o2⟩ := ord_ok hO ht
  cases e : src S (ord S t) with
  | none =>
    refine sm_congr (fun x hx => ?_)
    unfold flw
    rw [nd_n e]
    by_cases c : x = ord S t
    · subst c
      by_cases q : en S (s_n S) (ord S t) = h
      · rw [if_pos ⟨q, Or.inr e⟩, if_pos ⟨q, Or.inr e⟩]
      · rw [if_neg (fun z => q z.1), if_neg (fun z => q z.1)]
    · have hne : rk S x ≠ t := fun z => c (by rw [← z]; exact (ord_rk hO hx).symm)
      by_cases q : en S (s_n S) x = h ∧ (t ≤ rk S x ∨ src S x = none)
      · rw [if_pos q, if_pos ⟨q.1, q.2.elim (fun z => Or.inl (by omega)) Or.inr⟩]
      · rw [if_neg q, if_neg (fun z => q ⟨z.1, z.2.elim (fun y => Or.inl (by omega)) Or.inr⟩)]
  | some f =>
    obtain ⟨f1, -, f3, -⟩ := src_some hO e
    have hfs : f ≠ ord S t := fun z => by rw [z] at f3; omega
    have hE := en_src hO e
    have key : ∀ x, x < s_n S → flw S h (t + 1) x = va_up (va_up (flw S h t) (ord S t) 0) f (flw S h t f + flw S h t (ord S t)) x := by
      intro x hx
      unfold va_up
      by_cases c1 : x = f
      · subst c1
        rw [if_pos rfl]
        unfold flw
        rw [nd_f e, hE]
        by_cases q : en S (s_n S) x = h
        · rw [if_pos ⟨q, Or.inl (by omega)⟩, if_pos ⟨q, Or.inl (by omega)⟩, if_pos ⟨q, Or.inl (by omega)⟩]
          unfold va_up
          rw [if_pos rfl]
        · rw [if_neg (fun z => q z.1), if_neg (fun z => q z.1), if_neg (fun z => q z.1)]
      · rw [if_neg c1]
        by_cases c2 : x = ord S t
        · subst c2
          rw [if_pos rfl]
          unfold flw
          refine if_neg (fun z => ?_)
          rcases z.2 with z | z
          · omega
          · rw [e] at z; cases z
        · rw [if_neg c2]
          have hne : rk S x ≠ t := fun z => c2 (by rw [← z]; exact (ord_rk hO hx).symm)
          unfold flw
          rw [nd_f e]
          have ev : va_up (nd S t) f (nd S t f + nd S t (ord S t)) x = nd S t x := by unfold va_up; exact if_neg c1
          rw [ev]
          by_cases q : en S (s_n S) x = h ∧ (t ≤ rk S x ∨ src S x = none)
          · rw [if_pos q, if_pos ⟨q.1, q.2.elim (fun z => Or.inl (by omega)) Or.inr⟩]
          · rw [if_neg q, if_neg (fun z => q ⟨z.1, z.2.elim (fun y => Or.inl (by omega)) Or.inr⟩)]
    rw [sm_congr key]
    have s1 := sm_up (f := flw S h t) (k := ord S t) (v := 0) (s_n S) o1
    have s2 := sm_up (f := va_up (flw S h t) (ord S t) 0) (k := f) (v := flw S h t f + flw S h t (ord S t)) (s_n S) f1
    have ev : va_up (flw S h t) (ord S t) 0 f = flw S h t f := by unfold va_up; exact if_neg hfs
    rw [ev] at s2
    omega
theorem flw_all {S : SC} (hO : OkC S) {h : Nat} : ∀ t : Nat, t ≤ s_n S → sm (flw S h t) (s_n S) = sm (flw S h 0) (s_n S)
  | 0, _ => rfl
  | t + 1, ht => (flw_step hO (by omega)).trans (flw_all hO t (by omega))
/-- what gathers at a section are its pores -/
theorem gath_pores {S : SC} (hO : OkC S) {h : Nat} (hh : h < s_n S) : sm (gath S h) (s_n S) = pores S h := by
  have e0 : sm (gath S h) (s_n S) = sm (flw S h 0) (s_n S) := by
    refine sm_congr (fun x hx => ?_)
    unfold gath flw
    by_cases q : en S (s_n S) x = h
    · rw [if_pos q, if_pos ⟨q, Or.inl (Nat.zero_le _)⟩]
      rfl
    · rw [if_neg q, if_neg (fun z => q z.1)]
  rw [e0, ← flw_all hO (s_n S) (Nat.le_refl _)]
  unfold pores
  by_cases c : src S h = none
  · rw [if_pos c, sm_congr (g := fun x => if x = h then need S h else 0) (fun x hx => ?_), sm_one _ hh]
    unfold flw
    by_cases q : x = h
    · subst q
      rw [if_pos rfl, if_pos ⟨en_hot hx c, Or.inr c⟩]
      rfl
    · rw [if_neg q]
      refine if_neg (fun z => ?_)
      rcases z.2 with y | y
      · have := rk_lt hx; omega
      · exact q ((en_hot hx y).symm.trans z.1)
  · rw [if_neg c, sm_congr (g := fun _ => 0) (fun x hx => ?_), sm_zero]
    unfold flw
    refine if_neg (fun z => ?_)
    rcases z.2 with y | y
    · have := rk_lt hx; omega
    · have e := (en_hot hx y).symm.trans z.1
      subst e
      exact c y
/-- all that gathers are the first needs -/
theorem gath_all {S : SC} (hO : OkC S) : sm (fun h => sm (gath S h) (s_n S)) (s_n S) = sm (fneed S) (s_n S) := by
  rw [sm_swap]
  refine sm_congr (fun x hx => ?_)
  rw [sm_congr (g := fun h => if h = en S (s_n S) x then fneed S x else 0) (fun h _ => ?_), sm_one _ (en_lt hO _ _ hx)]
  unfold gath
  by_cases c : en S (s_n S) x = h
  · rw [if_pos c, if_pos c.symm]
  · rw [if_neg c, if_neg (fun z => c z.symm)]
theorem pores_all {S : SC} (hO : OkC S) : sm (pores S) (s_n S) = sm (fneed S) (s_n S) := by
  rw [← gath_all hO]
  exact sm_congr (fun h hh => (gath_pores hO hh).symm)
/-! the needs -/
theorem nd_stay {S : SC} (hO : OkC S) {k : Nat} (hk : k < s_n S) : ∀ d : Nat, rk S k + d ≤ s_n S → nd S (rk S k + d) k = nd S (rk S k) k
  | 0, _ => rfl
  | d + 1, h => by
    have ih := nd_stay hO hk d (by omega)
    obtain ⟨o1, o2⟩ := ord_ok hO (t := rk S k + d) (by omega)
    show nd S ((rk S k + d) + 1) k = _
    cases e : src S (ord S (rk S k + d)) with
    | none => rw [nd_n e]; exact ih
    | some f =>
      obtain ⟨f1, -, f3, -⟩ := src_some hO e
      rw [nd_f e]
      unfold va_up
      rw [if_neg (fun z => by subst z; omega)]
      exact ih
theorem need_at {S : SC} (hO : OkC S) {k : Nat} (hk : k < s_n S) : need S k = nd S (rk S k) k := by
  have h := rk_lt hk
  have := nd_stay hO hk (s_n S - rk S k) (by omega)
  rw [show rk S k + (s_n S - rk S k) = s_n S from by omega] at this
  exact this
/-- what a section draws for others: those that have frozen ahead of the step t -/
noncomputable def drw (S : SC) (i t k : Nat) : Nat := if src S k = some i ∧ rk S k < t then need S k else 0
theorem nd_sum {S : SC} (hO : OkC S) {i : Nat} : ∀ t : Nat, t ≤ s_n S → nd S t i = fneed S i + sm (drw S i t) (s_n S)
  | 0, _ => by
    rw [sm_congr (g := fun _ => 0) (fun k _ => by unfold drw; exact if_neg (fun z => absurd z.2 (Nat.not_lt_zero _))), sm_zero]
    rfl
  | t + 1, ht => by
    have ih := nd_sum hO (i := i) t (by omega)
    obtain ⟨o1, o2⟩ := ord_ok hO (t := t) (by omega)
    have other : ∀ k, k < s_n S → k ≠ ord S t → drw S i (t + 1) k = drw S i t k := by
      intro k hk hne
      have hne' : rk S k ≠ t := fun z => hne (by rw [← z]; exact (ord_rk hO hk).symm)
      unfold drw
      by_cases q : src S k = some i ∧ rk S k < t
      · rw [if_pos q, if_pos ⟨q.1, by omega⟩]
      · rw [if_neg q, if_neg (fun z => q ⟨z.1, by omega⟩)]
    by_cases c : src S (ord S t) = some i
    · rw [nd_f c]
      have key : ∀ k, k < s_n S → drw S i (t + 1) k = va_up (drw S i t) (ord S t) (nd S t (ord S t)) k := by
        intro k hk
        unfold va_up
        by_cases q : k = ord S t
        · subst q
          rw [if_pos rfl]
          unfold drw
          rw [if_pos ⟨c, by omega⟩, need_at hO o1, o2]
        · rw [if_neg q]; exact other k hk q
      have s1 := sm_up (f := drw S i t) (k := ord S t) (v := nd S t (ord S t)) (s_n S) o1
      have z : drw S i t (ord S t) = 0 := by unfold drw; exact if_neg (fun q => by omega)
      rw [sm_congr key]
      unfold va_up at s1 ⊢
      rw [if_pos rfl]
      omega
    · have e1 : nd S (t + 1) i = nd S t i := by
        cases e : src S (ord S t) with
        | none => rw [nd_n e]
        | some f =>
          rw [nd_f e]
          unfold va_up
          exact if_neg (fun z => c (by rw [e, z]))
      rw [e1, ih, sm_congr (f := drw S i (t + 1)) (g := drw S i t) (fun k hk => ?_)]
      by_cases q : k = ord S t
      · subst q
        unfold drw
        rw [if_neg (fun z => c z.1), if_neg (fun z => c z.1)]
      · exact other k hk q
/-- the needs of those that a section feeds -/
noncomputable def fdn (S : SC) (i k : Nat) : Nat := if src S k = some i then need S k else 0
theorem need_sum {S : SC} (hO : OkC S) {i : Nat} : need S i = fneed S i + sm (fdn S i) (s_n S) := by
  have h := nd_sum hO (i := i) (s_n S) (Nat.le_refl _)
  rw [show need S i = nd S (s_n S) i from rfl, h]
  congr 1
  refine sm_congr (fun k hk => ?_)
  unfold drw fdn
  by_cases q : src S k = some i
  · rw [if_pos q, if_pos ⟨q, rk_lt hk⟩]
  · rw [if_neg q, if_neg (fun z => q z.1)]
/-! neighbours -/
theorem cnt_more {p q : Nat → Bool} {b : Nat} (h : ∀ k, q k = (p k || decide (k = b))) (hb : p b = false) : ∀ n : Nat, cnt q n = cnt p n + (if b < n then 1 else 0)
  | 0 => by rw [if_neg (Nat.not_lt_zero _)]; rfl
  | n + 1 => by
    rw [cnt_s, cnt_s, cnt_more h hb n, h n]
    by_cases c : n = b
    · subst c
      rw [hb, if_neg (Nat.lt_irrefl _), if_pos (Nat.lt_succ_self _)]
      simp
    · have e : decide (n = b) = false := decide_eq_false c
      rw [e, Bool.or_false]
      by_cases d : b < n
      · rw [if_pos d, if_pos (show b < n + 1 from by omega)]
        omega
      · rw [if_neg d, if_neg (show ¬ b < n + 1 from by omega)]
        omega
theorem cnt_none : ∀ n : Nat, cnt (fun _ => false) n = 0
  | 0 => rfl
  | n + 1 => by
    rw [cnt_s, cnt_none n, if_neg (by decide)]
theorem nb_cnt {S : SC} (hO : OkC S) {s : Nat} : ∀ m : Nat, m ≤ s_m S → cnt (fun k => nbk S s k m) (s_n S) = cnt (fun j => tch S j s) m
  | 0, _ => by
    exact cnt_none (s_n S)
  | m + 1, hm => by
    have ih := nb_cnt hO (s := s) m (by omega)
    obtain ⟨ja, jb, jab⟩ := hO.jj (j := m) (by omega)
    have fresh : ∀ b, ((s_ja S m = s ∧ s_jb S m = b) ∨ (s_ja S m = b ∧ s_jb S m = s)) → nbk S s b m = false := by
      intro b hb
      cases e : nbk S s b m with
      | false => rfl
      | true =>
        obtain ⟨i, hi, q⟩ := nbk_iff.mp e
        obtain ⟨u1, u2⟩ := hO.one hi (j := m) (by omega)
        omega
    rw [cnt_s, ← ih]
    by_cases c1 : s_ja S m = s
    · rw [cnt_more (p := fun k => nbk S s k m) (q := fun k => nbk S s k (m + 1)) (b := s_jb S m) (fun k => ?_) (fresh _ (Or.inl ⟨c1, rfl⟩)) (s_n S), if_pos jb, if_pos (show tch S m s = true from decide_eq_true (Or.inl c1))]
      show nbk S s k (m + 1) = (nbk S s k m || decide (k = s_jb S m))
      rw [nbk_s]
      congr 1
      refine decide_eq_decide.mpr ?_
      omega
    · by_cases c2 : s_jb S m = s
      · rw [cnt_more (p := fun k => nbk S s k m) (q := fun k => nbk S s k (m + 1)) (b := s_ja S m) (fun k => ?_) (fresh _ (Or.inr ⟨rfl, c2⟩)) (s_n S), if_pos ja, if_pos (show tch S m s = true from decide_eq_true (Or.inr c2))]
        show nbk S s k (m + 1) = (nbk S s k m || decide (k = s_ja S m))
        rw [nbk_s]
        congr 1
        refine decide_eq_decide.mpr ?_
        omega
      · rw [if_neg (show ¬ tch S m s = true from fun z => (of_decide_eq_true z).elim c1 c2)]
        refine (cnt_congr (fun k _ => ?_)).trans (Nat.add_zero _).symm
        show nbk S s k (m + 1) = nbk S s k m
        rw [nbk_s, decide_eq_false (by omega), Bool.or_false]
/-! the way, place by place -/
noncomputable def pth (S : SC) : Nat → Nat → Option Nat
  | 0, x => some x
  | k + 1, x => match src S x with
    | none => none
    | some f => pth S k f
theorem pth_n {S : SC} {k x : Nat} (h : src S x = none) : pth S (k + 1) x = none := by
  show (match src S x with | none => none | some f => pth S k f) = none
  rw [h]
theorem pth_f {S : SC} {k x f : Nat} (h : src S x = some f) : pth S (k + 1) x = pth S k f := by
  show (match src S x with | none => none | some f => pth S k f) = _
  rw [h]
theorem pth_next {S : SC} : ∀ {k x y : Nat}, pth S k x = some y → pth S (k + 1) x = src S y
  | 0, x, y, h => by
    cases h
    cases e : src S x with
    | none => exact pth_n e
    | some f => rw [pth_f e]; rfl
  | k + 1, x, y, h => by
    cases e : src S x with
    | none => rw [pth_n e] at h; cases h
    | some f =>
      rw [pth_f e] at h ⊢
      exact pth_next h
theorem pth_end {S : SC} : ∀ {k d x y : Nat}, pth S k x = some y → src S y = none → k ≤ d → en S d x = y
  | 0, 0, x, y, h, _, _ => by cases h; rfl
  | 0, d + 1, x, y, h, hy, _ => by cases h; exact en_n hy
  | k + 1, 0, x, y, h, _, hd => by omega
  | k + 1, d + 1, x, y, h, hy, hd => by
    cases e : src S x with
    | none => rw [pth_n e] at h; cases h
    | some f =>
      rw [pth_f e] at h
      rw [en_f e]
      exact pth_end h hy (by omega)
theorem wy_n {S : SC} {k t : Int32} : ∀ d : Nat, wy S k d none t = none
  | 0 => rfl
  | _ + 1 => rfl
theorem wy_pth {S : SC} {k : Nat} (hk : k < 2 ^ 30) : ∀ (d t x : Nat), t ≤ k → k - t < d → wy S (nI k) d (some x) (nI t) = pth S (k - t) x
  | 0, t, x, _, h => by omega
  | d + 1, t, x, ht, h => by
    unfold wy
    by_cases c : k ≤ t
    · rw [if_pos ((nI_leI (by omega) (by omega)).mpr c), show k - t = 0 from by omega]
      rfl
    · rw [if_neg (fun z => c ((nI_leI (by omega) (by omega)).mp z)), nI_1, show k - t = (k - (t + 1)) + 1 from by omega]
      cases e : src S x with
      | none => rw [wy_n, pth_n e]
      | some f => rw [pth_f e]; exact wy_pth hk d (t + 1) f (by omega) (by omega)
theorem aWay_pth {S : SC} {i k : Nat} (hk : k < 14) : aWay S i (nI k) = enc (pth S k i) := by
  unfold aWay
  rw [if_pos (nI_pos' (by omega)), show (0 : Int32) = nI 0 from rfl, wy_pth (by omega) 14 0 i (Nat.zero_le _) (by omega)]
  rfl
