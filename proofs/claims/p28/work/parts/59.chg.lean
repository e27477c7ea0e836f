/-! ===== 55: the changes that the law draws ===== -/
theorem low_ok (x : Int32) {n : Nat} (h0 : 0 < n) (hn : n < 2 ^ 31) : ∃ k, k < n ∧ f_L_low x (nI n) = some (nI k) := by
  obtain ⟨j, hj, e⟩ := pk_andE x (m := 2147483647) 31 (by decide)
  refine ⟨j % n, Nat.mod_lt _ h0, ?_⟩
  unfold f_L_low
  rw [ck_n (by omega) hn, nm_s, e, pk_rem (by omega) h0 hn]
/-- a call that answers an error leaves all as it was; another one records -/
def Chg (σ : ST) (q : Int32 × ST) : Prop := (q.1 < 0 ∧ q.2 = σ) ∨ (¬ q.1 < 0 ∧ ∃ S', OkC S' ∧ q.2 = put σ S')
theorem Chg.no {σ : ST} {r : Int32} (h : r < 0) : Chg σ (r, σ) := Or.inl ⟨h, rfl⟩
theorem Chg.yes {σ : ST} {n : Nat} {S' : SC} (hn : n < 2 ^ 31) (h : OkC S') : Chg σ (nI n, put σ S') := Or.inr ⟨nI_pos hn, S', h, rfl⟩
theorem Chg.ok {σ : ST} {q : Int32 × ST} (h : Chg σ q) (hO : OkT σ) : OkT q.2 := by
  rcases h with ⟨-, e⟩ | ⟨-, S', h, e⟩
  · rw [e]; exact hO
  · rw [e]; exact put_ok hO h
theorem chg_add {σ : ST} (h : OkT σ) {x1 x2 x3 : Int32} (h3 : x3 = 0 ∨ x3 = 1) : Chg σ (spAdd σ x1 x2 x3) := by
  have hn := h.S.n
  unfold spAdd
  split
  · rename_i c
    obtain ⟨a, ha, rfl⟩ := sz_of c.1
    obtain ⟨b, hb, rfl⟩ := sz_of c.2
    split
    · rename_i d
      rw [cl_ (n := a) (by omega), cl_ (n := b) (by omega)]
      refine Chg.yes (by omega) (sApp_ok h.S d ha hb (by omega) ?_)
      rcases h3 with rfl | rfl <;> decide
    · exact Chg.no (by decide)
  · exact Chg.no (by decide)
theorem chg_size {σ : ST} (h : OkT σ) {x1 x2 x3 : Int32} : Chg σ (spSize σ x1 x2 x3) := by
  have hn := h.S.n
  unfold spSize
  rcases inN_cases x1 (n := s_n (t_S σ)) (by omega) with ⟨i, hi, rfl, q⟩ | ⟨q, q'⟩
  · rw [if_pos q]
    split
    · rename_i c
      obtain ⟨a, ha, rfl⟩ := sz_of c.1
      obtain ⟨b, hb, rfl⟩ := sz_of c.2
      rw [cl_ (n := a) (by omega), cl_ (n := b) (by omega), cl_ (n := i) (by omega)]
      have := (h.S.vo hi).2
      exact Chg.yes (by omega) (sSize_ok h.S ha hb)
    · exact Chg.no (by decide)
  · rw [if_neg q']
    exact Chg.no (by decide)
theorem chg_chill {σ : ST} (h : OkT σ) {x1 x2 : Int32} : Chg σ (spChill σ x1 x2) := by
  have hn := h.S.n
  unfold spChill
  rcases inN_cases x1 (n := s_n (t_S σ)) (by omega) with ⟨i, hi, rfl, q⟩ | ⟨q, q'⟩
  · rw [if_pos q]
    split
    · rename_i d
      obtain ⟨a, ha, rfl⟩ := dig (b := 500) (by omega) d
      rw [cl_ (n := a) (by omega), cl_ (n := i) (by omega)]
      have := h.S.ch hi
      exact Chg.yes (by omega) (sChill_ok h.S ha)
    · exact Chg.no (by decide)
  · rw [if_neg q']
    exact Chg.no (by decide)
theorem chg_drop {σ : ST} (h : OkT σ) {x1 : Int32} : Chg σ (spDrop σ x1) := by
  have hn := h.S.n
  unfold spDrop
  rcases inN_cases x1 (n := s_n (t_S σ)) (by omega) with ⟨i, hi, rfl, q⟩ | ⟨q, q'⟩
  · rw [if_pos q, cl_ (n := i) (by omega)]
    exact Chg.yes (by omega) (sDrop_ok h.S hi)
  · rw [if_neg q']
    exact Chg.no (by decide)
theorem chg_join {σ : ST} (h : OkT σ) {x1 x2 : Int32} : Chg σ (spJoin σ x1 x2) := by
  have hn := h.S.n
  unfold spJoin
  split
  · rename_i c
    split
    · rename_i d
      split
      · rename_i f
        rcases inN_cases x1 (n := s_n (t_S σ)) (by omega) with ⟨i, hi, rfl, q⟩ | ⟨q, q'⟩
        · rcases inN_cases x2 (n := s_n (t_S σ)) (by omega) with ⟨j, hj, rfl, r⟩ | ⟨r, r'⟩
          · rw [cl_ (n := i) (by omega), cl_ (n := j) (by omega)] at d ⊢
            exact Chg.yes (by omega) (sLink_ok h.S f hi hj d.1 d.2)
          · exact absurd c.2 r'
        · exact absurd c.1 q'
      · exact Chg.no (by decide)
    · exact Chg.no (by decide)
  · exact Chg.no (by decide)
theorem chg_part {σ : ST} (h : OkT σ) {x1 : Int32} : Chg σ (spPart σ x1) := by
  have hn := h.S.m
  unfold spPart
  rcases inN_cases x1 (n := s_m (t_S σ)) (by omega) with ⟨i, hi, rfl, q⟩ | ⟨q, q'⟩
  · rw [if_pos q, cl_ (n := i) (by omega)]
    exact Chg.yes (by omega) (sUnlink_ok h.S hi)
  · rw [if_neg q']
    exact Chg.no (by decide)
theorem chg_metal {σ : ST} (h : OkT σ) {x1 x2 : Int32} : Chg σ (spMetal σ x1 x2) := by
  have hs := h.S.sh
  unfold spMetal
  split
  · rename_i d
    obtain ⟨a, ha, rfl⟩ := dig (b := 200) (by omega) d.1
    obtain ⟨b, hb, rfl⟩ := dig (b := 500) (by omega) d.2
    rw [cl_ (n := a) (by omega), cl_ (n := b) (by omega)]
    exact Chg.yes (by omega) (sMetal_ok h.S ha hb)
  · exact Chg.no (by decide)
/-- what changes() does -/
def Did (vt : TV) (σ : ST) (r : Option (Int32 × CV × FV × HV)) : Prop := ∃ x v w g σ', r = some (x, v, w, g) ∧ RelC v w g vt σ' ∧ Chg σ (x, σ')
theorem did_of {vt : TV} {σ : ST} {q : Int32 × ST} {F : Option (Int32 × CV × FV × HV)} (h : ∃ v w g, F = some (q.1, v, w, g) ∧ RelC v w g vt q.2) (hC : Chg σ q) : Did vt σ (bd4 F fun a b c d => some (a, b, c, d)) := by
  obtain ⟨v, w, g, e, hR⟩ := h
  rw [e]
  exact ⟨q.1, v, w, g, q.2, rfl, hR, hC⟩
theorem changes_ok {v : CV} {w : FV} {g : HV} {vt : TV} {σ : ST} (hR : RelC v w g vt σ) (h : OkT σ) (x : Int32) : Did vt σ (f_L_changes v w g x) := by
  obtain ⟨k1, -, e1⟩ := low_ok (x >>> (4 &&& 31)) (n := 12) (by omega) (by omega)
  obtain ⟨k3, -, e3⟩ := low_ok (x >>> (8 &&& 31)) (n := 12) (by omega) (by omega)
  obtain ⟨k5, -, e5⟩ := low_ok x (n := 14) (by omega) (by omega)
  obtain ⟨a1, -, d1⟩ := low_ok (x >>> (4 &&& 31)) (n := 2000) (by omega) (by omega)
  obtain ⟨a2, -, d2⟩ := low_ok (x >>> (15 &&& 31)) (n := 1500) (by omega) (by omega)
  obtain ⟨a3, -, d3⟩ := low_ok (x >>> (8 &&& 31)) (n := 1000) (by omega) (by omega)
  obtain ⟨a4, -, d4⟩ := low_ok (x >>> (18 &&& 31)) (n := 900) (by omega) (by omega)
  obtain ⟨a5, -, d5⟩ := low_ok (x >>> (8 &&& 31)) (n := 501) (by omega) (by omega)
  obtain ⟨a6, -, d6⟩ := low_ok (x >>> (4 &&& 31)) (n := 20) (by omega) (by omega)
  obtain ⟨a7, -, d7⟩ := low_ok (x >>> (4 &&& 31)) (n := 201) (by omega) (by omega)
  obtain ⟨a8, -, d8⟩ := low_ok (x >>> (12 &&& 31)) (n := 501) (by omega) (by omega)
  have e1 : f_L_low (x >>> (4 &&& 31)) 12 = some (nI k1) := e1
  have e3 : f_L_low (x >>> (8 &&& 31)) 12 = some (nI k3) := e3
  have e5 : f_L_low x 14 = some (nI k5) := e5
  have d1 : f_L_low (x >>> (4 &&& 31)) 2000 = some (nI a1) := d1
  have d2 : f_L_low (x >>> (15 &&& 31)) 1500 = some (nI a2) := d2
  have d3 : f_L_low (x >>> (8 &&& 31)) 1000 = some (nI a3) := d3
  have d4 : f_L_low (x >>> (18 &&& 31)) 900 = some (nI a4) := d4
  have d5 : f_L_low (x >>> (8 &&& 31)) 501 = some (nI a5) := d5
  have d6 : f_L_low (x >>> (4 &&& 31)) 20 = some (nI a6) := d6
  have d7 : f_L_low (x >>> (4 &&& 31)) 201 = some (nI a7) := d7
  have d8 : f_L_low (x >>> (12 &&& 31)) 501 = some (nI a8) := d8
  have add : ∀ z : Int32, (z = 0 ∨ z = 1) → Did vt σ (bd4 (f_X4_addSection v w g (1 + nI a1) (1 + nI a2) z) fun a b c d => some (a, b, c, d)) := fun z hz => did_of (add_c hR h hz) (chg_add h hz)
  unfold f_L_changes
  rw [e1, bd_s, e3, bd_s, e5, bd_s]
  by_cases c0 : nI k5 = 0
  · rw [br_T c0, d1, bd_s, d2, bd_s]
    by_cases q : ((x >>> (14 &&& 31)) &&& 3) = 0
    · rw [br_T q]; exact add 1 (Or.inr rfl)
    · rw [br_F q]; exact add 0 (Or.inl rfl)
  rw [br_F c0]
  by_cases c1 : nI k5 = 1
  · rw [br_T c1, d1, bd_s, d2, bd_s]
    by_cases q : ((x >>> (14 &&& 31)) &&& 3) = 0
    · rw [br_T q]; exact add 1 (Or.inr rfl)
    · rw [br_F q]; exact add 0 (Or.inl rfl)
  rw [br_F c1]
  by_cases c2 : nI k5 = 2
  · rw [br_T c2, d1, bd_s, d2, bd_s]
    by_cases q : ((x >>> (14 &&& 31)) &&& 3) = 0
    · rw [br_T q]; exact add 1 (Or.inr rfl)
    · rw [br_F q]; exact add 0 (Or.inl rfl)
  rw [br_F c2]
  by_cases c3 : nI k5 = 3
  · rw [br_T c3, d3, bd_s, d4, bd_s]
    exact did_of (size_c hR h) (chg_size h)
  rw [br_F c3]
  by_cases c4 : nI k5 = 4
  · rw [br_T c4, d5, bd_s]
    exact did_of (chill_c hR h) (chg_chill h)
  rw [br_F c4]
  by_cases c5 : nI k5 = 5
  · rw [br_T c5]
    exact did_of (drop_c hR h) (chg_drop h)
  rw [br_F c5]
  by_cases c6 : nI k5 = 6
  · rw [br_T c6, d6, bd_s]
    exact did_of (part_c hR h) (chg_part h)
  rw [br_F c6]
  by_cases c7 : nI k5 = 7
  · rw [br_T c7, d7, bd_s, d8, bd_s]
    exact did_of (metal_c hR h) (chg_metal h)
  rw [br_F c7]
  exact did_of (join_c hR h) (chg_join h)
