/-! ===== 36: the calls that change, as the document puts them; the program's side ===== -/
/-- a casting, its history, the text -/
abbrev ST : Type := SC × Nat × (Nat → SC) × (Nat → Int32) × Nat
def t_S (σ : ST) : SC := σ.1
def t_k (σ : ST) : Nat := σ.2.1
def t_h (σ : ST) : Nat → SC := σ.2.2.1
def t_c (σ : ST) : Nat → Int32 := σ.2.2.2.1
def t_L (σ : ST) : Nat := σ.2.2.2.2
def OkT (σ : ST) : Prop := OkC (t_S σ) ∧ t_k σ ≤ 5 ∧ (∀ t, t < t_k σ → OkC (t_h σ t)) ∧ t_L σ ≤ 120
theorem OkT.S {σ : ST} (h : OkT σ) : OkC (t_S σ) := h.1
theorem OkT.k {σ : ST} (h : OkT σ) : t_k σ ≤ 5 := h.2.1
theorem OkT.h {σ : ST} (h : OkT σ) : ∀ t, t < t_k σ → OkC (t_h σ t) := h.2.2.1
theorem OkT.L {σ : ST} (h : OkT σ) : t_L σ ≤ 120 := h.2.2.2
def HistC (g : HV) (k : Nat) (hs : Nat → SC) : Prop := H_si g = nI k ∧ ∀ t, t < k → RepC (H_st g t) (hs t)
def TextC (u : TV) (c : Nat → Int32) (L : Nat) : Prop := T_le u = nI L ∧ ∀ i, i < L → T_co u i = c i
def RelC (vc : CV) (vf : FV) (vh : HV) (vt : TV) (σ : ST) : Prop := RepC vc (t_S σ) ∧ FrF vf (t_S σ) ∧ HistC vh (t_k σ) (t_h σ) ∧ TextC vt (t_c σ) (t_L σ)
theorem RelC.c {vc : CV} {vf : FV} {vh : HV} {vt : TV} {σ : ST} (h : RelC vc vf vh vt σ) : RepC vc (t_S σ) := h.1
theorem RelC.f {vc : CV} {vf : FV} {vh : HV} {vt : TV} {σ : ST} (h : RelC vc vf vh vt σ) : FrF vf (t_S σ) := h.2.1
theorem RelC.h {vc : CV} {vf : FV} {vh : HV} {vt : TV} {σ : ST} (h : RelC vc vf vh vt σ) : HistC vh (t_k σ) (t_h σ) := h.2.2.1
theorem RelC.t {vc : CV} {vf : FV} {vh : HV} {vt : TV} {σ : ST} (h : RelC vc vf vh vt σ) : TextC vt (t_c σ) (t_L σ) := h.2.2.2
/-! the history -/
def pkk (k : Nat) : Nat := if k < 5 then k + 1 else 5
def ph (k : Nat) (hs : Nat → SC) (S : SC) : Nat → SC := if k < 5 then va_up hs k S else va_up (fun t => hs (t + 1)) 4 S
/-- the call has changed the casting to S' -/
def put (σ : ST) (S' : SC) : ST := (S', pkk (t_k σ), ph (t_k σ) (t_h σ) (t_S σ), t_c σ, t_L σ)
theorem pkk_le (k : Nat) : pkk k ≤ 5 := by unfold pkk; split <;> omega
theorem ph_ok {k : Nat} {hs : Nat → SC} {S : SC} (P : SC → Prop) (hk : k ≤ 5) (h : ∀ t, t < k → P (hs t)) (hS : P S) : ∀ t, t < pkk k → P (ph k hs S t) := by
  intro t ht
  unfold pkk at ht
  unfold ph
  by_cases c : k < 5
  · rw [if_pos c] at ht ⊢
    unfold va_up
    by_cases d : t = k
    · rw [if_pos d]; exact hS
    · rw [if_neg d]; exact h t (by omega)
  · rw [if_neg c] at ht ⊢
    unfold va_up
    by_cases d : t = 4
    · rw [if_pos d]; exact hS
    · rw [if_neg d]; exact h (t + 1) (by omega)
theorem put_ok {σ : ST} {S' : SC} (h : OkT σ) (h' : OkC S') : OkT (put σ S') :=
  ⟨h', pkk_le _, ph_ok OkC h.k h.h h.S, h.L⟩
theorem b16_ok {g : HV} {v : CV} {S : SC} {k : Nat} {hs : Nat → SC} (hg : HistC g k hs) (hk : k < 5) (hv : RepC v S) (hO : OkC S) : ∃ g', f_X2_keep_b16 g v = some g' ∧ HistC g' (k + 1) (va_up hs k S) := by
  obtain ⟨v1, e, h1⟩ := copyFrom_rep (v := H_st g k) hv hO
  refine ⟨(nI k + 1, va_up (H_st g) k v1, H_ad g), ?_, nI_1 k, fun t ht => ?_⟩
  · unfold f_X2_keep_b16
    rw [hg.1, br_neg _ (by omega), br_le _ _ (by omega) (by omega), if_neg (by omega), cl_ (by omega), e]
    rfl
  · show RepC (va_up (H_st g) k v1 t) (va_up hs k S t)
    unfold va_up
    by_cases c : t = k
    · rw [if_pos c, if_pos c]; exact h1
    · rw [if_neg c, if_neg c]; exact hg.2 t (by omega)
theorem keep_ok {g : HV} {v : CV} {S : SC} {k : Nat} {hs : Nat → SC} (hg : HistC g k hs) (hk : k ≤ 5) (hv : RepC v S) (hO : OkC S) : ∃ g', f_X2_keep g v = some g' ∧ HistC g' (pkk k) (ph k hs S) := by
  unfold f_X2_keep pkk ph
  rw [hg.1, br_lt _ _ (by omega) (by omega)]
  by_cases c : k < 5
  · rw [if_pos c, if_pos c, if_pos c]
    exact b16_ok hg c hv hO
  · rw [if_neg c, if_neg c, if_neg c]
    obtain rfl : k = 5 := by omega
    unfold f_X2_dropOldest
    rw [bd_s]
    refine b16_ok (k := 4) ⟨?_, fun t ht => ?_⟩ (by omega) hv hO
    · show H_si g - 1 = nI 4
      rw [hg.1]; rfl
    · show RepC (rot (H_st g) t) (hs (t + 1))
      unfold rot
      rw [if_pos ht]
      exact hg.2 (t + 1) (by omega)
/-! the changes -/
def sSize (S : SC) (i a b : Nat) : SC := (s_n S, s_m S, s_sh S, s_pi S, va_up (s_vo S) i a, va_up (s_ar S) i b, s_ch S, s_fe S, s_ja S, s_jb S)
def sChill (S : SC) (i a : Nat) : SC := (s_n S, s_m S, s_sh S, s_pi S, s_vo S, s_ar S, va_up (s_ch S) i a, s_fe S, s_ja S, s_jb S)
def sMetal (S : SC) (a b : Nat) : SC := (s_n S, s_m S, a, b, s_vo S, s_ar S, s_ch S, s_fe S, s_ja S, s_jb S)
theorem rep_at {f : AF} {g : Nat → Nat} {n i x : Nat} {y : Int32} (hy : y = nI x) (h : ∀ j, j < n → f j = nI (g j)) : ∀ j, j < n → upd f i y j = nI (va_up g i x j) := by
  intro j hj
  unfold upd va_up
  by_cases q : j = i
  · rw [if_pos q, if_pos q, hy]
  · rw [if_neg q, if_neg q]; exact h j hj
theorem sSize_ok {S : SC} (hO : OkC S) {i a b : Nat} (ha : 1 ≤ a ∧ a ≤ 5000) (hb : 1 ≤ b ∧ b ≤ 5000) : OkC (sSize S i a b) := by
  refine ⟨hO.n, hO.m, hO.sh, hO.pi, fun j hj => ?_, fun j hj => hO.jj hj, fun i j hij hj => hO.one hij hj⟩
  have hj' : j < s_n S := hj
  show (1 ≤ va_up (s_vo S) i a j ∧ va_up (s_vo S) i a j ≤ 5000) ∧ (1 ≤ va_up (s_ar S) i b j ∧ va_up (s_ar S) i b j ≤ 5000) ∧ s_ch S j ≤ 500 ∧ s_fe S j ≤ 1
  unfold va_up
  by_cases q : j = i
  · rw [if_pos q, if_pos q]; exact ⟨ha, hb, hO.ch hj', hO.fe hj'⟩
  · rw [if_neg q, if_neg q]; exact ⟨hO.vo hj', hO.ar hj', hO.ch hj', hO.fe hj'⟩
theorem sChill_ok {S : SC} (hO : OkC S) {i a : Nat} (ha : a ≤ 500) : OkC (sChill S i a) := by
  refine ⟨hO.n, hO.m, hO.sh, hO.pi, fun j hj => ?_, fun j hj => hO.jj hj, fun i j hij hj => hO.one hij hj⟩
  have hj' : j < s_n S := hj
  show (1 ≤ s_vo S j ∧ s_vo S j ≤ 5000) ∧ (1 ≤ s_ar S j ∧ s_ar S j ≤ 5000) ∧ va_up (s_ch S) i a j ≤ 500 ∧ s_fe S j ≤ 1
  unfold va_up
  by_cases q : j = i
  · rw [if_pos q]; exact ⟨hO.vo hj', hO.ar hj', ha, hO.fe hj'⟩
  · rw [if_neg q]; exact ⟨hO.vo hj', hO.ar hj', hO.ch hj', hO.fe hj'⟩
theorem sMetal_ok {S : SC} (hO : OkC S) {a b : Nat} (ha : a ≤ 200) (hb : b ≤ 500) : OkC (sMetal S a b) :=
  ⟨hO.n, hO.m, ha, hb, fun j hj => ⟨hO.vo hj, hO.ar hj, hO.ch hj, hO.fe hj⟩, fun j hj => hO.jj hj, fun i j hij hj => hO.one hij hj⟩
theorem rep_chill {v : CV} {S : SC} (h : RepC v S) {i a : Nat} : RepC (C_se v, C_jo v, C_sh v, C_pi v, C_vo v, C_ar v, upd (C_ch v) i (nI a), C_fe v, C_fi v, C_sd v) (sChill S i a) :=
  ⟨h.se, h.jo, h.sh, h.pi, h.vo, h.ar, rep_at rfl h.ch, h.fe, h.fi, h.sd, h.ff⟩
/-! addSection -/
abbrev isSz (x : Int32) : Prop := 1 ≤ x ∧ x ≤ 5000
theorem sz_of {x : Int32} (h : isSz x) : ∃ k, (1 ≤ k ∧ k ≤ 5000) ∧ x = nI k := by
  obtain ⟨k, h1, h2, h3⟩ := nat_of (a := 1) (b := 5000) (by omega) h.1 h.2 (by omega)
  exact ⟨k, ⟨h1, h2⟩, h3⟩
theorem ch_of {x : Int32} {b : Nat} (hb : b < 2 ^ 31) (h : 0 ≤ x ∧ x ≤ nI b) : ∃ k, k ≤ b ∧ x = nI k := dig hb h
noncomputable def spAdd (σ : ST) (x1 x2 x3 : Int32) : Int32 × ST :=
  if isSz x1 ∧ isSz x2 then (if s_n (t_S σ) < 12 then (nI (s_n (t_S σ)), put σ (sApp (t_S σ) x1.toNatClampNeg x2.toNatClampNeg 0 x3.toNatClampNeg)) else (-5, σ)) else (-3, σ)
theorem spAdd_ok {σ : ST} (h : OkT σ) {x1 x2 x3 : Int32} (h3 : x3 = 0 ∨ x3 = 1) : OkT (spAdd σ x1 x2 x3).2 := by
  unfold spAdd
  split
  · rename_i c
    obtain ⟨a, ha, rfl⟩ := sz_of c.1
    obtain ⟨b, hb, rfl⟩ := sz_of c.2
    split
    · rename_i d
      rw [cl_ (by omega), cl_ (by omega)]
      refine put_ok h (sApp_ok h.S d ha hb (by omega) ?_)
      rcases h3 with rfl | rfl <;> decide
    · exact h
  · exact h
theorem add_c {vc : CV} {vf : FV} {vh : HV} {vt : TV} {σ : ST} (hR : RelC vc vf vh vt σ) (h : OkT σ) {x1 x2 x3 : Int32} (h3 : x3 = 0 ∨ x3 = 1) : ∃ vc' vf' vh', f_X4_addSection vc vf vh x1 x2 x3 = some ((spAdd σ x1 x2 x3).1, vc', vf', vh') ∧ RelC vc' vf' vh' vt (spAdd σ x1 x2 x3).2 := by
  unfold f_X4_addSection spAdd
  rw [size_ok, bd_s, b1_ne, size_ok, bd_s, b1_ne, roomS_ok hR.c h.S, bd_s, b1_ne]
  by_cases c1 : isSz x1
  · rw [if_pos c1]
    by_cases c2 : isSz x2
    · rw [if_pos c2, if_pos (show isSz x1 ∧ isSz x2 from ⟨c1, c2⟩)]
      by_cases c : s_n (t_S σ) < 12
      · rw [if_pos c, if_pos c]
        obtain ⟨a, ha, rfl⟩ := sz_of c1
        obtain ⟨b, hb, rfl⟩ := sz_of c2
        rw [cl_ (by omega), cl_ (by omega)]
        obtain ⟨fe, hfe, rfl⟩ : ∃ fe, fe ≤ 1 ∧ x3 = nI fe := by
          rcases h3 with rfl | rfl
          · exact ⟨0, by omega, rfl⟩
          · exact ⟨1, by omega, rfl⟩
        rw [cl_ (by omega)]
        obtain ⟨g', e1, hg⟩ := keep_ok hR.h h.k hR.c h.S
        obtain ⟨v', e2, hv⟩ := append_ok hR.c h.S c (vo := a) (ar := b) (ch := 0) hfe
        obtain ⟨w', e3, hw⟩ := follow_ok hv (sApp_ok h.S c ha hb (by omega) hfe) vf
        rw [e1, bd_s, show (0 : Int32) = nI 0 from rfl, e2, bd2_s, e3, bd_s]
        exact ⟨v', w', g', rfl, hv, hw, hg, hR.t⟩
      · rw [if_neg c, if_neg c]
        exact ⟨vc, vf, vh, rfl, hR⟩
    · rw [if_neg c2, if_neg (fun z => c2 z.2)]
      exact ⟨vc, vf, vh, rfl, hR⟩
  · rw [if_neg c1, if_neg (fun z => c1 z.1)]
    exact ⟨vc, vf, vh, rfl, hR⟩
/-! resize -/
abbrev inN (n : Nat) (x : Int32) : Prop := 0 ≤ x ∧ x < nI n
theorem inN_nI {n i : Nat} (hn : n < 2 ^ 31) (hi : i < n) : inN n (nI i) := ⟨nI_pos' (by omega), nI_lt hi hn⟩
theorem inN_out {n : Nat} {x : Int32} (h : outN n x) : ¬ inN n x := by
  intro q
  rcases h with h | h
  · exact Int32.not_lt.mpr q.1 h
  · exact Int32.not_lt.mpr h q.2
theorem inN_cases (x : Int32) {n : Nat} (hn : n < 2 ^ 31) : (∃ i, i < n ∧ x = nI i ∧ inN n x) ∨ (outN n x ∧ ¬ inN n x) := by
  rcases in_out x hn with ⟨i, hi, rfl⟩ | q
  · exact Or.inl ⟨i, hi, rfl, inN_nI hn hi⟩
  · exact Or.inr ⟨q, inN_out q⟩
noncomputable def spSize (σ : ST) (x1 x2 x3 : Int32) : Int32 × ST :=
  if inN (s_n (t_S σ)) x1 then (if isSz x2 ∧ isSz x3 then (nI (s_vo (t_S σ) x1.toNatClampNeg), put σ (sSize (t_S σ) x1.toNatClampNeg x2.toNatClampNeg x3.toNatClampNeg)) else (-3, σ)) else (-2, σ)
theorem spSize_ok {σ : ST} (h : OkT σ) {x1 x2 x3 : Int32} : OkT (spSize σ x1 x2 x3).2 := by
  unfold spSize
  split
  · split
    · rename_i d
      obtain ⟨a, ha, rfl⟩ := sz_of d.1
      obtain ⟨b, hb, rfl⟩ := sz_of d.2
      rw [cl_ (n := a) (by omega), cl_ (n := b) (by omega)]
      exact put_ok h (sSize_ok h.S ha hb)
    · exact h
  · exact h
theorem size_c {vc : CV} {vf : FV} {vh : HV} {vt : TV} {σ : ST} (hR : RelC vc vf vh vt σ) (h : OkT σ) {x1 x2 x3 : Int32} : ∃ vc' vf' vh', f_X4_resize vc vf vh x1 x2 x3 = some ((spSize σ x1 x2 x3).1, vc', vf', vh') ∧ RelC vc' vf' vh' vt (spSize σ x1 x2 x3).2 := by
  have hn := h.S.n
  unfold f_X4_resize spSize
  rcases inN_cases x1 (n := s_n (t_S σ)) (by omega) with ⟨i, hi, rfl, q⟩ | ⟨q, q'⟩
  · rw [has_yes hR.c h.S hi, bd_s, br_F (by decide), if_pos q, size_ok, bd_s, b1_ne, size_ok, bd_s, b1_ne]
    by_cases c1 : isSz x2
    · rw [if_pos c1]
      by_cases c2 : isSz x3
      · rw [if_pos c2, if_pos ⟨c1, c2⟩]
        obtain ⟨a, ha, rfl⟩ := sz_of c1
        obtain ⟨b, hb, rfl⟩ := sz_of c2
        rw [cl_ (n := a) (by omega), cl_ (n := b) (by omega), cl_ (n := i) (by omega)]
        obtain ⟨g', e1, hg⟩ := keep_ok hR.h h.k hR.c h.S
        have hv : RepC (C_se vc, C_jo vc, C_sh vc, C_pi vc, upd (C_vo vc) i (nI a), upd (C_ar vc) i (nI b), C_ch vc, C_fe vc, C_fi vc, C_sd vc) (sSize (t_S σ) i a b) :=
          ⟨hR.c.se, hR.c.jo, hR.c.sh, hR.c.pi, rep_at rfl hR.c.vo, rep_at rfl hR.c.ar, hR.c.ch, hR.c.fe, hR.c.fi, hR.c.sd, hR.c.ff⟩
        obtain ⟨w', e3, hw⟩ := follow_ok hv (sSize_ok h.S ha hb) vf
        rw [e1, bd_s, at_in (by omega) (by omega), bd_s, put_in (by omega) (by omega), bd_s, put_in (by omega) (by omega), bd_s, e3, bd_s, hR.c.vo i hi]
        exact ⟨_, w', g', rfl, hv, hw, hg, hR.t⟩
      · rw [if_neg c2, if_neg (fun z => c2 z.2)]
        exact ⟨vc, vf, vh, rfl, hR⟩
    · rw [if_neg c1, if_neg (fun z => c1 z.1)]
      exact ⟨vc, vf, vh, rfl, hR⟩
  · rw [has_no hR.c q, bd_s, br_T rfl, if_neg q']
    exact ⟨vc, vf, vh, rfl, hR⟩
/-! setChill -/
noncomputable def spChill (σ : ST) (x1 x2 : Int32) : Int32 × ST :=
  if inN (s_n (t_S σ)) x1 then (if 0 ≤ x2 ∧ x2 ≤ 500 then (nI (s_ch (t_S σ) x1.toNatClampNeg), put σ (sChill (t_S σ) x1.toNatClampNeg x2.toNatClampNeg)) else (-3, σ)) else (-2, σ)
theorem spChill_ok {σ : ST} (h : OkT σ) {x1 x2 : Int32} : OkT (spChill σ x1 x2).2 := by
  unfold spChill
  split
  · split
    · rename_i d
      obtain ⟨a, ha, rfl⟩ := dig (b := 500) (by omega) d
      rw [cl_ (n := a) (by omega)]
      exact put_ok h (sChill_ok h.S ha)
    · exact h
  · exact h
theorem chill_c {vc : CV} {vf : FV} {vh : HV} {vt : TV} {σ : ST} (hR : RelC vc vf vh vt σ) (h : OkT σ) {x1 x2 : Int32} : ∃ vc' vf' vh', f_X4_setChill vc vf vh x1 x2 = some ((spChill σ x1 x2).1, vc', vf', vh') ∧ RelC vc' vf' vh' vt (spChill σ x1 x2).2 := by
  have hn := h.S.n
  unfold f_X4_setChill spChill
  rcases inN_cases x1 (n := s_n (t_S σ)) (by omega) with ⟨i, hi, rfl, q⟩ | ⟨q, q'⟩
  · rw [has_yes hR.c h.S hi, bd_s, br_F (by decide), if_pos q, within_ok, bd_s, b1_ne]
    by_cases c1 : 0 ≤ x2 ∧ x2 ≤ 500
    · rw [if_pos c1, if_pos c1]
      obtain ⟨a, ha, rfl⟩ := dig (b := 500) (by omega) c1
      rw [cl_ (n := a) (by omega), cl_ (n := i) (by omega)]
      obtain ⟨g', e1, hg⟩ := keep_ok hR.h h.k hR.c h.S
      have hv := rep_chill hR.c (i := i) (a := a)
      obtain ⟨w', e3, hw⟩ := follow_ok hv (sChill_ok h.S ha) vf
      rw [e1, bd_s, at_in (by omega) (by omega), bd_s, put_in (by omega) (by omega), bd_s, e3, bd_s, hR.c.ch i hi]
      exact ⟨_, w', g', rfl, hv, hw, hg, hR.t⟩
    · rw [if_neg c1, if_neg c1]
      exact ⟨vc, vf, vh, rfl, hR⟩
  · rw [has_no hR.c q, bd_s, br_T rfl, if_neg q']
    exact ⟨vc, vf, vh, rfl, hR⟩
/-! removeSection -/
noncomputable def spDrop (σ : ST) (x1 : Int32) : Int32 × ST :=
  if inN (s_n (t_S σ)) x1 then (nI (s_n (t_S σ) - 1), put σ (sDrop (t_S σ) x1.toNatClampNeg)) else (-2, σ)
theorem spDrop_ok {σ : ST} (h : OkT σ) {x1 : Int32} : OkT (spDrop σ x1).2 := by
  have hn := h.S.n
  unfold spDrop
  rcases inN_cases x1 (n := s_n (t_S σ)) (by omega) with ⟨i, hi, rfl, q⟩ | ⟨q, q'⟩
  · rw [if_pos q, cl_ (by omega)]
    exact put_ok h (sDrop_ok h.S hi)
  · rw [if_neg q']; exact h
theorem drop_c {vc : CV} {vf : FV} {vh : HV} {vt : TV} {σ : ST} (hR : RelC vc vf vh vt σ) (h : OkT σ) {x1 : Int32} : ∃ vc' vf' vh', f_X4_removeSection vc vf vh x1 = some ((spDrop σ x1).1, vc', vf', vh') ∧ RelC vc' vf' vh' vt (spDrop σ x1).2 := by
  have hn := h.S.n
  unfold f_X4_removeSection spDrop
  rcases inN_cases x1 (n := s_n (t_S σ)) (by omega) with ⟨i, hi, rfl, q⟩ | ⟨q, q'⟩
  · rw [has_yes hR.c h.S hi, bd_s, br_F (by decide), if_pos q, cl_ (n := i) (by omega)]
    obtain ⟨g', e1, hg⟩ := keep_ok hR.h h.k hR.c h.S
    obtain ⟨v', e2, hv⟩ := drop_ok hR.c h.S hi
    obtain ⟨w', e3, hw⟩ := follow_ok hv (sDrop_ok h.S hi) vf
    rw [e1, bd_s, e2, bd_s, e3, bd_s]
    exact ⟨v', w', g', by rw [hv.se]; rfl, hv, hw, hg, hR.t⟩
  · rw [has_no hR.c q, bd_s, br_T rfl, if_neg q']
    exact ⟨vc, vf, vh, rfl, hR⟩
/-! join -/
noncomputable def spJoin (σ : ST) (x1 x2 : Int32) : Int32 × ST :=
  if inN (s_n (t_S σ)) x1 ∧ inN (s_n (t_S σ)) x2 then (if x1.toNatClampNeg ≠ x2.toNatClampNeg ∧ nb (t_S σ) x1.toNatClampNeg x2.toNatClampNeg = false then (if s_m (t_S σ) < 20 then (nI (s_m (t_S σ)), put σ (sLink (t_S σ) x1.toNatClampNeg x2.toNatClampNeg)) else (-5, σ)) else (-4, σ)) else (-2, σ)
theorem spJoin_ok {σ : ST} (h : OkT σ) {x1 x2 : Int32} : OkT (spJoin σ x1 x2).2 := by
  have hn := h.S.n
  unfold spJoin
  split
  · rename_i c
    split
    · rename_i d
      split
      · rename_i f
        rcases inN_cases x1 (n := s_n (t_S σ)) (by omega) with ⟨i, hi, rfl, q⟩ | ⟨q, q'⟩
        · rcases inN_cases x2 (n := s_n (t_S σ)) (by omega) with ⟨j, hj, rfl, r⟩ | ⟨r, r'⟩
          · rw [cl_ (by omega), cl_ (by omega)] at d ⊢
            exact put_ok h (sLink_ok h.S f hi hj d.1 d.2)
          · exact absurd c.2 r'
        · exact absurd c.1 q'
      · exact h
    · exact h
  · exact h
theorem join_c {vc : CV} {vf : FV} {vh : HV} {vt : TV} {σ : ST} (hR : RelC vc vf vh vt σ) (h : OkT σ) {x1 x2 : Int32} : ∃ vc' vf' vh', f_X4_join vc vf vh x1 x2 = some ((spJoin σ x1 x2).1, vc', vf', vh') ∧ RelC vc' vf' vh' vt (spJoin σ x1 x2).2 := by
  have hn := h.S.n
  unfold f_X4_join spJoin
  rcases inN_cases x1 (n := s_n (t_S σ)) (by omega) with ⟨i, hi, rfl, q⟩ | ⟨q, q'⟩
  · rw [has_yes hR.c h.S hi, bd_s, br_F (by decide)]
    rcases inN_cases x2 (n := s_n (t_S σ)) (by omega) with ⟨j, hj, rfl, r⟩ | ⟨r, r'⟩
    · rw [has_yes hR.c h.S hj, bd_s, br_F (by decide), if_pos ⟨q, r⟩, canLink_ok hR.c h.S hi hj, bd_s, b1_ne, cl_ (n := i) (by omega), cl_ (n := j) (by omega)]
      by_cases c : i ≠ j ∧ nb (t_S σ) i j = false
      · rw [if_pos c, if_pos c, roomJ_ok hR.c h.S, bd_s, b1_ne]
        by_cases d : s_m (t_S σ) < 20
        · rw [if_pos d, if_pos d]
          obtain ⟨g', e1, hg⟩ := keep_ok hR.h h.k hR.c h.S
          obtain ⟨v', e2, hv⟩ := link_ok hR.c h.S d (a := i) (b := j)
          obtain ⟨w', e3, hw⟩ := follow_ok hv (sLink_ok h.S d hi hj c.1 c.2) vf
          rw [e1, bd_s, e2, bd2_s, e3, bd_s]
          exact ⟨v', w', g', rfl, hv, hw, hg, hR.t⟩
        · rw [if_neg d, if_neg d]
          exact ⟨vc, vf, vh, rfl, hR⟩
      · rw [if_neg c, if_neg c]
        exact ⟨vc, vf, vh, rfl, hR⟩
    · rw [has_no hR.c r, bd_s, br_T rfl, if_neg (fun z => r' z.2)]
      exact ⟨vc, vf, vh, rfl, hR⟩
  · rw [has_no hR.c q, bd_s, br_T rfl, if_neg (fun z => q' z.1)]
    exact ⟨vc, vf, vh, rfl, hR⟩
/-! part -/
noncomputable def spPart (σ : ST) (x1 : Int32) : Int32 × ST :=
  if inN (s_m (t_S σ)) x1 then (nI (s_m (t_S σ) - 1), put σ (sUnlink (t_S σ) x1.toNatClampNeg)) else (-2, σ)
theorem spPart_ok {σ : ST} (h : OkT σ) {x1 : Int32} : OkT (spPart σ x1).2 := by
  have hn := h.S.m
  unfold spPart
  rcases inN_cases x1 (n := s_m (t_S σ)) (by omega) with ⟨i, hi, rfl, q⟩ | ⟨q, q'⟩
  · rw [if_pos q, cl_ (by omega)]
    exact put_ok h (sUnlink_ok h.S hi)
  · rw [if_neg q']; exact h
theorem part_c {vc : CV} {vf : FV} {vh : HV} {vt : TV} {σ : ST} (hR : RelC vc vf vh vt σ) (h : OkT σ) {x1 : Int32} : ∃ vc' vf' vh', f_X4_part vc vf vh x1 = some ((spPart σ x1).1, vc', vf', vh') ∧ RelC vc' vf' vh' vt (spPart σ x1).2 := by
  have hn := h.S.m
  unfold f_X4_part spPart
  rcases inN_cases x1 (n := s_m (t_S σ)) (by omega) with ⟨i, hi, rfl, q⟩ | ⟨q, q'⟩
  · rw [hasJ_yes hR.c h.S hi, bd_s, br_F (by decide), if_pos q, cl_ (n := i) (by omega)]
    obtain ⟨g', e1, hg⟩ := keep_ok hR.h h.k hR.c h.S
    obtain ⟨v', e2, hv⟩ := unlink_ok hR.c h.S hi
    obtain ⟨w', e3, hw⟩ := follow_ok hv (sUnlink_ok h.S hi) vf
    rw [e1, bd_s, e2, bd_s, e3, bd_s]
    exact ⟨v', w', g', by rw [hv.jo]; rfl, hv, hw, hg, hR.t⟩
  · rw [hasJ_no hR.c q, bd_s, br_T rfl, if_neg q']
    exact ⟨vc, vf, vh, rfl, hR⟩
/-! setMetal -/
noncomputable def spMetal (σ : ST) (x1 x2 : Int32) : Int32 × ST :=
  if (0 ≤ x1 ∧ x1 ≤ 200) ∧ (0 ≤ x2 ∧ x2 ≤ 500) then (nI (s_sh (t_S σ)), put σ (sMetal (t_S σ) x1.toNatClampNeg x2.toNatClampNeg)) else (-3, σ)
theorem spMetal_ok {σ : ST} (h : OkT σ) {x1 x2 : Int32} : OkT (spMetal σ x1 x2).2 := by
  unfold spMetal
  split
  · rename_i d
    obtain ⟨a, ha, rfl⟩ := dig (b := 200) (by omega) d.1
    obtain ⟨b, hb, rfl⟩ := dig (b := 500) (by omega) d.2
    rw [cl_ (by omega), cl_ (by omega)]
    exact put_ok h (sMetal_ok h.S ha hb)
  · exact h
theorem metal_c {vc : CV} {vf : FV} {vh : HV} {vt : TV} {σ : ST} (hR : RelC vc vf vh vt σ) (h : OkT σ) {x1 x2 : Int32} : ∃ vc' vf' vh', f_X4_setMetal vc vf vh x1 x2 = some ((spMetal σ x1 x2).1, vc', vf', vh') ∧ RelC vc' vf' vh' vt (spMetal σ x1 x2).2 := by
  unfold f_X4_setMetal spMetal
  rw [within_ok, bd_s, b1_ne, within_ok, bd_s, b1_ne]
  by_cases c1 : 0 ≤ x1 ∧ x1 ≤ 200
  · rw [if_pos c1]
    by_cases c2 : 0 ≤ x2 ∧ x2 ≤ 500
    · rw [if_pos c2, if_pos ⟨c1, c2⟩]
      obtain ⟨a, ha, rfl⟩ := dig (b := 200) (by omega) c1
      obtain ⟨b, hb, rfl⟩ := dig (b := 500) (by omega) c2
      rw [cl_ (n := a) (by omega), cl_ (n := b) (by omega)]
      obtain ⟨g', e1, hg⟩ := keep_ok hR.h h.k hR.c h.S
      have hv : RepC (C_se vc, C_jo vc, nI a, nI b, C_vo vc, C_ar vc, C_ch vc, C_fe vc, C_fi vc, C_sd vc) (sMetal (t_S σ) a b) :=
        ⟨hR.c.se, hR.c.jo, rfl, rfl, hR.c.vo, hR.c.ar, hR.c.ch, hR.c.fe, hR.c.fi, hR.c.sd, hR.c.ff⟩
      obtain ⟨w', e3, hw⟩ := follow_ok hv (sMetal_ok h.S ha hb) vf
      rw [e1, bd_s, e3, bd_s, hR.c.sh]
      exact ⟨_, w', g', rfl, hv, hw, hg, hR.t⟩
    · rw [if_neg c2, if_neg (fun z => c2 z.2)]
      exact ⟨vc, vf, vh, rfl, hR⟩
  · rw [if_neg c1, if_neg (fun z => c1 z.1)]
    exact ⟨vc, vf, vh, rfl, hR⟩
/-! undo -/
noncomputable def spUndo (σ : ST) : Int32 × ST :=
  if t_k σ = 0 then (-4, σ) else (nI (t_k σ - 1), (t_h σ (t_k σ - 1), t_k σ - 1, t_h σ, t_c σ, t_L σ))
theorem spUndo_ok {σ : ST} (h : OkT σ) : OkT (spUndo σ).2 := by
  have hk := h.k
  unfold spUndo
  split
  · exact h
  · refine ⟨h.h _ (by omega), ?_, fun t ht => h.h t ?_, h.L⟩
    · show t_k σ - 1 ≤ 5; omega
    · have ht' : t < t_k σ - 1 := ht
      omega
theorem undo_c {vc : CV} {vf : FV} {vh : HV} {vt : TV} {σ : ST} (hR : RelC vc vf vh vt σ) (h : OkT σ) : ∃ vc' vf' vh', f_X4_undo vc vf vh = some ((spUndo σ).1, vc', vf', vh') ∧ RelC vc' vf' vh' vt (spUndo σ).2 := by
  have hk := h.k
  unfold f_X4_undo spUndo f_X2_isEmpty
  rw [hR.h.1, show (0 : Int32) = nI 0 from rfl, br_lt _ _ (by omega) (by omega)]
  by_cases c : t_k σ = 0
  · rw [if_neg (by omega), bd_s, br_F (by decide), if_pos c]
    exact ⟨vc, vf, vh, rfl, hR⟩
  · have hO := h.h (t_k σ - 1) (by omega)
    obtain ⟨v', e2, hv⟩ := copyFrom_rep (v := vc) (hR.h.2 (t_k σ - 1) (by omega)) hO
    obtain ⟨w', e3, hw⟩ := follow_ok hv hO vf
    rw [if_pos (by omega), bd_s, br_T rfl, if_neg c]
    unfold f_X2_restore
    rw [hR.h.1, pred_nI (by omega), nm_s, br_neg _ (by omega), br_le _ _ (by omega) (by omega), if_neg (by omega), cl_ (by omega), e2, bd_s, bd2_s, e3, bd_s]
    exact ⟨v', w', (nI (t_k σ - 1), H_st vh, H_ad vh), rfl, hv, hw, ⟨rfl, fun t ht => hR.h.2 t (by have ht' : t < t_k σ - 1 := ht; omega)⟩, hR.t⟩
/-! type and clearText -/
noncomputable def spType (σ : ST) (x : Int32) : Int32 × ST :=
  if 0 ≤ x ∧ x ≤ 255 then (if t_L σ < 120 then (nI (t_L σ + 1), (t_S σ, t_k σ, t_h σ, upd (t_c σ) (t_L σ) x, t_L σ + 1)) else (-5, σ)) else (-3, σ)
theorem spType_ok {σ : ST} (h : OkT σ) {x : Int32} : OkT (spType σ x).2 := by
  unfold spType
  split
  · split
    · rename_i d
      exact ⟨h.S, h.k, h.h, d⟩
    · exact h
  · exact h
theorem text_up {f c : AF} {L : Nat} {x : Int32} (h : ∀ i, i < L → f i = c i) : ∀ i, i < L + 1 → upd f L x i = upd c L x i := by
  intro i hi
  unfold upd
  by_cases q : i = L
  · rw [if_pos q, if_pos q]
  · rw [if_neg q, if_neg q]; exact h i (by omega)
noncomputable def spClear (σ : ST) : Int32 × ST := (nI (t_L σ), (t_S σ, t_k σ, t_h σ, t_c σ, 0))
theorem spClear_ok {σ : ST} (h : OkT σ) : OkT (spClear σ).2 := ⟨h.S, h.k, h.h, Nat.zero_le _⟩
