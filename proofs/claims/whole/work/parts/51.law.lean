def R_law : String := "CastingFeederLaw"
def lw_P (b : Addr) (xs : List Int32) (args : Array Value) (s : State) : Prop := args = #[.ref b] ∧ s.IntsAt b xs ∧ xs.length ≤ 2048 ∧ (Jvm.Cond.and given_1 narrow_1).before args s = true
def lw_Q (_ : Array Value) (s : State) (o : Outcome) (t : State) : Prop := o = .returned (some (.int 1)) ∧ Framed s o t [] 600000 7302250
def lw_Z (below : List Frame) (a : Array Value) (s : State) : State → Prop := fun t => ∃ o, t.status = .running ∧ Ended t below o ∧ lw_Q a s o t
/-- the law's own end, with 1 on the stack, nothing written that was there before, its room as the claim has it -/
theorem lw_ret {p : Program} {l : Launch} {e : Env} {s : State} {m : MethodId} {below : List Frame} {meth : Method} {c : Code} {b : Nat} (hx : p.tables.exec = Jvm.exec) (hb : c.code = code) (hr : meth.sig.returnType = ret) (hlocks : meth.locks = false) {pc : Nat} {H : Heap} {ls : Array Slot} (hdg : decode code pc = .ok (.ireturn, 1)) : W p l e room_1 s m #[Value.ref b] below meth c H [] 600000 7302250 (lw_Z below #[Value.ref b] s) (F0 m pc ls [.int 1]) := by
  intro T hT X
  obtain ⟨fs, hret, hrun, hended, hW, hframe⟩ := X.leave (v := some (.int 1)) (hlocks := hlocks) (fun h => by rw [hr] at h; cases h)
  have hmeth' : T.vm.method? m = some meth := X.method'
  refine ⟨T.setFrames fs, ?_, .returned (some (.int 1)), hrun, hended, rfl, ⟨_, rfl⟩, hW, hframe⟩
  jvm_step X.here [X.here.top, hx, hb, hdg, hmeth', hr, ret, narrow_b1]
  (try refine ⟨rfl, ?_⟩); (try refine ⟨rfl, ?_⟩)
  first | (intro acts; rw [hret _ acts rfl rfl rfl]) | rw [hret _ _ rfl rfl rfl]
  exact Steps.refl _
/-- what holds at the law's entry: the machine, the code, the tables' words (any of lw_tbl by 'hts w (by decide +kernel)'), the script of L ints xs at the cell b, what the Statement gives of the start (any of its parts by flat_of_before) -/
def lw_At (p : Program) (s : State) (m : MethodId) (meth : Method) (c : Code) (b L : Nat) (xs : Nat → Int32) : Prop :=
  p.tables.exec = Jvm.exec ∧ c.code = code ∧ meth.sig.returnType = ret ∧ c.maxLocals = 4 ∧ s.vm.findClass R_law = some m.cls ∧ (∀ w ∈ lw_tbl, w.before #[Value.ref b] s = true) ∧ va_X b L xs s s.heap ∧ b < s.heap.size ∧ meth.locks = false ∧ (Jvm.Cond.and given_1 narrow_1).before #[Value.ref b] s = true

/-! ===== 51: the law's walk ===== -/
def LI (G : GG) (A : Nat → Prop) (s : State) (ax : Nat) (ac af ah at_ ar ad o : Nat → Nat) (H : Heap) (locs : List Loc) : Prop := ∃ (vc : CV) (vf : FV) (vh : HV) (vt : TV) (vr : CV) (vd : FV) (v : MV) (σ : ST), Wd G A s H locs (fl [xB ax ac af ah at_ ar ad, cB G ac vc, fB G af vf, hB G ah vh, tB G at_ vt, cB G ar vr, fB G ad vd, mB G o v]) ∧ RelC vc vf vh vt σ ∧ RelM v σ ∧ OkT σ
theorem cut8 {bs : List va_W} {w0 w1 : va_W} {bs' : List va_W} (n : Nat) (is js ks : List Nat) (cs' : List va_W) (hn : bs.length = n) (h1 : List.isPerm (is ++ js) (List.range n) = true) (h2 : fl (pk_ bs is) = w0) (h3 : fl cs' = w1) (hn2 : (cs' ++ pk_ bs js).length = n) (h4 : List.isPerm ks (List.range n) = true) (h5 : pk_ (cs' ++ pk_ bs js) ks = bs') : Cut (fl bs) w0 w1 (fl bs') :=
  Cut.blocks is js ks cs' (by rw [hn]; exact h1) h2 h3 (by rw [hn2]; exact h4) h5
theorem lcmp_s (x : Int64) : lg_cmp x x = 0 := by
  unfold lg_cmp
  simp

set_option maxHeartbeats 4000000 in
set_option maxRecDepth 100000 in
theorem lc_0 {p : Program} {l : Launch} {e : Env} {s : State} {m : MethodId} {below : List Frame} {meth : Method} {c : Code} {G : GG} {A : Nat → Prop} {b L i : Nat} {xs : Nat → Int32} {ax : Nat} {ac af ah at_ ar ad o : Nat → Nat} {H : Heap} {locs : List Loc} {ls : Array Slot} {Q : State → Prop} (X : Cx p s m #[Value.ref b] meth c cL_law 4 ret wsL_law RL G A) (hX : va_X b L xs s s.heap) (hbl : b < s.heap.size) (hbA : ¬ A b) (hi : i + 4 ≤ L) (hL : L ≤ 2048) (hI : LI G A s ax ac af ah at_ ar ad o H locs) (hl : lv_has ls 4 [(0, .ref b), (1, .ref ax), (2, .ref (o 0)), (3, .int (nI i))]) (kk : ∀ (H : Heap) (locs : List Loc), LI G A s ax ac af ah at_ ar ad o H locs → W p l e room_1 s m #[Value.ref b] below meth c H locs 600000 7302250 Q (F0 m 816 ls [])) : W p l e room_1 s m #[Value.ref b] below meth c H locs 600000 7302250 Q (F0 m 148 ls []) := by
  obtain ⟨⟨hx, hb, hml, hown, hts⟩, hK, hr, hlk, hA⟩ := id X
  obtain ⟨vc, vf, vh, vt, vr, vd, v, σ, hw, hC, hM, hO⟩ := hI
  have h1 : vp_in (nI i + 1 : Int32) L := by rw [show (1 : Int32) = nI 1 from rfl, nI_add]; exact vp_in_nI (by omega) (by omega)
  have h2 : vp_in (nI i + 2 : Int32) L := by rw [show (2 : Int32) = nI 2 from rfl, nI_add]; exact vp_in_nI (by omega) (by omega)
  have h3 : vp_in (nI i + 3 : Int32) L := by rw [show (3 : Int32) = nI 3 from rfl, nI_add]; exact vp_in_nI (by omega) (by omega)
  by_cases hq : xs (nI i + 3 : Int32).toNatClampNeg = 0
  · obtain ⟨zc, zf, zh, e1, hC2⟩ := add_c hC hO (x1 := (xs (nI i + 1 : Int32).toNatClampNeg)) (x2 := (xs (nI i + 2 : Int32).toNatClampNeg)) (x3 := 0) (Or.inl rfl)
    obtain ⟨zm, e2, hM2⟩ := add_m hM hO (x1 := (xs (nI i + 1 : Int32).toNatClampNeg)) (x2 := (xs (nI i + 2 : Int32).toNatClampNeg)) (x3 := 0) (Or.inl rfl)
    refine lv_aload_n hx hb dL_law_148 rfl (lv_at hl 1 rfl) ?_
    refine lv_aload_n hx hb dL_law_149 rfl (lv_at hl 0 rfl) ?_
    refine lv_iload_n hx hb dL_law_150 rfl (lv_at hl 3 rfl) ?_
    refine lv_iconst (v := 1) hx hb dL_law_151 (by decide) ?_
    refine lv_iadd hx hb dL_law_152 ?_
    refine va_sld hx hb hX hbl hbA hw.2.2 h1 dL_law_153 ?_
    refine lv_aload_n hx hb dL_law_154 rfl (lv_at hl 0 rfl) ?_
    refine lv_iload_n hx hb dL_law_155 rfl (lv_at hl 3 rfl) ?_
    refine lv_iconst (v := 2) hx hb dL_law_156 (by decide) ?_
    refine lv_iadd hx hb dL_law_157 ?_
    refine va_sld hx hb hX hbl hbA hw.2.2 h2 dL_law_158 ?_
    refine lv_aload_n hx hb dL_law_159 rfl (lv_at hl 0 rfl) ?_
    refine lv_iload_n hx hb dL_law_160 rfl (lv_at hl 3 rfl) ?_
    refine lv_iconst (v := 3) hx hb dL_law_161 (by decide) ?_
    refine lv_iadd hx hb dL_law_162 ?_
    refine va_sld hx hb hX hbl hbA hw.2.2 h3 dL_law_163 ?_
    refine lv_if_eq (tgt := 171) hx hb dL_law_164 (by decide) (fun _ => ?_) (fun z => absurd hq z)
    refine lv_iconst (v := 0) hx hb dL_law_171 (by decide) ?_
    refine x_Vi (As := [.int (xs (nI i + 1 : Int32).toNatClampNeg), .int (xs (nI i + 2 : Int32).toNatClampNeg), .int 0]) (w' := fl [xB ax ac af ah at_ ar ad, cB G ac zc, fB G af zf, hB G ah zh, tB G at_ vt, cB G ar vr, fB G ad vd, mB G o v]) X hw (m_X4_addSection (G := G) (l := l) (ax := ax) (ac := ac) (af := af) (ah := ah) (at_ := at_) (ar := ar) (ad := ad) e1) (cut8 (bs' := [xB ax ac af ah at_ ar ad, cB G ac zc, fB G af zf, hB G ah zh, tB G at_ vt, cB G ar vr, fB G ad vd, mB G o v]) 8 [0, 1, 2, 3] [4, 5, 6, 7] [0, 1, 2, 3, 4, 5, 6, 7] [xB ax ac af ah at_ ar ad, cB G ac zc, fB G af zf, hB G ah zh] rfl (by decide +kernel) rfl rfl rfl (by decide +kernel) rfl) 0 0 rfl rfl rfl (cwV 3 hts gL_law_X4_addSection rfl rfl rfl hd_X4_addSection ⟨Nat.le_of_ble_eq_true rfl, Nat.le_of_ble_eq_true rfl⟩) rfl hl.1 rfl (Nat.le_of_ble_eq_true rfl) dL_law_172 ⟨Nat.le_of_ble_eq_true rfl, Nat.le_of_ble_eq_true rfl⟩ (fun H locs hw => ?_)
    refine lv_aload_n hx hb dL_law_175 rfl (lv_at hl 2 rfl) ?_
    refine lv_aload_n hx hb dL_law_176 rfl (lv_at hl 0 rfl) ?_
    refine lv_iload_n hx hb dL_law_177 rfl (lv_at hl 3 rfl) ?_
    refine lv_iconst (v := 1) hx hb dL_law_178 (by decide) ?_
    refine lv_iadd hx hb dL_law_179 ?_
    refine va_sld hx hb hX hbl hbA hw.2.2 h1 dL_law_180 ?_
    refine lv_aload_n hx hb dL_law_181 rfl (lv_at hl 0 rfl) ?_
    refine lv_iload_n hx hb dL_law_182 rfl (lv_at hl 3 rfl) ?_
    refine lv_iconst (v := 2) hx hb dL_law_183 (by decide) ?_
    refine lv_iadd hx hb dL_law_184 ?_
    refine va_sld hx hb hX hbl hbA hw.2.2 h2 dL_law_185 ?_
    refine lv_aload_n hx hb dL_law_186 rfl (lv_at hl 0 rfl) ?_
    refine lv_iload_n hx hb dL_law_187 rfl (lv_at hl 3 rfl) ?_
    refine lv_iconst (v := 3) hx hb dL_law_188 (by decide) ?_
    refine lv_iadd hx hb dL_law_189 ?_
    refine va_sld hx hb hX hbl hbA hw.2.2 h3 dL_law_190 ?_
    refine lv_if_eq (tgt := 198) hx hb dL_law_191 (by decide) (fun _ => ?_) (fun z => absurd hq z)
    refine lv_iconst (v := 0) hx hb dL_law_198 (by decide) ?_
    refine x_Vi (As := [.int (xs (nI i + 1 : Int32).toNatClampNeg), .int (xs (nI i + 2 : Int32).toNatClampNeg), .int 0]) (w' := fl [xB ax ac af ah at_ ar ad, cB G ac zc, fB G af zf, hB G ah zh, tB G at_ vt, cB G ar vr, fB G ad vd, mB G o zm]) X hw (m_X5_addSection (G := G) (l := l) (o := o) e2) (cut8 (bs' := [xB ax ac af ah at_ ar ad, cB G ac zc, fB G af zf, hB G ah zh, tB G at_ vt, cB G ar vr, fB G ad vd, mB G o zm]) 8 [7] [0, 1, 2, 3, 4, 5, 6] [1, 2, 3, 4, 5, 6, 7, 0] [mB G o zm] rfl (by decide +kernel) rfl rfl rfl (by decide +kernel) rfl) 7 0 rfl rfl rfl (cwV 3 hts gL_law_X5_addSection rfl rfl rfl hd_X5_addSection ⟨Nat.le_of_ble_eq_true rfl, Nat.le_of_ble_eq_true rfl⟩) rfl hl.1 rfl (Nat.le_of_ble_eq_true rfl) dL_law_199 ⟨Nat.le_of_ble_eq_true rfl, Nat.le_of_ble_eq_true rfl⟩ (fun H locs hw => ?_)
    refine lv_icmp_eq (tgt := 816) hx hb dL_law_202 (by decide) (fun _ => ?_) (fun z => absurd rfl z)
    exact kk H locs ⟨zc, zf, zh, vt, vr, vd, zm, (spAdd σ (xs (nI i + 1 : Int32).toNatClampNeg) (xs (nI i + 2 : Int32).toNatClampNeg) 0).2, hw, hC2, hM2, spAdd_ok hO (x1 := (xs (nI i + 1 : Int32).toNatClampNeg)) (x2 := (xs (nI i + 2 : Int32).toNatClampNeg)) (x3 := 0) (Or.inl rfl)⟩
  · obtain ⟨zc, zf, zh, e1, hC2⟩ := add_c hC hO (x1 := (xs (nI i + 1 : Int32).toNatClampNeg)) (x2 := (xs (nI i + 2 : Int32).toNatClampNeg)) (x3 := 1) (Or.inr rfl)
    obtain ⟨zm, e2, hM2⟩ := add_m hM hO (x1 := (xs (nI i + 1 : Int32).toNatClampNeg)) (x2 := (xs (nI i + 2 : Int32).toNatClampNeg)) (x3 := 1) (Or.inr rfl)
    refine lv_aload_n hx hb dL_law_148 rfl (lv_at hl 1 rfl) ?_
    refine lv_aload_n hx hb dL_law_149 rfl (lv_at hl 0 rfl) ?_
    refine lv_iload_n hx hb dL_law_150 rfl (lv_at hl 3 rfl) ?_
    refine lv_iconst (v := 1) hx hb dL_law_151 (by decide) ?_
    refine lv_iadd hx hb dL_law_152 ?_
    refine va_sld hx hb hX hbl hbA hw.2.2 h1 dL_law_153 ?_
    refine lv_aload_n hx hb dL_law_154 rfl (lv_at hl 0 rfl) ?_
    refine lv_iload_n hx hb dL_law_155 rfl (lv_at hl 3 rfl) ?_
    refine lv_iconst (v := 2) hx hb dL_law_156 (by decide) ?_
    refine lv_iadd hx hb dL_law_157 ?_
    refine va_sld hx hb hX hbl hbA hw.2.2 h2 dL_law_158 ?_
    refine lv_aload_n hx hb dL_law_159 rfl (lv_at hl 0 rfl) ?_
    refine lv_iload_n hx hb dL_law_160 rfl (lv_at hl 3 rfl) ?_
    refine lv_iconst (v := 3) hx hb dL_law_161 (by decide) ?_
    refine lv_iadd hx hb dL_law_162 ?_
    refine va_sld hx hb hX hbl hbA hw.2.2 h3 dL_law_163 ?_
    refine lv_if_eq (tgt := 171) hx hb dL_law_164 (by decide) (fun z => absurd z hq) (fun _ => ?_)
    refine lv_iconst (v := 1) hx hb dL_law_167 (by decide) ?_
    refine lv_goto (tgt := 172) hx hb dL_law_168 (by decide) ?_
    refine x_Vi (As := [.int (xs (nI i + 1 : Int32).toNatClampNeg), .int (xs (nI i + 2 : Int32).toNatClampNeg), .int 1]) (w' := fl [xB ax ac af ah at_ ar ad, cB G ac zc, fB G af zf, hB G ah zh, tB G at_ vt, cB G ar vr, fB G ad vd, mB G o v]) X hw (m_X4_addSection (G := G) (l := l) (ax := ax) (ac := ac) (af := af) (ah := ah) (at_ := at_) (ar := ar) (ad := ad) e1) (cut8 (bs' := [xB ax ac af ah at_ ar ad, cB G ac zc, fB G af zf, hB G ah zh, tB G at_ vt, cB G ar vr, fB G ad vd, mB G o v]) 8 [0, 1, 2, 3] [4, 5, 6, 7] [0, 1, 2, 3, 4, 5, 6, 7] [xB ax ac af ah at_ ar ad, cB G ac zc, fB G af zf, hB G ah zh] rfl (by decide +kernel) rfl rfl rfl (by decide +kernel) rfl) 0 0 rfl rfl rfl (cwV 3 hts gL_law_X4_addSection rfl rfl rfl hd_X4_addSection ⟨Nat.le_of_ble_eq_true rfl, Nat.le_of_ble_eq_true rfl⟩) rfl hl.1 rfl (Nat.le_of_ble_eq_true rfl) dL_law_172 ⟨Nat.le_of_ble_eq_true rfl, Nat.le_of_ble_eq_true rfl⟩ (fun H locs hw => ?_)
    refine lv_aload_n hx hb dL_law_175 rfl (lv_at hl 2 rfl) ?_
    refine lv_aload_n hx hb dL_law_176 rfl (lv_at hl 0 rfl) ?_
    refine lv_iload_n hx hb dL_law_177 rfl (lv_at hl 3 rfl) ?_
    refine lv_iconst (v := 1) hx hb dL_law_178 (by decide) ?_
    refine lv_iadd hx hb dL_law_179 ?_
    refine va_sld hx hb hX hbl hbA hw.2.2 h1 dL_law_180 ?_
    refine lv_aload_n hx hb dL_law_181 rfl (lv_at hl 0 rfl) ?_
    refine lv_iload_n hx hb dL_law_182 rfl (lv_at hl 3 rfl) ?_
    refine lv_iconst (v := 2) hx hb dL_law_183 (by decide) ?_
    refine lv_iadd hx hb dL_law_184 ?_
    refine va_sld hx hb hX hbl hbA hw.2.2 h2 dL_law_185 ?_
    refine lv_aload_n hx hb dL_law_186 rfl (lv_at hl 0 rfl) ?_
    refine lv_iload_n hx hb dL_law_187 rfl (lv_at hl 3 rfl) ?_
    refine lv_iconst (v := 3) hx hb dL_law_188 (by decide) ?_
    refine lv_iadd hx hb dL_law_189 ?_
    refine va_sld hx hb hX hbl hbA hw.2.2 h3 dL_law_190 ?_
    refine lv_if_eq (tgt := 198) hx hb dL_law_191 (by decide) (fun z => absurd z hq) (fun _ => ?_)
    refine lv_iconst (v := 1) hx hb dL_law_194 (by decide) ?_
    refine lv_goto (tgt := 199) hx hb dL_law_195 (by decide) ?_
    refine x_Vi (As := [.int (xs (nI i + 1 : Int32).toNatClampNeg), .int (xs (nI i + 2 : Int32).toNatClampNeg), .int 1]) (w' := fl [xB ax ac af ah at_ ar ad, cB G ac zc, fB G af zf, hB G ah zh, tB G at_ vt, cB G ar vr, fB G ad vd, mB G o zm]) X hw (m_X5_addSection (G := G) (l := l) (o := o) e2) (cut8 (bs' := [xB ax ac af ah at_ ar ad, cB G ac zc, fB G af zf, hB G ah zh, tB G at_ vt, cB G ar vr, fB G ad vd, mB G o zm]) 8 [7] [0, 1, 2, 3, 4, 5, 6] [1, 2, 3, 4, 5, 6, 7, 0] [mB G o zm] rfl (by decide +kernel) rfl rfl rfl (by decide +kernel) rfl) 7 0 rfl rfl rfl (cwV 3 hts gL_law_X5_addSection rfl rfl rfl hd_X5_addSection ⟨Nat.le_of_ble_eq_true rfl, Nat.le_of_ble_eq_true rfl⟩) rfl hl.1 rfl (Nat.le_of_ble_eq_true rfl) dL_law_199 ⟨Nat.le_of_ble_eq_true rfl, Nat.le_of_ble_eq_true rfl⟩ (fun H locs hw => ?_)
    refine lv_icmp_eq (tgt := 816) hx hb dL_law_202 (by decide) (fun _ => ?_) (fun z => absurd rfl z)
    exact kk H locs ⟨zc, zf, zh, vt, vr, vd, zm, (spAdd σ (xs (nI i + 1 : Int32).toNatClampNeg) (xs (nI i + 2 : Int32).toNatClampNeg) 1).2, hw, hC2, hM2, spAdd_ok hO (x1 := (xs (nI i + 1 : Int32).toNatClampNeg)) (x2 := (xs (nI i + 2 : Int32).toNatClampNeg)) (x3 := 1) (Or.inr rfl)⟩

set_option maxHeartbeats 4000000 in
set_option maxRecDepth 100000 in
theorem lc_1 {p : Program} {l : Launch} {e : Env} {s : State} {m : MethodId} {below : List Frame} {meth : Method} {c : Code} {G : GG} {A : Nat → Prop} {b L i : Nat} {xs : Nat → Int32} {ax : Nat} {ac af ah at_ ar ad o : Nat → Nat} {H : Heap} {locs : List Loc} {ls : Array Slot} {Q : State → Prop} (X : Cx p s m #[Value.ref b] meth c cL_law 4 ret wsL_law RL G A) (hX : va_X b L xs s s.heap) (hbl : b < s.heap.size) (hbA : ¬ A b) (hi : i + 4 ≤ L) (hL : L ≤ 2048) (hI : LI G A s ax ac af ah at_ ar ad o H locs) (hl : lv_has ls 4 [(0, .ref b), (1, .ref ax), (2, .ref (o 0)), (3, .int (nI i))]) (kk : ∀ (H : Heap) (locs : List Loc), LI G A s ax ac af ah at_ ar ad o H locs → W p l e room_1 s m #[Value.ref b] below meth c H locs 600000 7302250 Q (F0 m 816 ls [])) : W p l e room_1 s m #[Value.ref b] below meth c H locs 600000 7302250 Q (F0 m 207 ls []) := by
  obtain ⟨⟨hx, hb, hml, hown, hts⟩, hK, hr, hlk, hA⟩ := id X
  obtain ⟨vc, vf, vh, vt, vr, vd, v, σ, hw, hC, hM, hO⟩ := hI
  have h1 : vp_in (nI i + 1 : Int32) L := by rw [show (1 : Int32) = nI 1 from rfl, nI_add]; exact vp_in_nI (by omega) (by omega)
  have h2 : vp_in (nI i + 2 : Int32) L := by rw [show (2 : Int32) = nI 2 from rfl, nI_add]; exact vp_in_nI (by omega) (by omega)
  have h3 : vp_in (nI i + 3 : Int32) L := by rw [show (3 : Int32) = nI 3 from rfl, nI_add]; exact vp_in_nI (by omega) (by omega)
  obtain ⟨zc, zf, zh, e1, hC2⟩ := size_c hC hO (x1 := (xs (nI i + 1 : Int32).toNatClampNeg)) (x2 := (xs (nI i + 2 : Int32).toNatClampNeg)) (x3 := (xs (nI i + 3 : Int32).toNatClampNeg))
  obtain ⟨zm, e2, hM2⟩ := size_m hM hO (x1 := (xs (nI i + 1 : Int32).toNatClampNeg)) (x2 := (xs (nI i + 2 : Int32).toNatClampNeg)) (x3 := (xs (nI i + 3 : Int32).toNatClampNeg))
  refine lv_aload_n hx hb dL_law_207 rfl (lv_at hl 1 rfl) ?_
  refine lv_aload_n hx hb dL_law_208 rfl (lv_at hl 0 rfl) ?_
  refine lv_iload_n hx hb dL_law_209 rfl (lv_at hl 3 rfl) ?_
  refine lv_iconst (v := 1) hx hb dL_law_210 (by decide) ?_
  refine lv_iadd hx hb dL_law_211 ?_
  refine va_sld hx hb hX hbl hbA hw.2.2 h1 dL_law_212 ?_
  refine lv_aload_n hx hb dL_law_213 rfl (lv_at hl 0 rfl) ?_
  refine lv_iload_n hx hb dL_law_214 rfl (lv_at hl 3 rfl) ?_
  refine lv_iconst (v := 2) hx hb dL_law_215 (by decide) ?_
  refine lv_iadd hx hb dL_law_216 ?_
  refine va_sld hx hb hX hbl hbA hw.2.2 h2 dL_law_217 ?_
  refine lv_aload_n hx hb dL_law_218 rfl (lv_at hl 0 rfl) ?_
  refine lv_iload_n hx hb dL_law_219 rfl (lv_at hl 3 rfl) ?_
  refine lv_iconst (v := 3) hx hb dL_law_220 (by decide) ?_
  refine lv_iadd hx hb dL_law_221 ?_
  refine va_sld hx hb hX hbl hbA hw.2.2 h3 dL_law_222 ?_
  refine x_Vi (As := [.int (xs (nI i + 1 : Int32).toNatClampNeg), .int (xs (nI i + 2 : Int32).toNatClampNeg), .int (xs (nI i + 3 : Int32).toNatClampNeg)]) (w' := fl [xB ax ac af ah at_ ar ad, cB G ac zc, fB G af zf, hB G ah zh, tB G at_ vt, cB G ar vr, fB G ad vd, mB G o v]) X hw (m_X4_resize (G := G) (l := l) (ax := ax) (ac := ac) (af := af) (ah := ah) (at_ := at_) (ar := ar) (ad := ad) e1) (cut8 (bs' := [xB ax ac af ah at_ ar ad, cB G ac zc, fB G af zf, hB G ah zh, tB G at_ vt, cB G ar vr, fB G ad vd, mB G o v]) 8 [0, 1, 2, 3] [4, 5, 6, 7] [0, 1, 2, 3, 4, 5, 6, 7] [xB ax ac af ah at_ ar ad, cB G ac zc, fB G af zf, hB G ah zh] rfl (by decide +kernel) rfl rfl rfl (by decide +kernel) rfl) 0 0 rfl rfl rfl (cwV 3 hts gL_law_X4_resize rfl rfl rfl hd_X4_resize ⟨Nat.le_of_ble_eq_true rfl, Nat.le_of_ble_eq_true rfl⟩) rfl hl.1 rfl (Nat.le_of_ble_eq_true rfl) dL_law_223 ⟨Nat.le_of_ble_eq_true rfl, Nat.le_of_ble_eq_true rfl⟩ (fun H locs hw => ?_)
  refine lv_aload_n hx hb dL_law_226 rfl (lv_at hl 2 rfl) ?_
  refine lv_aload_n hx hb dL_law_227 rfl (lv_at hl 0 rfl) ?_
  refine lv_iload_n hx hb dL_law_228 rfl (lv_at hl 3 rfl) ?_
  refine lv_iconst (v := 1) hx hb dL_law_229 (by decide) ?_
  refine lv_iadd hx hb dL_law_230 ?_
  refine va_sld hx hb hX hbl hbA hw.2.2 h1 dL_law_231 ?_
  refine lv_aload_n hx hb dL_law_232 rfl (lv_at hl 0 rfl) ?_
  refine lv_iload_n hx hb dL_law_233 rfl (lv_at hl 3 rfl) ?_
  refine lv_iconst (v := 2) hx hb dL_law_234 (by decide) ?_
  refine lv_iadd hx hb dL_law_235 ?_
  refine va_sld hx hb hX hbl hbA hw.2.2 h2 dL_law_236 ?_
  refine lv_aload_n hx hb dL_law_237 rfl (lv_at hl 0 rfl) ?_
  refine lv_iload_n hx hb dL_law_238 rfl (lv_at hl 3 rfl) ?_
  refine lv_iconst (v := 3) hx hb dL_law_239 (by decide) ?_
  refine lv_iadd hx hb dL_law_240 ?_
  refine va_sld hx hb hX hbl hbA hw.2.2 h3 dL_law_241 ?_
  refine x_Vi (As := [.int (xs (nI i + 1 : Int32).toNatClampNeg), .int (xs (nI i + 2 : Int32).toNatClampNeg), .int (xs (nI i + 3 : Int32).toNatClampNeg)]) (w' := fl [xB ax ac af ah at_ ar ad, cB G ac zc, fB G af zf, hB G ah zh, tB G at_ vt, cB G ar vr, fB G ad vd, mB G o zm]) X hw (m_X5_resize (G := G) (l := l) (o := o) e2) (cut8 (bs' := [xB ax ac af ah at_ ar ad, cB G ac zc, fB G af zf, hB G ah zh, tB G at_ vt, cB G ar vr, fB G ad vd, mB G o zm]) 8 [7] [0, 1, 2, 3, 4, 5, 6] [1, 2, 3, 4, 5, 6, 7, 0] [mB G o zm] rfl (by decide +kernel) rfl rfl rfl (by decide +kernel) rfl) 7 0 rfl rfl rfl (cwV 3 hts gL_law_X5_resize rfl rfl rfl hd_X5_resize ⟨Nat.le_of_ble_eq_true rfl, Nat.le_of_ble_eq_true rfl⟩) rfl hl.1 rfl (Nat.le_of_ble_eq_true rfl) dL_law_242 ⟨Nat.le_of_ble_eq_true rfl, Nat.le_of_ble_eq_true rfl⟩ (fun H locs hw => ?_)
  refine lv_icmp_eq (tgt := 816) hx hb dL_law_245 (by decide) (fun _ => ?_) (fun z => absurd rfl z)
  exact kk H locs ⟨zc, zf, zh, vt, vr, vd, zm, (spSize σ (xs (nI i + 1 : Int32).toNatClampNeg) (xs (nI i + 2 : Int32).toNatClampNeg) (xs (nI i + 3 : Int32).toNatClampNeg)).2, hw, hC2, hM2, spSize_ok hO (x1 := (xs (nI i + 1 : Int32).toNatClampNeg)) (x2 := (xs (nI i + 2 : Int32).toNatClampNeg)) (x3 := (xs (nI i + 3 : Int32).toNatClampNeg))⟩

set_option maxHeartbeats 4000000 in
set_option maxRecDepth 100000 in
theorem lc_2 {p : Program} {l : Launch} {e : Env} {s : State} {m : MethodId} {below : List Frame} {meth : Method} {c : Code} {G : GG} {A : Nat → Prop} {b L i : Nat} {xs : Nat → Int32} {ax : Nat} {ac af ah at_ ar ad o : Nat → Nat} {H : Heap} {locs : List Loc} {ls : Array Slot} {Q : State → Prop} (X : Cx p s m #[Value.ref b] meth c cL_law 4 ret wsL_law RL G A) (hX : va_X b L xs s s.heap) (hbl : b < s.heap.size) (hbA : ¬ A b) (hi : i + 4 ≤ L) (hL : L ≤ 2048) (hI : LI G A s ax ac af ah at_ ar ad o H locs) (hl : lv_has ls 4 [(0, .ref b), (1, .ref ax), (2, .ref (o 0)), (3, .int (nI i))]) (kk : ∀ (H : Heap) (locs : List Loc), LI G A s ax ac af ah at_ ar ad o H locs → W p l e room_1 s m #[Value.ref b] below meth c H locs 600000 7302250 Q (F0 m 816 ls [])) : W p l e room_1 s m #[Value.ref b] below meth c H locs 600000 7302250 Q (F0 m 250 ls []) := by
  obtain ⟨⟨hx, hb, hml, hown, hts⟩, hK, hr, hlk, hA⟩ := id X
  obtain ⟨vc, vf, vh, vt, vr, vd, v, σ, hw, hC, hM, hO⟩ := hI
  have h1 : vp_in (nI i + 1 : Int32) L := by rw [show (1 : Int32) = nI 1 from rfl, nI_add]; exact vp_in_nI (by omega) (by omega)
  have h2 : vp_in (nI i + 2 : Int32) L := by rw [show (2 : Int32) = nI 2 from rfl, nI_add]; exact vp_in_nI (by omega) (by omega)
  obtain ⟨zc, zf, zh, e1, hC2⟩ := chill_c hC hO (x1 := (xs (nI i + 1 : Int32).toNatClampNeg)) (x2 := (xs (nI i + 2 : Int32).toNatClampNeg))
  obtain ⟨zm, e2, hM2⟩ := chill_m hM hO (x1 := (xs (nI i + 1 : Int32).toNatClampNeg)) (x2 := (xs (nI i + 2 : Int32).toNatClampNeg))
  refine lv_aload_n hx hb dL_law_250 rfl (lv_at hl 1 rfl) ?_
  refine lv_aload_n hx hb dL_law_251 rfl (lv_at hl 0 rfl) ?_
  refine lv_iload_n hx hb dL_law_252 rfl (lv_at hl 3 rfl) ?_
  refine lv_iconst (v := 1) hx hb dL_law_253 (by decide) ?_
  refine lv_iadd hx hb dL_law_254 ?_
  refine va_sld hx hb hX hbl hbA hw.2.2 h1 dL_law_255 ?_
  refine lv_aload_n hx hb dL_law_256 rfl (lv_at hl 0 rfl) ?_
  refine lv_iload_n hx hb dL_law_257 rfl (lv_at hl 3 rfl) ?_
  refine lv_iconst (v := 2) hx hb dL_law_258 (by decide) ?_
  refine lv_iadd hx hb dL_law_259 ?_
  refine va_sld hx hb hX hbl hbA hw.2.2 h2 dL_law_260 ?_
  refine x_Vi (As := [.int (xs (nI i + 1 : Int32).toNatClampNeg), .int (xs (nI i + 2 : Int32).toNatClampNeg)]) (w' := fl [xB ax ac af ah at_ ar ad, cB G ac zc, fB G af zf, hB G ah zh, tB G at_ vt, cB G ar vr, fB G ad vd, mB G o v]) X hw (m_X4_setChill (G := G) (l := l) (ax := ax) (ac := ac) (af := af) (ah := ah) (at_ := at_) (ar := ar) (ad := ad) e1) (cut8 (bs' := [xB ax ac af ah at_ ar ad, cB G ac zc, fB G af zf, hB G ah zh, tB G at_ vt, cB G ar vr, fB G ad vd, mB G o v]) 8 [0, 1, 2, 3] [4, 5, 6, 7] [0, 1, 2, 3, 4, 5, 6, 7] [xB ax ac af ah at_ ar ad, cB G ac zc, fB G af zf, hB G ah zh] rfl (by decide +kernel) rfl rfl rfl (by decide +kernel) rfl) 0 0 rfl rfl rfl (cwV 2 hts gL_law_X4_setChill rfl rfl rfl hd_X4_setChill ⟨Nat.le_of_ble_eq_true rfl, Nat.le_of_ble_eq_true rfl⟩) rfl hl.1 rfl (Nat.le_of_ble_eq_true rfl) dL_law_261 ⟨Nat.le_of_ble_eq_true rfl, Nat.le_of_ble_eq_true rfl⟩ (fun H locs hw => ?_)
  refine lv_aload_n hx hb dL_law_264 rfl (lv_at hl 2 rfl) ?_
  refine lv_aload_n hx hb dL_law_265 rfl (lv_at hl 0 rfl) ?_
  refine lv_iload_n hx hb dL_law_266 rfl (lv_at hl 3 rfl) ?_
  refine lv_iconst (v := 1) hx hb dL_law_267 (by decide) ?_
  refine lv_iadd hx hb dL_law_268 ?_
  refine va_sld hx hb hX hbl hbA hw.2.2 h1 dL_law_269 ?_
  refine lv_aload_n hx hb dL_law_270 rfl (lv_at hl 0 rfl) ?_
  refine lv_iload_n hx hb dL_law_271 rfl (lv_at hl 3 rfl) ?_
  refine lv_iconst (v := 2) hx hb dL_law_272 (by decide) ?_
  refine lv_iadd hx hb dL_law_273 ?_
  refine va_sld hx hb hX hbl hbA hw.2.2 h2 dL_law_274 ?_
  refine x_Vi (As := [.int (xs (nI i + 1 : Int32).toNatClampNeg), .int (xs (nI i + 2 : Int32).toNatClampNeg)]) (w' := fl [xB ax ac af ah at_ ar ad, cB G ac zc, fB G af zf, hB G ah zh, tB G at_ vt, cB G ar vr, fB G ad vd, mB G o zm]) X hw (m_X5_setChill (G := G) (l := l) (o := o) e2) (cut8 (bs' := [xB ax ac af ah at_ ar ad, cB G ac zc, fB G af zf, hB G ah zh, tB G at_ vt, cB G ar vr, fB G ad vd, mB G o zm]) 8 [7] [0, 1, 2, 3, 4, 5, 6] [1, 2, 3, 4, 5, 6, 7, 0] [mB G o zm] rfl (by decide +kernel) rfl rfl rfl (by decide +kernel) rfl) 7 0 rfl rfl rfl (cwV 2 hts gL_law_X5_setChill rfl rfl rfl hd_X5_setChill ⟨Nat.le_of_ble_eq_true rfl, Nat.le_of_ble_eq_true rfl⟩) rfl hl.1 rfl (Nat.le_of_ble_eq_true rfl) dL_law_275 ⟨Nat.le_of_ble_eq_true rfl, Nat.le_of_ble_eq_true rfl⟩ (fun H locs hw => ?_)
  refine lv_icmp_eq (tgt := 816) hx hb dL_law_278 (by decide) (fun _ => ?_) (fun z => absurd rfl z)
  exact kk H locs ⟨zc, zf, zh, vt, vr, vd, zm, (spChill σ (xs (nI i + 1 : Int32).toNatClampNeg) (xs (nI i + 2 : Int32).toNatClampNeg)).2, hw, hC2, hM2, spChill_ok hO (x1 := (xs (nI i + 1 : Int32).toNatClampNeg)) (x2 := (xs (nI i + 2 : Int32).toNatClampNeg))⟩

set_option maxHeartbeats 4000000 in
set_option maxRecDepth 100000 in
theorem lc_3 {p : Program} {l : Launch} {e : Env} {s : State} {m : MethodId} {below : List Frame} {meth : Method} {c : Code} {G : GG} {A : Nat → Prop} {b L i : Nat} {xs : Nat → Int32} {ax : Nat} {ac af ah at_ ar ad o : Nat → Nat} {H : Heap} {locs : List Loc} {ls : Array Slot} {Q : State → Prop} (X : Cx p s m #[Value.ref b] meth c cL_law 4 ret wsL_law RL G A) (hX : va_X b L xs s s.heap) (hbl : b < s.heap.size) (hbA : ¬ A b) (hi : i + 4 ≤ L) (hL : L ≤ 2048) (hI : LI G A s ax ac af ah at_ ar ad o H locs) (hl : lv_has ls 4 [(0, .ref b), (1, .ref ax), (2, .ref (o 0)), (3, .int (nI i))]) (kk : ∀ (H : Heap) (locs : List Loc), LI G A s ax ac af ah at_ ar ad o H locs → W p l e room_1 s m #[Value.ref b] below meth c H locs 600000 7302250 Q (F0 m 816 ls [])) : W p l e room_1 s m #[Value.ref b] below meth c H locs 600000 7302250 Q (F0 m 283 ls []) := by
  obtain ⟨⟨hx, hb, hml, hown, hts⟩, hK, hr, hlk, hA⟩ := id X
  obtain ⟨vc, vf, vh, vt, vr, vd, v, σ, hw, hC, hM, hO⟩ := hI
  have h1 : vp_in (nI i + 1 : Int32) L := by rw [show (1 : Int32) = nI 1 from rfl, nI_add]; exact vp_in_nI (by omega) (by omega)
  obtain ⟨zc, zf, zh, e1, hC2⟩ := drop_c hC hO (x1 := (xs (nI i + 1 : Int32).toNatClampNeg))
  obtain ⟨zm, e2, hM2⟩ := drop_m hM hO (x1 := (xs (nI i + 1 : Int32).toNatClampNeg))
  refine lv_aload_n hx hb dL_law_283 rfl (lv_at hl 1 rfl) ?_
  refine lv_aload_n hx hb dL_law_284 rfl (lv_at hl 0 rfl) ?_
  refine lv_iload_n hx hb dL_law_285 rfl (lv_at hl 3 rfl) ?_
  refine lv_iconst (v := 1) hx hb dL_law_286 (by decide) ?_
  refine lv_iadd hx hb dL_law_287 ?_
  refine va_sld hx hb hX hbl hbA hw.2.2 h1 dL_law_288 ?_
  refine x_Vi (As := [.int (xs (nI i + 1 : Int32).toNatClampNeg)]) (w' := fl [xB ax ac af ah at_ ar ad, cB G ac zc, fB G af zf, hB G ah zh, tB G at_ vt, cB G ar vr, fB G ad vd, mB G o v]) X hw (m_X4_removeSection (G := G) (l := l) (ax := ax) (ac := ac) (af := af) (ah := ah) (at_ := at_) (ar := ar) (ad := ad) e1) (cut8 (bs' := [xB ax ac af ah at_ ar ad, cB G ac zc, fB G af zf, hB G ah zh, tB G at_ vt, cB G ar vr, fB G ad vd, mB G o v]) 8 [0, 1, 2, 3] [4, 5, 6, 7] [0, 1, 2, 3, 4, 5, 6, 7] [xB ax ac af ah at_ ar ad, cB G ac zc, fB G af zf, hB G ah zh] rfl (by decide +kernel) rfl rfl rfl (by decide +kernel) rfl) 0 0 rfl rfl rfl (cwV 1 hts gL_law_X4_removeSection rfl rfl rfl hd_X4_removeSection ⟨Nat.le_of_ble_eq_true rfl, Nat.le_of_ble_eq_true rfl⟩) rfl hl.1 rfl (Nat.le_of_ble_eq_true rfl) dL_law_289 ⟨Nat.le_of_ble_eq_true rfl, Nat.le_of_ble_eq_true rfl⟩ (fun H locs hw => ?_)
  refine lv_aload_n hx hb dL_law_292 rfl (lv_at hl 2 rfl) ?_
  refine lv_aload_n hx hb dL_law_293 rfl (lv_at hl 0 rfl) ?_
  refine lv_iload_n hx hb dL_law_294 rfl (lv_at hl 3 rfl) ?_
  refine lv_iconst (v := 1) hx hb dL_law_295 (by decide) ?_
  refine lv_iadd hx hb dL_law_296 ?_
  refine va_sld hx hb hX hbl hbA hw.2.2 h1 dL_law_297 ?_
  refine x_Vi (As := [.int (xs (nI i + 1 : Int32).toNatClampNeg)]) (w' := fl [xB ax ac af ah at_ ar ad, cB G ac zc, fB G af zf, hB G ah zh, tB G at_ vt, cB G ar vr, fB G ad vd, mB G o zm]) X hw (m_X5_removeSection (G := G) (l := l) (o := o) e2) (cut8 (bs' := [xB ax ac af ah at_ ar ad, cB G ac zc, fB G af zf, hB G ah zh, tB G at_ vt, cB G ar vr, fB G ad vd, mB G o zm]) 8 [7] [0, 1, 2, 3, 4, 5, 6] [1, 2, 3, 4, 5, 6, 7, 0] [mB G o zm] rfl (by decide +kernel) rfl rfl rfl (by decide +kernel) rfl) 7 0 rfl rfl rfl (cwV 1 hts gL_law_X5_removeSection rfl rfl rfl hd_X5_removeSection ⟨Nat.le_of_ble_eq_true rfl, Nat.le_of_ble_eq_true rfl⟩) rfl hl.1 rfl (Nat.le_of_ble_eq_true rfl) dL_law_298 ⟨Nat.le_of_ble_eq_true rfl, Nat.le_of_ble_eq_true rfl⟩ (fun H locs hw => ?_)
  refine lv_icmp_eq (tgt := 816) hx hb dL_law_301 (by decide) (fun _ => ?_) (fun z => absurd rfl z)
  exact kk H locs ⟨zc, zf, zh, vt, vr, vd, zm, (spDrop σ (xs (nI i + 1 : Int32).toNatClampNeg)).2, hw, hC2, hM2, spDrop_ok hO (x1 := (xs (nI i + 1 : Int32).toNatClampNeg))⟩

set_option maxHeartbeats 4000000 in
set_option maxRecDepth 100000 in
theorem lc_4 {p : Program} {l : Launch} {e : Env} {s : State} {m : MethodId} {below : List Frame} {meth : Method} {c : Code} {G : GG} {A : Nat → Prop} {b L i : Nat} {xs : Nat → Int32} {ax : Nat} {ac af ah at_ ar ad o : Nat → Nat} {H : Heap} {locs : List Loc} {ls : Array Slot} {Q : State → Prop} (X : Cx p s m #[Value.ref b] meth c cL_law 4 ret wsL_law RL G A) (hX : va_X b L xs s s.heap) (hbl : b < s.heap.size) (hbA : ¬ A b) (hi : i + 4 ≤ L) (hL : L ≤ 2048) (hI : LI G A s ax ac af ah at_ ar ad o H locs) (hl : lv_has ls 4 [(0, .ref b), (1, .ref ax), (2, .ref (o 0)), (3, .int (nI i))]) (kk : ∀ (H : Heap) (locs : List Loc), LI G A s ax ac af ah at_ ar ad o H locs → W p l e room_1 s m #[Value.ref b] below meth c H locs 600000 7302250 Q (F0 m 816 ls [])) : W p l e room_1 s m #[Value.ref b] below meth c H locs 600000 7302250 Q (F0 m 306 ls []) := by
  obtain ⟨⟨hx, hb, hml, hown, hts⟩, hK, hr, hlk, hA⟩ := id X
  obtain ⟨vc, vf, vh, vt, vr, vd, v, σ, hw, hC, hM, hO⟩ := hI
  have h1 : vp_in (nI i + 1 : Int32) L := by rw [show (1 : Int32) = nI 1 from rfl, nI_add]; exact vp_in_nI (by omega) (by omega)
  have h2 : vp_in (nI i + 2 : Int32) L := by rw [show (2 : Int32) = nI 2 from rfl, nI_add]; exact vp_in_nI (by omega) (by omega)
  obtain ⟨zc, zf, zh, e1, hC2⟩ := join_c hC hO (x1 := (xs (nI i + 1 : Int32).toNatClampNeg)) (x2 := (xs (nI i + 2 : Int32).toNatClampNeg))
  obtain ⟨zm, e2, hM2⟩ := join_m hM hO (x1 := (xs (nI i + 1 : Int32).toNatClampNeg)) (x2 := (xs (nI i + 2 : Int32).toNatClampNeg))
  refine lv_aload_n hx hb dL_law_306 rfl (lv_at hl 1 rfl) ?_
  refine lv_aload_n hx hb dL_law_307 rfl (lv_at hl 0 rfl) ?_
  refine lv_iload_n hx hb dL_law_308 rfl (lv_at hl 3 rfl) ?_
  refine lv_iconst (v := 1) hx hb dL_law_309 (by decide) ?_
  refine lv_iadd hx hb dL_law_310 ?_
  refine va_sld hx hb hX hbl hbA hw.2.2 h1 dL_law_311 ?_
  refine lv_aload_n hx hb dL_law_312 rfl (lv_at hl 0 rfl) ?_
  refine lv_iload_n hx hb dL_law_313 rfl (lv_at hl 3 rfl) ?_
  refine lv_iconst (v := 2) hx hb dL_law_314 (by decide) ?_
  refine lv_iadd hx hb dL_law_315 ?_
  refine va_sld hx hb hX hbl hbA hw.2.2 h2 dL_law_316 ?_
  refine x_Vi (As := [.int (xs (nI i + 1 : Int32).toNatClampNeg), .int (xs (nI i + 2 : Int32).toNatClampNeg)]) (w' := fl [xB ax ac af ah at_ ar ad, cB G ac zc, fB G af zf, hB G ah zh, tB G at_ vt, cB G ar vr, fB G ad vd, mB G o v]) X hw (m_X4_join (G := G) (l := l) (ax := ax) (ac := ac) (af := af) (ah := ah) (at_ := at_) (ar := ar) (ad := ad) e1) (cut8 (bs' := [xB ax ac af ah at_ ar ad, cB G ac zc, fB G af zf, hB G ah zh, tB G at_ vt, cB G ar vr, fB G ad vd, mB G o v]) 8 [0, 1, 2, 3] [4, 5, 6, 7] [0, 1, 2, 3, 4, 5, 6, 7] [xB ax ac af ah at_ ar ad, cB G ac zc, fB G af zf, hB G ah zh] rfl (by decide +kernel) rfl rfl rfl (by decide +kernel) rfl) 0 0 rfl rfl rfl (cwV 2 hts gL_law_X4_join rfl rfl rfl hd_X4_join ⟨Nat.le_of_ble_eq_true rfl, Nat.le_of_ble_eq_true rfl⟩) rfl hl.1 rfl (Nat.le_of_ble_eq_true rfl) dL_law_317 ⟨Nat.le_of_ble_eq_true rfl, Nat.le_of_ble_eq_true rfl⟩ (fun H locs hw => ?_)
  refine lv_aload_n hx hb dL_law_320 rfl (lv_at hl 2 rfl) ?_
  refine lv_aload_n hx hb dL_law_321 rfl (lv_at hl 0 rfl) ?_
  refine lv_iload_n hx hb dL_law_322 rfl (lv_at hl 3 rfl) ?_
  refine lv_iconst (v := 1) hx hb dL_law_323 (by decide) ?_
  refine lv_iadd hx hb dL_law_324 ?_
  refine va_sld hx hb hX hbl hbA hw.2.2 h1 dL_law_325 ?_
  refine lv_aload_n hx hb dL_law_326 rfl (lv_at hl 0 rfl) ?_
  refine lv_iload_n hx hb dL_law_327 rfl (lv_at hl 3 rfl) ?_
  refine lv_iconst (v := 2) hx hb dL_law_328 (by decide) ?_
  refine lv_iadd hx hb dL_law_329 ?_
  refine va_sld hx hb hX hbl hbA hw.2.2 h2 dL_law_330 ?_
  refine x_Vi (As := [.int (xs (nI i + 1 : Int32).toNatClampNeg), .int (xs (nI i + 2 : Int32).toNatClampNeg)]) (w' := fl [xB ax ac af ah at_ ar ad, cB G ac zc, fB G af zf, hB G ah zh, tB G at_ vt, cB G ar vr, fB G ad vd, mB G o zm]) X hw (m_X5_join (G := G) (l := l) (o := o) e2) (cut8 (bs' := [xB ax ac af ah at_ ar ad, cB G ac zc, fB G af zf, hB G ah zh, tB G at_ vt, cB G ar vr, fB G ad vd, mB G o zm]) 8 [7] [0, 1, 2, 3, 4, 5, 6] [1, 2, 3, 4, 5, 6, 7, 0] [mB G o zm] rfl (by decide +kernel) rfl rfl rfl (by decide +kernel) rfl) 7 0 rfl rfl rfl (cwV 2 hts gL_law_X5_join rfl rfl rfl hd_X5_join ⟨Nat.le_of_ble_eq_true rfl, Nat.le_of_ble_eq_true rfl⟩) rfl hl.1 rfl (Nat.le_of_ble_eq_true rfl) dL_law_331 ⟨Nat.le_of_ble_eq_true rfl, Nat.le_of_ble_eq_true rfl⟩ (fun H locs hw => ?_)
  refine lv_icmp_eq (tgt := 816) hx hb dL_law_334 (by decide) (fun _ => ?_) (fun z => absurd rfl z)
  exact kk H locs ⟨zc, zf, zh, vt, vr, vd, zm, (spJoin σ (xs (nI i + 1 : Int32).toNatClampNeg) (xs (nI i + 2 : Int32).toNatClampNeg)).2, hw, hC2, hM2, spJoin_ok hO (x1 := (xs (nI i + 1 : Int32).toNatClampNeg)) (x2 := (xs (nI i + 2 : Int32).toNatClampNeg))⟩

set_option maxHeartbeats 4000000 in
set_option maxRecDepth 100000 in
theorem lc_5 {p : Program} {l : Launch} {e : Env} {s : State} {m : MethodId} {below : List Frame} {meth : Method} {c : Code} {G : GG} {A : Nat → Prop} {b L i : Nat} {xs : Nat → Int32} {ax : Nat} {ac af ah at_ ar ad o : Nat → Nat} {H : Heap} {locs : List Loc} {ls : Array Slot} {Q : State → Prop} (X : Cx p s m #[Value.ref b] meth c cL_law 4 ret wsL_law RL G A) (hX : va_X b L xs s s.heap) (hbl : b < s.heap.size) (hbA : ¬ A b) (hi : i + 4 ≤ L) (hL : L ≤ 2048) (hI : LI G A s ax ac af ah at_ ar ad o H locs) (hl : lv_has ls 4 [(0, .ref b), (1, .ref ax), (2, .ref (o 0)), (3, .int (nI i))]) (kk : ∀ (H : Heap) (locs : List Loc), LI G A s ax ac af ah at_ ar ad o H locs → W p l e room_1 s m #[Value.ref b] below meth c H locs 600000 7302250 Q (F0 m 816 ls [])) : W p l e room_1 s m #[Value.ref b] below meth c H locs 600000 7302250 Q (F0 m 339 ls []) := by
  obtain ⟨⟨hx, hb, hml, hown, hts⟩, hK, hr, hlk, hA⟩ := id X
  obtain ⟨vc, vf, vh, vt, vr, vd, v, σ, hw, hC, hM, hO⟩ := hI
  have h1 : vp_in (nI i + 1 : Int32) L := by rw [show (1 : Int32) = nI 1 from rfl, nI_add]; exact vp_in_nI (by omega) (by omega)
  obtain ⟨zc, zf, zh, e1, hC2⟩ := part_c hC hO (x1 := (xs (nI i + 1 : Int32).toNatClampNeg))
  obtain ⟨zm, e2, hM2⟩ := part_m hM hO (x1 := (xs (nI i + 1 : Int32).toNatClampNeg))
  refine lv_aload_n hx hb dL_law_339 rfl (lv_at hl 1 rfl) ?_
  refine lv_aload_n hx hb dL_law_340 rfl (lv_at hl 0 rfl) ?_
  refine lv_iload_n hx hb dL_law_341 rfl (lv_at hl 3 rfl) ?_
  refine lv_iconst (v := 1) hx hb dL_law_342 (by decide) ?_
  refine lv_iadd hx hb dL_law_343 ?_
  refine va_sld hx hb hX hbl hbA hw.2.2 h1 dL_law_344 ?_
  refine x_Vi (As := [.int (xs (nI i + 1 : Int32).toNatClampNeg)]) (w' := fl [xB ax ac af ah at_ ar ad, cB G ac zc, fB G af zf, hB G ah zh, tB G at_ vt, cB G ar vr, fB G ad vd, mB G o v]) X hw (m_X4_part (G := G) (l := l) (ax := ax) (ac := ac) (af := af) (ah := ah) (at_ := at_) (ar := ar) (ad := ad) e1) (cut8 (bs' := [xB ax ac af ah at_ ar ad, cB G ac zc, fB G af zf, hB G ah zh, tB G at_ vt, cB G ar vr, fB G ad vd, mB G o v]) 8 [0, 1, 2, 3] [4, 5, 6, 7] [0, 1, 2, 3, 4, 5, 6, 7] [xB ax ac af ah at_ ar ad, cB G ac zc, fB G af zf, hB G ah zh] rfl (by decide +kernel) rfl rfl rfl (by decide +kernel) rfl) 0 0 rfl rfl rfl (cwV 1 hts gL_law_X4_part rfl rfl rfl hd_X4_part ⟨Nat.le_of_ble_eq_true rfl, Nat.le_of_ble_eq_true rfl⟩) rfl hl.1 rfl (Nat.le_of_ble_eq_true rfl) dL_law_345 ⟨Nat.le_of_ble_eq_true rfl, Nat.le_of_ble_eq_true rfl⟩ (fun H locs hw => ?_)
  refine lv_aload_n hx hb dL_law_348 rfl (lv_at hl 2 rfl) ?_
  refine lv_aload_n hx hb dL_law_349 rfl (lv_at hl 0 rfl) ?_
  refine lv_iload_n hx hb dL_law_350 rfl (lv_at hl 3 rfl) ?_
  refine lv_iconst (v := 1) hx hb dL_law_351 (by decide) ?_
  refine lv_iadd hx hb dL_law_352 ?_
  refine va_sld hx hb hX hbl hbA hw.2.2 h1 dL_law_353 ?_
  refine x_Vi (As := [.int (xs (nI i + 1 : Int32).toNatClampNeg)]) (w' := fl [xB ax ac af ah at_ ar ad, cB G ac zc, fB G af zf, hB G ah zh, tB G at_ vt, cB G ar vr, fB G ad vd, mB G o zm]) X hw (m_X5_part (G := G) (l := l) (o := o) e2) (cut8 (bs' := [xB ax ac af ah at_ ar ad, cB G ac zc, fB G af zf, hB G ah zh, tB G at_ vt, cB G ar vr, fB G ad vd, mB G o zm]) 8 [7] [0, 1, 2, 3, 4, 5, 6] [1, 2, 3, 4, 5, 6, 7, 0] [mB G o zm] rfl (by decide +kernel) rfl rfl rfl (by decide +kernel) rfl) 7 0 rfl rfl rfl (cwV 1 hts gL_law_X5_part rfl rfl rfl hd_X5_part ⟨Nat.le_of_ble_eq_true rfl, Nat.le_of_ble_eq_true rfl⟩) rfl hl.1 rfl (Nat.le_of_ble_eq_true rfl) dL_law_354 ⟨Nat.le_of_ble_eq_true rfl, Nat.le_of_ble_eq_true rfl⟩ (fun H locs hw => ?_)
  refine lv_icmp_eq (tgt := 816) hx hb dL_law_357 (by decide) (fun _ => ?_) (fun z => absurd rfl z)
  exact kk H locs ⟨zc, zf, zh, vt, vr, vd, zm, (spPart σ (xs (nI i + 1 : Int32).toNatClampNeg)).2, hw, hC2, hM2, spPart_ok hO (x1 := (xs (nI i + 1 : Int32).toNatClampNeg))⟩

set_option maxHeartbeats 4000000 in
set_option maxRecDepth 100000 in
theorem lc_6 {p : Program} {l : Launch} {e : Env} {s : State} {m : MethodId} {below : List Frame} {meth : Method} {c : Code} {G : GG} {A : Nat → Prop} {b L i : Nat} {xs : Nat → Int32} {ax : Nat} {ac af ah at_ ar ad o : Nat → Nat} {H : Heap} {locs : List Loc} {ls : Array Slot} {Q : State → Prop} (X : Cx p s m #[Value.ref b] meth c cL_law 4 ret wsL_law RL G A) (hX : va_X b L xs s s.heap) (hbl : b < s.heap.size) (hbA : ¬ A b) (hi : i + 4 ≤ L) (hL : L ≤ 2048) (hI : LI G A s ax ac af ah at_ ar ad o H locs) (hl : lv_has ls 4 [(0, .ref b), (1, .ref ax), (2, .ref (o 0)), (3, .int (nI i))]) (kk : ∀ (H : Heap) (locs : List Loc), LI G A s ax ac af ah at_ ar ad o H locs → W p l e room_1 s m #[Value.ref b] below meth c H locs 600000 7302250 Q (F0 m 816 ls [])) : W p l e room_1 s m #[Value.ref b] below meth c H locs 600000 7302250 Q (F0 m 362 ls []) := by
  obtain ⟨⟨hx, hb, hml, hown, hts⟩, hK, hr, hlk, hA⟩ := id X
  obtain ⟨vc, vf, vh, vt, vr, vd, v, σ, hw, hC, hM, hO⟩ := hI
  have h1 : vp_in (nI i + 1 : Int32) L := by rw [show (1 : Int32) = nI 1 from rfl, nI_add]; exact vp_in_nI (by omega) (by omega)
  have h2 : vp_in (nI i + 2 : Int32) L := by rw [show (2 : Int32) = nI 2 from rfl, nI_add]; exact vp_in_nI (by omega) (by omega)
  obtain ⟨zc, zf, zh, e1, hC2⟩ := metal_c hC hO (x1 := (xs (nI i + 1 : Int32).toNatClampNeg)) (x2 := (xs (nI i + 2 : Int32).toNatClampNeg))
  obtain ⟨zm, e2, hM2⟩ := metal_m hM hO (x1 := (xs (nI i + 1 : Int32).toNatClampNeg)) (x2 := (xs (nI i + 2 : Int32).toNatClampNeg))
  refine lv_aload_n hx hb dL_law_362 rfl (lv_at hl 1 rfl) ?_
  refine lv_aload_n hx hb dL_law_363 rfl (lv_at hl 0 rfl) ?_
  refine lv_iload_n hx hb dL_law_364 rfl (lv_at hl 3 rfl) ?_
  refine lv_iconst (v := 1) hx hb dL_law_365 (by decide) ?_
  refine lv_iadd hx hb dL_law_366 ?_
  refine va_sld hx hb hX hbl hbA hw.2.2 h1 dL_law_367 ?_
  refine lv_aload_n hx hb dL_law_368 rfl (lv_at hl 0 rfl) ?_
  refine lv_iload_n hx hb dL_law_369 rfl (lv_at hl 3 rfl) ?_
  refine lv_iconst (v := 2) hx hb dL_law_370 (by decide) ?_
  refine lv_iadd hx hb dL_law_371 ?_
  refine va_sld hx hb hX hbl hbA hw.2.2 h2 dL_law_372 ?_
  refine x_Vi (As := [.int (xs (nI i + 1 : Int32).toNatClampNeg), .int (xs (nI i + 2 : Int32).toNatClampNeg)]) (w' := fl [xB ax ac af ah at_ ar ad, cB G ac zc, fB G af zf, hB G ah zh, tB G at_ vt, cB G ar vr, fB G ad vd, mB G o v]) X hw (m_X4_setMetal (G := G) (l := l) (ax := ax) (ac := ac) (af := af) (ah := ah) (at_ := at_) (ar := ar) (ad := ad) e1) (cut8 (bs' := [xB ax ac af ah at_ ar ad, cB G ac zc, fB G af zf, hB G ah zh, tB G at_ vt, cB G ar vr, fB G ad vd, mB G o v]) 8 [0, 1, 2, 3] [4, 5, 6, 7] [0, 1, 2, 3, 4, 5, 6, 7] [xB ax ac af ah at_ ar ad, cB G ac zc, fB G af zf, hB G ah zh] rfl (by decide +kernel) rfl rfl rfl (by decide +kernel) rfl) 0 0 rfl rfl rfl (cwV 2 hts gL_law_X4_setMetal rfl rfl rfl hd_X4_setMetal ⟨Nat.le_of_ble_eq_true rfl, Nat.le_of_ble_eq_true rfl⟩) rfl hl.1 rfl (Nat.le_of_ble_eq_true rfl) dL_law_373 ⟨Nat.le_of_ble_eq_true rfl, Nat.le_of_ble_eq_true rfl⟩ (fun H locs hw => ?_)
  refine lv_aload_n hx hb dL_law_376 rfl (lv_at hl 2 rfl) ?_
  refine lv_aload_n hx hb dL_law_377 rfl (lv_at hl 0 rfl) ?_
  refine lv_iload_n hx hb dL_law_378 rfl (lv_at hl 3 rfl) ?_
  refine lv_iconst (v := 1) hx hb dL_law_379 (by decide) ?_
  refine lv_iadd hx hb dL_law_380 ?_
  refine va_sld hx hb hX hbl hbA hw.2.2 h1 dL_law_381 ?_
  refine lv_aload_n hx hb dL_law_382 rfl (lv_at hl 0 rfl) ?_
  refine lv_iload_n hx hb dL_law_383 rfl (lv_at hl 3 rfl) ?_
  refine lv_iconst (v := 2) hx hb dL_law_384 (by decide) ?_
  refine lv_iadd hx hb dL_law_385 ?_
  refine va_sld hx hb hX hbl hbA hw.2.2 h2 dL_law_386 ?_
  refine x_Vi (As := [.int (xs (nI i + 1 : Int32).toNatClampNeg), .int (xs (nI i + 2 : Int32).toNatClampNeg)]) (w' := fl [xB ax ac af ah at_ ar ad, cB G ac zc, fB G af zf, hB G ah zh, tB G at_ vt, cB G ar vr, fB G ad vd, mB G o zm]) X hw (m_X5_setMetal (G := G) (l := l) (o := o) e2) (cut8 (bs' := [xB ax ac af ah at_ ar ad, cB G ac zc, fB G af zf, hB G ah zh, tB G at_ vt, cB G ar vr, fB G ad vd, mB G o zm]) 8 [7] [0, 1, 2, 3, 4, 5, 6] [1, 2, 3, 4, 5, 6, 7, 0] [mB G o zm] rfl (by decide +kernel) rfl rfl rfl (by decide +kernel) rfl) 7 0 rfl rfl rfl (cwV 2 hts gL_law_X5_setMetal rfl rfl rfl hd_X5_setMetal ⟨Nat.le_of_ble_eq_true rfl, Nat.le_of_ble_eq_true rfl⟩) rfl hl.1 rfl (Nat.le_of_ble_eq_true rfl) dL_law_387 ⟨Nat.le_of_ble_eq_true rfl, Nat.le_of_ble_eq_true rfl⟩ (fun H locs hw => ?_)
  refine lv_icmp_eq (tgt := 816) hx hb dL_law_390 (by decide) (fun _ => ?_) (fun z => absurd rfl z)
  exact kk H locs ⟨zc, zf, zh, vt, vr, vd, zm, (spMetal σ (xs (nI i + 1 : Int32).toNatClampNeg) (xs (nI i + 2 : Int32).toNatClampNeg)).2, hw, hC2, hM2, spMetal_ok hO (x1 := (xs (nI i + 1 : Int32).toNatClampNeg)) (x2 := (xs (nI i + 2 : Int32).toNatClampNeg))⟩

set_option maxHeartbeats 4000000 in
set_option maxRecDepth 100000 in
theorem lc_7 {p : Program} {l : Launch} {e : Env} {s : State} {m : MethodId} {below : List Frame} {meth : Method} {c : Code} {G : GG} {A : Nat → Prop} {b L i : Nat} {xs : Nat → Int32} {ax : Nat} {ac af ah at_ ar ad o : Nat → Nat} {H : Heap} {locs : List Loc} {ls : Array Slot} {Q : State → Prop} (X : Cx p s m #[Value.ref b] meth c cL_law 4 ret wsL_law RL G A) (hX : va_X b L xs s s.heap) (hbl : b < s.heap.size) (hbA : ¬ A b) (hi : i + 4 ≤ L) (hL : L ≤ 2048) (hI : LI G A s ax ac af ah at_ ar ad o H locs) (hl : lv_has ls 4 [(0, .ref b), (1, .ref ax), (2, .ref (o 0)), (3, .int (nI i))]) (kk : ∀ (H : Heap) (locs : List Loc), LI G A s ax ac af ah at_ ar ad o H locs → W p l e room_1 s m #[Value.ref b] below meth c H locs 600000 7302250 Q (F0 m 816 ls [])) : W p l e room_1 s m #[Value.ref b] below meth c H locs 600000 7302250 Q (F0 m 395 ls []) := by
  obtain ⟨⟨hx, hb, hml, hown, hts⟩, hK, hr, hlk, hA⟩ := id X
  obtain ⟨vc, vf, vh, vt, vr, vd, v, σ, hw, hC, hM, hO⟩ := hI
  have h1 : vp_in (nI i + 1 : Int32) L := by rw [show (1 : Int32) = nI 1 from rfl, nI_add]; exact vp_in_nI (by omega) (by omega)
  have e1 := count_ok hC.c hC.f hO.S (xs (nI i + 1 : Int32).toNatClampNeg)
  have hC2 := hC
  obtain ⟨zm, e2, hs⟩ := mcount_ok hM.r hO.S (xs (nI i + 1 : Int32).toNatClampNeg)
  have hM2 := hM.same hs
  refine lv_aload_n hx hb dL_law_395 rfl (lv_at hl 1 rfl) ?_
  refine lv_aload_n hx hb dL_law_396 rfl (lv_at hl 0 rfl) ?_
  refine lv_iload_n hx hb dL_law_397 rfl (lv_at hl 3 rfl) ?_
  refine lv_iconst (v := 1) hx hb dL_law_398 (by decide) ?_
  refine lv_iadd hx hb dL_law_399 ?_
  refine va_sld hx hb hX hbl hbA hw.2.2 h1 dL_law_400 ?_
  refine x_Vi (As := [.int (xs (nI i + 1 : Int32).toNatClampNeg)]) (w' := fl [xB ax ac af ah at_ ar ad, cB G ac vc, fB G af vf, hB G ah vh, tB G at_ vt, cB G ar vr, fB G ad vd, mB G o v]) X hw (m_X4_count (G := G) (l := l) (ax := ax) (ac := ac) (af := af) (ah := ah) (at_ := at_) (ar := ar) (ad := ad) e1) (cut8 (bs' := [xB ax ac af ah at_ ar ad, cB G ac vc, fB G af vf, hB G ah vh, tB G at_ vt, cB G ar vr, fB G ad vd, mB G o v]) 8 [0, 1, 2] [3, 4, 5, 6, 7] [0, 1, 2, 3, 4, 5, 6, 7] [xB ax ac af ah at_ ar ad, cB G ac vc, fB G af vf] rfl (by decide +kernel) rfl rfl rfl (by decide +kernel) rfl) 0 0 rfl rfl rfl (cwV 1 hts gL_law_X4_count rfl rfl rfl hd_X4_count ⟨Nat.le_of_ble_eq_true rfl, Nat.le_of_ble_eq_true rfl⟩) rfl hl.1 rfl (Nat.le_of_ble_eq_true rfl) dL_law_401 ⟨Nat.le_of_ble_eq_true rfl, Nat.le_of_ble_eq_true rfl⟩ (fun H locs hw => ?_)
  refine lv_aload_n hx hb dL_law_404 rfl (lv_at hl 2 rfl) ?_
  refine lv_aload_n hx hb dL_law_405 rfl (lv_at hl 0 rfl) ?_
  refine lv_iload_n hx hb dL_law_406 rfl (lv_at hl 3 rfl) ?_
  refine lv_iconst (v := 1) hx hb dL_law_407 (by decide) ?_
  refine lv_iadd hx hb dL_law_408 ?_
  refine va_sld hx hb hX hbl hbA hw.2.2 h1 dL_law_409 ?_
  refine x_Vi (As := [.int (xs (nI i + 1 : Int32).toNatClampNeg)]) (w' := fl [xB ax ac af ah at_ ar ad, cB G ac vc, fB G af vf, hB G ah vh, tB G at_ vt, cB G ar vr, fB G ad vd, mB G o zm]) X hw (m_X5_count (G := G) (l := l) (o := o) e2) (cut8 (bs' := [xB ax ac af ah at_ ar ad, cB G ac vc, fB G af vf, hB G ah vh, tB G at_ vt, cB G ar vr, fB G ad vd, mB G o zm]) 8 [7] [0, 1, 2, 3, 4, 5, 6] [1, 2, 3, 4, 5, 6, 7, 0] [mB G o zm] rfl (by decide +kernel) rfl rfl rfl (by decide +kernel) rfl) 7 0 rfl rfl rfl (cwV 1 hts gL_law_X5_count rfl rfl rfl hd_X5_count ⟨Nat.le_of_ble_eq_true rfl, Nat.le_of_ble_eq_true rfl⟩) rfl hl.1 rfl (Nat.le_of_ble_eq_true rfl) dL_law_410 ⟨Nat.le_of_ble_eq_true rfl, Nat.le_of_ble_eq_true rfl⟩ (fun H locs hw => ?_)
  refine lv_icmp_eq (tgt := 816) hx hb dL_law_413 (by decide) (fun _ => ?_) (fun z => absurd rfl z)
  exact kk H locs ⟨vc, vf, vh, vt, vr, vd, zm, σ, hw, hC2, hM2, hO⟩

set_option maxHeartbeats 4000000 in
set_option maxRecDepth 100000 in
theorem lc_8 {p : Program} {l : Launch} {e : Env} {s : State} {m : MethodId} {below : List Frame} {meth : Method} {c : Code} {G : GG} {A : Nat → Prop} {b L i : Nat} {xs : Nat → Int32} {ax : Nat} {ac af ah at_ ar ad o : Nat → Nat} {H : Heap} {locs : List Loc} {ls : Array Slot} {Q : State → Prop} (X : Cx p s m #[Value.ref b] meth c cL_law 4 ret wsL_law RL G A) (hX : va_X b L xs s s.heap) (hbl : b < s.heap.size) (hbA : ¬ A b) (hi : i + 4 ≤ L) (hL : L ≤ 2048) (hI : LI G A s ax ac af ah at_ ar ad o H locs) (hl : lv_has ls 4 [(0, .ref b), (1, .ref ax), (2, .ref (o 0)), (3, .int (nI i))]) (kk : ∀ (H : Heap) (locs : List Loc), LI G A s ax ac af ah at_ ar ad o H locs → W p l e room_1 s m #[Value.ref b] below meth c H locs 600000 7302250 Q (F0 m 816 ls [])) : W p l e room_1 s m #[Value.ref b] below meth c H locs 600000 7302250 Q (F0 m 418 ls []) := by
  obtain ⟨⟨hx, hb, hml, hown, hts⟩, hK, hr, hlk, hA⟩ := id X
  obtain ⟨vc, vf, vh, vt, vr, vd, v, σ, hw, hC, hM, hO⟩ := hI
  have h1 : vp_in (nI i + 1 : Int32) L := by rw [show (1 : Int32) = nI 1 from rfl, nI_add]; exact vp_in_nI (by omega) (by omega)
  have h2 : vp_in (nI i + 2 : Int32) L := by rw [show (2 : Int32) = nI 2 from rfl, nI_add]; exact vp_in_nI (by omega) (by omega)
  have e1 := sec_c hC.c hC.f hO.S (xs (nI i + 1 : Int32).toNatClampNeg) (xs (nI i + 2 : Int32).toNatClampNeg)
  have hC2 := hC
  obtain ⟨zm, e2, hs⟩ := msec_ok hM.r hO.S (xs (nI i + 1 : Int32).toNatClampNeg) (xs (nI i + 2 : Int32).toNatClampNeg)
  have hM2 := hM.same hs
  refine lv_aload_n hx hb dL_law_418 rfl (lv_at hl 1 rfl) ?_
  refine lv_aload_n hx hb dL_law_419 rfl (lv_at hl 0 rfl) ?_
  refine lv_iload_n hx hb dL_law_420 rfl (lv_at hl 3 rfl) ?_
  refine lv_iconst (v := 1) hx hb dL_law_421 (by decide) ?_
  refine lv_iadd hx hb dL_law_422 ?_
  refine va_sld hx hb hX hbl hbA hw.2.2 h1 dL_law_423 ?_
  refine lv_aload_n hx hb dL_law_424 rfl (lv_at hl 0 rfl) ?_
  refine lv_iload_n hx hb dL_law_425 rfl (lv_at hl 3 rfl) ?_
  refine lv_iconst (v := 2) hx hb dL_law_426 (by decide) ?_
  refine lv_iadd hx hb dL_law_427 ?_
  refine va_sld hx hb hX hbl hbA hw.2.2 h2 dL_law_428 ?_
  refine x_Vi (As := [.int (xs (nI i + 1 : Int32).toNatClampNeg), .int (xs (nI i + 2 : Int32).toNatClampNeg)]) (w' := fl [xB ax ac af ah at_ ar ad, cB G ac vc, fB G af vf, hB G ah vh, tB G at_ vt, cB G ar vr, fB G ad vd, mB G o v]) X hw (m_X4_section (G := G) (l := l) (ax := ax) (ac := ac) (af := af) (ah := ah) (at_ := at_) (ar := ar) (ad := ad) e1) (cut8 (bs' := [xB ax ac af ah at_ ar ad, cB G ac vc, fB G af vf, hB G ah vh, tB G at_ vt, cB G ar vr, fB G ad vd, mB G o v]) 8 [0, 1, 2] [3, 4, 5, 6, 7] [0, 1, 2, 3, 4, 5, 6, 7] [xB ax ac af ah at_ ar ad, cB G ac vc, fB G af vf] rfl (by decide +kernel) rfl rfl rfl (by decide +kernel) rfl) 0 0 rfl rfl rfl (cwV 2 hts gL_law_X4_section rfl rfl rfl hd_X4_section ⟨Nat.le_of_ble_eq_true rfl, Nat.le_of_ble_eq_true rfl⟩) rfl hl.1 rfl (Nat.le_of_ble_eq_true rfl) dL_law_429 ⟨Nat.le_of_ble_eq_true rfl, Nat.le_of_ble_eq_true rfl⟩ (fun H locs hw => ?_)
  refine lv_aload_n hx hb dL_law_432 rfl (lv_at hl 2 rfl) ?_
  refine lv_aload_n hx hb dL_law_433 rfl (lv_at hl 0 rfl) ?_
  refine lv_iload_n hx hb dL_law_434 rfl (lv_at hl 3 rfl) ?_
  refine lv_iconst (v := 1) hx hb dL_law_435 (by decide) ?_
  refine lv_iadd hx hb dL_law_436 ?_
  refine va_sld hx hb hX hbl hbA hw.2.2 h1 dL_law_437 ?_
  refine lv_aload_n hx hb dL_law_438 rfl (lv_at hl 0 rfl) ?_
  refine lv_iload_n hx hb dL_law_439 rfl (lv_at hl 3 rfl) ?_
  refine lv_iconst (v := 2) hx hb dL_law_440 (by decide) ?_
  refine lv_iadd hx hb dL_law_441 ?_
  refine va_sld hx hb hX hbl hbA hw.2.2 h2 dL_law_442 ?_
  refine x_Vi (As := [.int (xs (nI i + 1 : Int32).toNatClampNeg), .int (xs (nI i + 2 : Int32).toNatClampNeg)]) (w' := fl [xB ax ac af ah at_ ar ad, cB G ac vc, fB G af vf, hB G ah vh, tB G at_ vt, cB G ar vr, fB G ad vd, mB G o zm]) X hw (m_X5_section (G := G) (l := l) (o := o) e2) (cut8 (bs' := [xB ax ac af ah at_ ar ad, cB G ac vc, fB G af vf, hB G ah vh, tB G at_ vt, cB G ar vr, fB G ad vd, mB G o zm]) 8 [7] [0, 1, 2, 3, 4, 5, 6] [1, 2, 3, 4, 5, 6, 7, 0] [mB G o zm] rfl (by decide +kernel) rfl rfl rfl (by decide +kernel) rfl) 7 0 rfl rfl rfl (cwV 2 hts gL_law_X5_section rfl rfl rfl hd_X5_section ⟨Nat.le_of_ble_eq_true rfl, Nat.le_of_ble_eq_true rfl⟩) rfl hl.1 rfl (Nat.le_of_ble_eq_true rfl) dL_law_443 ⟨Nat.le_of_ble_eq_true rfl, Nat.le_of_ble_eq_true rfl⟩ (fun H locs hw => ?_)
  refine lv_icmp_eq (tgt := 816) hx hb dL_law_446 (by decide) (fun _ => ?_) (fun z => absurd rfl z)
  exact kk H locs ⟨vc, vf, vh, vt, vr, vd, zm, σ, hw, hC2, hM2, hO⟩

set_option maxHeartbeats 4000000 in
set_option maxRecDepth 100000 in
theorem lc_9 {p : Program} {l : Launch} {e : Env} {s : State} {m : MethodId} {below : List Frame} {meth : Method} {c : Code} {G : GG} {A : Nat → Prop} {b L i : Nat} {xs : Nat → Int32} {ax : Nat} {ac af ah at_ ar ad o : Nat → Nat} {H : Heap} {locs : List Loc} {ls : Array Slot} {Q : State → Prop} (X : Cx p s m #[Value.ref b] meth c cL_law 4 ret wsL_law RL G A) (hX : va_X b L xs s s.heap) (hbl : b < s.heap.size) (hbA : ¬ A b) (hi : i + 4 ≤ L) (hL : L ≤ 2048) (hI : LI G A s ax ac af ah at_ ar ad o H locs) (hl : lv_has ls 4 [(0, .ref b), (1, .ref ax), (2, .ref (o 0)), (3, .int (nI i))]) (kk : ∀ (H : Heap) (locs : List Loc), LI G A s ax ac af ah at_ ar ad o H locs → W p l e room_1 s m #[Value.ref b] below meth c H locs 600000 7302250 Q (F0 m 816 ls [])) : W p l e room_1 s m #[Value.ref b] below meth c H locs 600000 7302250 Q (F0 m 451 ls []) := by
  obtain ⟨⟨hx, hb, hml, hown, hts⟩, hK, hr, hlk, hA⟩ := id X
  obtain ⟨vc, vf, vh, vt, vr, vd, v, σ, hw, hC, hM, hO⟩ := hI
  have h1 : vp_in (nI i + 1 : Int32) L := by rw [show (1 : Int32) = nI 1 from rfl, nI_add]; exact vp_in_nI (by omega) (by omega)
  have h2 : vp_in (nI i + 2 : Int32) L := by rw [show (2 : Int32) = nI 2 from rfl, nI_add]; exact vp_in_nI (by omega) (by omega)
  by_cases hq : xs (nI i + 2 : Int32).toNatClampNeg = 0
  · have e1 := mod_c hC.c hO.S (xs (nI i + 1 : Int32).toNatClampNeg) 0
    have hC2 := hC
    have e2 := mmod_ok hM.r hO.S (xs (nI i + 1 : Int32).toNatClampNeg) 0
    have hM2 := hM
    refine lv_aload_n hx hb dL_law_451 rfl (lv_at hl 1 rfl) ?_
    refine lv_aload_n hx hb dL_law_452 rfl (lv_at hl 0 rfl) ?_
    refine lv_iload_n hx hb dL_law_453 rfl (lv_at hl 3 rfl) ?_
    refine lv_iconst (v := 1) hx hb dL_law_454 (by decide) ?_
    refine lv_iadd hx hb dL_law_455 ?_
    refine va_sld hx hb hX hbl hbA hw.2.2 h1 dL_law_456 ?_
    refine lv_aload_n hx hb dL_law_457 rfl (lv_at hl 0 rfl) ?_
    refine lv_iload_n hx hb dL_law_458 rfl (lv_at hl 3 rfl) ?_
    refine lv_iconst (v := 2) hx hb dL_law_459 (by decide) ?_
    refine lv_iadd hx hb dL_law_460 ?_
    refine va_sld hx hb hX hbl hbA hw.2.2 h2 dL_law_461 ?_
    refine lv_if_eq (tgt := 469) hx hb dL_law_462 (by decide) (fun _ => ?_) (fun z => absurd hq z)
    refine lv_iconst (v := 0) hx hb dL_law_469 (by decide) ?_
    refine x_Vi (As := [.int (xs (nI i + 1 : Int32).toNatClampNeg), .int 0]) (w' := fl [xB ax ac af ah at_ ar ad, cB G ac vc, fB G af vf, hB G ah vh, tB G at_ vt, cB G ar vr, fB G ad vd, mB G o v]) X hw (m_X4_modulus (G := G) (l := l) (ax := ax) (ac := ac) (af := af) (ah := ah) (at_ := at_) (ar := ar) (ad := ad) e1) (cut8 (bs' := [xB ax ac af ah at_ ar ad, cB G ac vc, fB G af vf, hB G ah vh, tB G at_ vt, cB G ar vr, fB G ad vd, mB G o v]) 8 [0, 1] [2, 3, 4, 5, 6, 7] [0, 1, 2, 3, 4, 5, 6, 7] [xB ax ac af ah at_ ar ad, cB G ac vc] rfl (by decide +kernel) rfl rfl rfl (by decide +kernel) rfl) 0 0 rfl rfl rfl (cwV 2 hts gL_law_X4_modulus rfl rfl rfl hd_X4_modulus ⟨Nat.le_of_ble_eq_true rfl, Nat.le_of_ble_eq_true rfl⟩) rfl hl.1 rfl (Nat.le_of_ble_eq_true rfl) dL_law_470 ⟨Nat.le_of_ble_eq_true rfl, Nat.le_of_ble_eq_true rfl⟩ (fun H locs hw => ?_)
    refine lv_aload_n hx hb dL_law_473 rfl (lv_at hl 2 rfl) ?_
    refine lv_aload_n hx hb dL_law_474 rfl (lv_at hl 0 rfl) ?_
    refine lv_iload_n hx hb dL_law_475 rfl (lv_at hl 3 rfl) ?_
    refine lv_iconst (v := 1) hx hb dL_law_476 (by decide) ?_
    refine lv_iadd hx hb dL_law_477 ?_
    refine va_sld hx hb hX hbl hbA hw.2.2 h1 dL_law_478 ?_
    refine lv_aload_n hx hb dL_law_479 rfl (lv_at hl 0 rfl) ?_
    refine lv_iload_n hx hb dL_law_480 rfl (lv_at hl 3 rfl) ?_
    refine lv_iconst (v := 2) hx hb dL_law_481 (by decide) ?_
    refine lv_iadd hx hb dL_law_482 ?_
    refine va_sld hx hb hX hbl hbA hw.2.2 h2 dL_law_483 ?_
    refine lv_if_eq (tgt := 491) hx hb dL_law_484 (by decide) (fun _ => ?_) (fun z => absurd hq z)
    refine lv_iconst (v := 0) hx hb dL_law_491 (by decide) ?_
    refine x_Vi (As := [.int (xs (nI i + 1 : Int32).toNatClampNeg), .int 0]) (w' := fl [xB ax ac af ah at_ ar ad, cB G ac vc, fB G af vf, hB G ah vh, tB G at_ vt, cB G ar vr, fB G ad vd, mB G o v]) X hw (m_X5_modulus (G := G) (l := l) (o := o) e2) (cut8 (bs' := [xB ax ac af ah at_ ar ad, cB G ac vc, fB G af vf, hB G ah vh, tB G at_ vt, cB G ar vr, fB G ad vd, mB G o v]) 8 [7] [0, 1, 2, 3, 4, 5, 6] [1, 2, 3, 4, 5, 6, 7, 0] [mB G o v] rfl (by decide +kernel) rfl rfl rfl (by decide +kernel) rfl) 7 0 rfl rfl rfl (cwV 2 hts gL_law_X5_modulus rfl rfl rfl hd_X5_modulus ⟨Nat.le_of_ble_eq_true rfl, Nat.le_of_ble_eq_true rfl⟩) rfl hl.1 rfl (Nat.le_of_ble_eq_true rfl) dL_law_492 ⟨Nat.le_of_ble_eq_true rfl, Nat.le_of_ble_eq_true rfl⟩ (fun H locs hw => ?_)
    refine lv_icmp_eq (tgt := 816) hx hb dL_law_495 (by decide) (fun _ => ?_) (fun z => absurd rfl z)
    exact kk H locs ⟨vc, vf, vh, vt, vr, vd, v, σ, hw, hC2, hM2, hO⟩
  · have e1 := mod_c hC.c hO.S (xs (nI i + 1 : Int32).toNatClampNeg) 1
    have hC2 := hC
    have e2 := mmod_ok hM.r hO.S (xs (nI i + 1 : Int32).toNatClampNeg) 1
    have hM2 := hM
    refine lv_aload_n hx hb dL_law_451 rfl (lv_at hl 1 rfl) ?_
    refine lv_aload_n hx hb dL_law_452 rfl (lv_at hl 0 rfl) ?_
    refine lv_iload_n hx hb dL_law_453 rfl (lv_at hl 3 rfl) ?_
    refine lv_iconst (v := 1) hx hb dL_law_454 (by decide) ?_
    refine lv_iadd hx hb dL_law_455 ?_
    refine va_sld hx hb hX hbl hbA hw.2.2 h1 dL_law_456 ?_
    refine lv_aload_n hx hb dL_law_457 rfl (lv_at hl 0 rfl) ?_
    refine lv_iload_n hx hb dL_law_458 rfl (lv_at hl 3 rfl) ?_
    refine lv_iconst (v := 2) hx hb dL_law_459 (by decide) ?_
    refine lv_iadd hx hb dL_law_460 ?_
    refine va_sld hx hb hX hbl hbA hw.2.2 h2 dL_law_461 ?_
    refine lv_if_eq (tgt := 469) hx hb dL_law_462 (by decide) (fun z => absurd z hq) (fun _ => ?_)
    refine lv_iconst (v := 1) hx hb dL_law_465 (by decide) ?_
    refine lv_goto (tgt := 470) hx hb dL_law_466 (by decide) ?_
    refine x_Vi (As := [.int (xs (nI i + 1 : Int32).toNatClampNeg), .int 1]) (w' := fl [xB ax ac af ah at_ ar ad, cB G ac vc, fB G af vf, hB G ah vh, tB G at_ vt, cB G ar vr, fB G ad vd, mB G o v]) X hw (m_X4_modulus (G := G) (l := l) (ax := ax) (ac := ac) (af := af) (ah := ah) (at_ := at_) (ar := ar) (ad := ad) e1) (cut8 (bs' := [xB ax ac af ah at_ ar ad, cB G ac vc, fB G af vf, hB G ah vh, tB G at_ vt, cB G ar vr, fB G ad vd, mB G o v]) 8 [0, 1] [2, 3, 4, 5, 6, 7] [0, 1, 2, 3, 4, 5, 6, 7] [xB ax ac af ah at_ ar ad, cB G ac vc] rfl (by decide +kernel) rfl rfl rfl (by decide +kernel) rfl) 0 0 rfl rfl rfl (cwV 2 hts gL_law_X4_modulus rfl rfl rfl hd_X4_modulus ⟨Nat.le_of_ble_eq_true rfl, Nat.le_of_ble_eq_true rfl⟩) rfl hl.1 rfl (Nat.le_of_ble_eq_true rfl) dL_law_470 ⟨Nat.le_of_ble_eq_true rfl, Nat.le_of_ble_eq_true rfl⟩ (fun H locs hw => ?_)
    refine lv_aload_n hx hb dL_law_473 rfl (lv_at hl 2 rfl) ?_
    refine lv_aload_n hx hb dL_law_474 rfl (lv_at hl 0 rfl) ?_
    refine lv_iload_n hx hb dL_law_475 rfl (lv_at hl 3 rfl) ?_
    refine lv_iconst (v := 1) hx hb dL_law_476 (by decide) ?_
    refine lv_iadd hx hb dL_law_477 ?_
    refine va_sld hx hb hX hbl hbA hw.2.2 h1 dL_law_478 ?_
    refine lv_aload_n hx hb dL_law_479 rfl (lv_at hl 0 rfl) ?_
    refine lv_iload_n hx hb dL_law_480 rfl (lv_at hl 3 rfl) ?_
    refine lv_iconst (v := 2) hx hb dL_law_481 (by decide) ?_
    refine lv_iadd hx hb dL_law_482 ?_
    refine va_sld hx hb hX hbl hbA hw.2.2 h2 dL_law_483 ?_
    refine lv_if_eq (tgt := 491) hx hb dL_law_484 (by decide) (fun z => absurd z hq) (fun _ => ?_)
    refine lv_iconst (v := 1) hx hb dL_law_487 (by decide) ?_
    refine lv_goto (tgt := 492) hx hb dL_law_488 (by decide) ?_
    refine x_Vi (As := [.int (xs (nI i + 1 : Int32).toNatClampNeg), .int 1]) (w' := fl [xB ax ac af ah at_ ar ad, cB G ac vc, fB G af vf, hB G ah vh, tB G at_ vt, cB G ar vr, fB G ad vd, mB G o v]) X hw (m_X5_modulus (G := G) (l := l) (o := o) e2) (cut8 (bs' := [xB ax ac af ah at_ ar ad, cB G ac vc, fB G af vf, hB G ah vh, tB G at_ vt, cB G ar vr, fB G ad vd, mB G o v]) 8 [7] [0, 1, 2, 3, 4, 5, 6] [1, 2, 3, 4, 5, 6, 7, 0] [mB G o v] rfl (by decide +kernel) rfl rfl rfl (by decide +kernel) rfl) 7 0 rfl rfl rfl (cwV 2 hts gL_law_X5_modulus rfl rfl rfl hd_X5_modulus ⟨Nat.le_of_ble_eq_true rfl, Nat.le_of_ble_eq_true rfl⟩) rfl hl.1 rfl (Nat.le_of_ble_eq_true rfl) dL_law_492 ⟨Nat.le_of_ble_eq_true rfl, Nat.le_of_ble_eq_true rfl⟩ (fun H locs hw => ?_)
    refine lv_icmp_eq (tgt := 816) hx hb dL_law_495 (by decide) (fun _ => ?_) (fun z => absurd rfl z)
    exact kk H locs ⟨vc, vf, vh, vt, vr, vd, v, σ, hw, hC2, hM2, hO⟩

set_option maxHeartbeats 4000000 in
set_option maxRecDepth 100000 in
theorem lc_10 {p : Program} {l : Launch} {e : Env} {s : State} {m : MethodId} {below : List Frame} {meth : Method} {c : Code} {G : GG} {A : Nat → Prop} {b L i : Nat} {xs : Nat → Int32} {ax : Nat} {ac af ah at_ ar ad o : Nat → Nat} {H : Heap} {locs : List Loc} {ls : Array Slot} {Q : State → Prop} (X : Cx p s m #[Value.ref b] meth c cL_law 4 ret wsL_law RL G A) (hX : va_X b L xs s s.heap) (hbl : b < s.heap.size) (hbA : ¬ A b) (hi : i + 4 ≤ L) (hL : L ≤ 2048) (hI : LI G A s ax ac af ah at_ ar ad o H locs) (hl : lv_has ls 4 [(0, .ref b), (1, .ref ax), (2, .ref (o 0)), (3, .int (nI i))]) (kk : ∀ (H : Heap) (locs : List Loc), LI G A s ax ac af ah at_ ar ad o H locs → W p l e room_1 s m #[Value.ref b] below meth c H locs 600000 7302250 Q (F0 m 816 ls [])) : W p l e room_1 s m #[Value.ref b] below meth c H locs 600000 7302250 Q (F0 m 500 ls []) := by
  obtain ⟨⟨hx, hb, hml, hown, hts⟩, hK, hr, hlk, hA⟩ := id X
  obtain ⟨vc, vf, vh, vt, vr, vd, v, σ, hw, hC, hM, hO⟩ := hI
  have h1 : vp_in (nI i + 1 : Int32) L := by rw [show (1 : Int32) = nI 1 from rfl, nI_add]; exact vp_in_nI (by omega) (by omega)
  have h2 : vp_in (nI i + 2 : Int32) L := by rw [show (2 : Int32) = nI 2 from rfl, nI_add]; exact vp_in_nI (by omega) (by omega)
  have e1 := joint_c hC.c hO.S (xs (nI i + 1 : Int32).toNatClampNeg) (xs (nI i + 2 : Int32).toNatClampNeg)
  have hC2 := hC
  have e2 := mjoint_ok hM.r hO.S (xs (nI i + 1 : Int32).toNatClampNeg) (xs (nI i + 2 : Int32).toNatClampNeg)
  have hM2 := hM
  refine lv_aload_n hx hb dL_law_500 rfl (lv_at hl 1 rfl) ?_
  refine lv_aload_n hx hb dL_law_501 rfl (lv_at hl 0 rfl) ?_
  refine lv_iload_n hx hb dL_law_502 rfl (lv_at hl 3 rfl) ?_
  refine lv_iconst (v := 1) hx hb dL_law_503 (by decide) ?_
  refine lv_iadd hx hb dL_law_504 ?_
  refine va_sld hx hb hX hbl hbA hw.2.2 h1 dL_law_505 ?_
  refine lv_aload_n hx hb dL_law_506 rfl (lv_at hl 0 rfl) ?_
  refine lv_iload_n hx hb dL_law_507 rfl (lv_at hl 3 rfl) ?_
  refine lv_iconst (v := 2) hx hb dL_law_508 (by decide) ?_
  refine lv_iadd hx hb dL_law_509 ?_
  refine va_sld hx hb hX hbl hbA hw.2.2 h2 dL_law_510 ?_
  refine x_Vi (As := [.int (xs (nI i + 1 : Int32).toNatClampNeg), .int (xs (nI i + 2 : Int32).toNatClampNeg)]) (w' := fl [xB ax ac af ah at_ ar ad, cB G ac vc, fB G af vf, hB G ah vh, tB G at_ vt, cB G ar vr, fB G ad vd, mB G o v]) X hw (m_X4_joint (G := G) (l := l) (ax := ax) (ac := ac) (af := af) (ah := ah) (at_ := at_) (ar := ar) (ad := ad) e1) (cut8 (bs' := [xB ax ac af ah at_ ar ad, cB G ac vc, fB G af vf, hB G ah vh, tB G at_ vt, cB G ar vr, fB G ad vd, mB G o v]) 8 [0, 1] [2, 3, 4, 5, 6, 7] [0, 1, 2, 3, 4, 5, 6, 7] [xB ax ac af ah at_ ar ad, cB G ac vc] rfl (by decide +kernel) rfl rfl rfl (by decide +kernel) rfl) 0 0 rfl rfl rfl (cwV 2 hts gL_law_X4_joint rfl rfl rfl hd_X4_joint ⟨Nat.le_of_ble_eq_true rfl, Nat.le_of_ble_eq_true rfl⟩) rfl hl.1 rfl (Nat.le_of_ble_eq_true rfl) dL_law_511 ⟨Nat.le_of_ble_eq_true rfl, Nat.le_of_ble_eq_true rfl⟩ (fun H locs hw => ?_)
  refine lv_aload_n hx hb dL_law_514 rfl (lv_at hl 2 rfl) ?_
  refine lv_aload_n hx hb dL_law_515 rfl (lv_at hl 0 rfl) ?_
  refine lv_iload_n hx hb dL_law_516 rfl (lv_at hl 3 rfl) ?_
  refine lv_iconst (v := 1) hx hb dL_law_517 (by decide) ?_
  refine lv_iadd hx hb dL_law_518 ?_
  refine va_sld hx hb hX hbl hbA hw.2.2 h1 dL_law_519 ?_
  refine lv_aload_n hx hb dL_law_520 rfl (lv_at hl 0 rfl) ?_
  refine lv_iload_n hx hb dL_law_521 rfl (lv_at hl 3 rfl) ?_
  refine lv_iconst (v := 2) hx hb dL_law_522 (by decide) ?_
  refine lv_iadd hx hb dL_law_523 ?_
  refine va_sld hx hb hX hbl hbA hw.2.2 h2 dL_law_524 ?_
  refine x_Vi (As := [.int (xs (nI i + 1 : Int32).toNatClampNeg), .int (xs (nI i + 2 : Int32).toNatClampNeg)]) (w' := fl [xB ax ac af ah at_ ar ad, cB G ac vc, fB G af vf, hB G ah vh, tB G at_ vt, cB G ar vr, fB G ad vd, mB G o v]) X hw (m_X5_joint (G := G) (l := l) (o := o) e2) (cut8 (bs' := [xB ax ac af ah at_ ar ad, cB G ac vc, fB G af vf, hB G ah vh, tB G at_ vt, cB G ar vr, fB G ad vd, mB G o v]) 8 [7] [0, 1, 2, 3, 4, 5, 6] [1, 2, 3, 4, 5, 6, 7, 0] [mB G o v] rfl (by decide +kernel) rfl rfl rfl (by decide +kernel) rfl) 7 0 rfl rfl rfl (cwV 2 hts gL_law_X5_joint rfl rfl rfl hd_X5_joint ⟨Nat.le_of_ble_eq_true rfl, Nat.le_of_ble_eq_true rfl⟩) rfl hl.1 rfl (Nat.le_of_ble_eq_true rfl) dL_law_525 ⟨Nat.le_of_ble_eq_true rfl, Nat.le_of_ble_eq_true rfl⟩ (fun H locs hw => ?_)
  refine lv_icmp_eq (tgt := 816) hx hb dL_law_528 (by decide) (fun _ => ?_) (fun z => absurd rfl z)
  exact kk H locs ⟨vc, vf, vh, vt, vr, vd, v, σ, hw, hC2, hM2, hO⟩

set_option maxHeartbeats 4000000 in
set_option maxRecDepth 100000 in
theorem lc_11 {p : Program} {l : Launch} {e : Env} {s : State} {m : MethodId} {below : List Frame} {meth : Method} {c : Code} {G : GG} {A : Nat → Prop} {b L i : Nat} {xs : Nat → Int32} {ax : Nat} {ac af ah at_ ar ad o : Nat → Nat} {H : Heap} {locs : List Loc} {ls : Array Slot} {Q : State → Prop} (X : Cx p s m #[Value.ref b] meth c cL_law 4 ret wsL_law RL G A) (hX : va_X b L xs s s.heap) (hbl : b < s.heap.size) (hbA : ¬ A b) (hi : i + 4 ≤ L) (hL : L ≤ 2048) (hI : LI G A s ax ac af ah at_ ar ad o H locs) (hl : lv_has ls 4 [(0, .ref b), (1, .ref ax), (2, .ref (o 0)), (3, .int (nI i))]) (kk : ∀ (H : Heap) (locs : List Loc), LI G A s ax ac af ah at_ ar ad o H locs → W p l e room_1 s m #[Value.ref b] below meth c H locs 600000 7302250 Q (F0 m 816 ls [])) : W p l e room_1 s m #[Value.ref b] below meth c H locs 600000 7302250 Q (F0 m 533 ls []) := by
  obtain ⟨⟨hx, hb, hml, hown, hts⟩, hK, hr, hlk, hA⟩ := id X
  obtain ⟨vc, vf, vh, vt, vr, vd, v, σ, hw, hC, hM, hO⟩ := hI
  have h1 : vp_in (nI i + 1 : Int32) L := by rw [show (1 : Int32) = nI 1 from rfl, nI_add]; exact vp_in_nI (by omega) (by omega)
  have e1 := atStep_ok hC.c hC.f hO.S (xs (nI i + 1 : Int32).toNatClampNeg)
  have hC2 := hC
  obtain ⟨zm, e2, hs⟩ := mstep_ok hM.r hO.S (xs (nI i + 1 : Int32).toNatClampNeg)
  have hM2 := hM.same hs
  refine lv_aload_n hx hb dL_law_533 rfl (lv_at hl 1 rfl) ?_
  refine lv_aload_n hx hb dL_law_534 rfl (lv_at hl 0 rfl) ?_
  refine lv_iload_n hx hb dL_law_535 rfl (lv_at hl 3 rfl) ?_
  refine lv_iconst (v := 1) hx hb dL_law_536 (by decide) ?_
  refine lv_iadd hx hb dL_law_537 ?_
  refine va_sld hx hb hX hbl hbA hw.2.2 h1 dL_law_538 ?_
  refine x_Vi (As := [.int (xs (nI i + 1 : Int32).toNatClampNeg)]) (w' := fl [xB ax ac af ah at_ ar ad, cB G ac vc, fB G af vf, hB G ah vh, tB G at_ vt, cB G ar vr, fB G ad vd, mB G o v]) X hw (m_X4_atStep (G := G) (l := l) (ax := ax) (ac := ac) (af := af) (ah := ah) (at_ := at_) (ar := ar) (ad := ad) e1) (cut8 (bs' := [xB ax ac af ah at_ ar ad, cB G ac vc, fB G af vf, hB G ah vh, tB G at_ vt, cB G ar vr, fB G ad vd, mB G o v]) 8 [0, 1, 2] [3, 4, 5, 6, 7] [0, 1, 2, 3, 4, 5, 6, 7] [xB ax ac af ah at_ ar ad, cB G ac vc, fB G af vf] rfl (by decide +kernel) rfl rfl rfl (by decide +kernel) rfl) 0 0 rfl rfl rfl (cwV 1 hts gL_law_X4_atStep rfl rfl rfl hd_X4_atStep ⟨Nat.le_of_ble_eq_true rfl, Nat.le_of_ble_eq_true rfl⟩) rfl hl.1 rfl (Nat.le_of_ble_eq_true rfl) dL_law_539 ⟨Nat.le_of_ble_eq_true rfl, Nat.le_of_ble_eq_true rfl⟩ (fun H locs hw => ?_)
  refine lv_aload_n hx hb dL_law_542 rfl (lv_at hl 2 rfl) ?_
  refine lv_aload_n hx hb dL_law_543 rfl (lv_at hl 0 rfl) ?_
  refine lv_iload_n hx hb dL_law_544 rfl (lv_at hl 3 rfl) ?_
  refine lv_iconst (v := 1) hx hb dL_law_545 (by decide) ?_
  refine lv_iadd hx hb dL_law_546 ?_
  refine va_sld hx hb hX hbl hbA hw.2.2 h1 dL_law_547 ?_
  refine x_Vi (As := [.int (xs (nI i + 1 : Int32).toNatClampNeg)]) (w' := fl [xB ax ac af ah at_ ar ad, cB G ac vc, fB G af vf, hB G ah vh, tB G at_ vt, cB G ar vr, fB G ad vd, mB G o zm]) X hw (m_X5_atStep (G := G) (l := l) (o := o) e2) (cut8 (bs' := [xB ax ac af ah at_ ar ad, cB G ac vc, fB G af vf, hB G ah vh, tB G at_ vt, cB G ar vr, fB G ad vd, mB G o zm]) 8 [7] [0, 1, 2, 3, 4, 5, 6] [1, 2, 3, 4, 5, 6, 7, 0] [mB G o zm] rfl (by decide +kernel) rfl rfl rfl (by decide +kernel) rfl) 7 0 rfl rfl rfl (cwV 1 hts gL_law_X5_atStep rfl rfl rfl hd_X5_atStep ⟨Nat.le_of_ble_eq_true rfl, Nat.le_of_ble_eq_true rfl⟩) rfl hl.1 rfl (Nat.le_of_ble_eq_true rfl) dL_law_548 ⟨Nat.le_of_ble_eq_true rfl, Nat.le_of_ble_eq_true rfl⟩ (fun H locs hw => ?_)
  refine lv_icmp_eq (tgt := 816) hx hb dL_law_551 (by decide) (fun _ => ?_) (fun z => absurd rfl z)
  exact kk H locs ⟨vc, vf, vh, vt, vr, vd, zm, σ, hw, hC2, hM2, hO⟩

set_option maxHeartbeats 4000000 in
set_option maxRecDepth 100000 in
theorem lc_12 {p : Program} {l : Launch} {e : Env} {s : State} {m : MethodId} {below : List Frame} {meth : Method} {c : Code} {G : GG} {A : Nat → Prop} {b L i : Nat} {xs : Nat → Int32} {ax : Nat} {ac af ah at_ ar ad o : Nat → Nat} {H : Heap} {locs : List Loc} {ls : Array Slot} {Q : State → Prop} (X : Cx p s m #[Value.ref b] meth c cL_law 4 ret wsL_law RL G A) (hX : va_X b L xs s s.heap) (hbl : b < s.heap.size) (hbA : ¬ A b) (hi : i + 4 ≤ L) (hL : L ≤ 2048) (hI : LI G A s ax ac af ah at_ ar ad o H locs) (hl : lv_has ls 4 [(0, .ref b), (1, .ref ax), (2, .ref (o 0)), (3, .int (nI i))]) (kk : ∀ (H : Heap) (locs : List Loc), LI G A s ax ac af ah at_ ar ad o H locs → W p l e room_1 s m #[Value.ref b] below meth c H locs 600000 7302250 Q (F0 m 816 ls [])) : W p l e room_1 s m #[Value.ref b] below meth c H locs 600000 7302250 Q (F0 m 556 ls []) := by
  obtain ⟨⟨hx, hb, hml, hown, hts⟩, hK, hr, hlk, hA⟩ := id X
  obtain ⟨vc, vf, vh, vt, vr, vd, v, σ, hw, hC, hM, hO⟩ := hI
  have h1 : vp_in (nI i + 1 : Int32) L := by rw [show (1 : Int32) = nI 1 from rfl, nI_add]; exact vp_in_nI (by omega) (by omega)
  have h2 : vp_in (nI i + 2 : Int32) L := by rw [show (2 : Int32) = nI 2 from rfl, nI_add]; exact vp_in_nI (by omega) (by omega)
  have e1 := way_c hC.c hC.f hO.S (xs (nI i + 1 : Int32).toNatClampNeg) (xs (nI i + 2 : Int32).toNatClampNeg)
  have hC2 := hC
  obtain ⟨zm, e2, hs⟩ := mway_ok hM.r hO.S (xs (nI i + 1 : Int32).toNatClampNeg) (xs (nI i + 2 : Int32).toNatClampNeg)
  have hM2 := hM.same hs
  refine lv_aload_n hx hb dL_law_556 rfl (lv_at hl 1 rfl) ?_
  refine lv_aload_n hx hb dL_law_557 rfl (lv_at hl 0 rfl) ?_
  refine lv_iload_n hx hb dL_law_558 rfl (lv_at hl 3 rfl) ?_
  refine lv_iconst (v := 1) hx hb dL_law_559 (by decide) ?_
  refine lv_iadd hx hb dL_law_560 ?_
  refine va_sld hx hb hX hbl hbA hw.2.2 h1 dL_law_561 ?_
  refine lv_aload_n hx hb dL_law_562 rfl (lv_at hl 0 rfl) ?_
  refine lv_iload_n hx hb dL_law_563 rfl (lv_at hl 3 rfl) ?_
  refine lv_iconst (v := 2) hx hb dL_law_564 (by decide) ?_
  refine lv_iadd hx hb dL_law_565 ?_
  refine va_sld hx hb hX hbl hbA hw.2.2 h2 dL_law_566 ?_
  refine x_Vi (As := [.int (xs (nI i + 1 : Int32).toNatClampNeg), .int (xs (nI i + 2 : Int32).toNatClampNeg)]) (w' := fl [xB ax ac af ah at_ ar ad, cB G ac vc, fB G af vf, hB G ah vh, tB G at_ vt, cB G ar vr, fB G ad vd, mB G o v]) X hw (m_X4_way (G := G) (l := l) (ax := ax) (ac := ac) (af := af) (ah := ah) (at_ := at_) (ar := ar) (ad := ad) e1) (cut8 (bs' := [xB ax ac af ah at_ ar ad, cB G ac vc, fB G af vf, hB G ah vh, tB G at_ vt, cB G ar vr, fB G ad vd, mB G o v]) 8 [0, 1, 2] [3, 4, 5, 6, 7] [0, 1, 2, 3, 4, 5, 6, 7] [xB ax ac af ah at_ ar ad, cB G ac vc, fB G af vf] rfl (by decide +kernel) rfl rfl rfl (by decide +kernel) rfl) 0 0 rfl rfl rfl (cwV 2 hts gL_law_X4_way rfl rfl rfl hd_X4_way ⟨Nat.le_of_ble_eq_true rfl, Nat.le_of_ble_eq_true rfl⟩) rfl hl.1 rfl (Nat.le_of_ble_eq_true rfl) dL_law_567 ⟨Nat.le_of_ble_eq_true rfl, Nat.le_of_ble_eq_true rfl⟩ (fun H locs hw => ?_)
  refine lv_aload_n hx hb dL_law_570 rfl (lv_at hl 2 rfl) ?_
  refine lv_aload_n hx hb dL_law_571 rfl (lv_at hl 0 rfl) ?_
  refine lv_iload_n hx hb dL_law_572 rfl (lv_at hl 3 rfl) ?_
  refine lv_iconst (v := 1) hx hb dL_law_573 (by decide) ?_
  refine lv_iadd hx hb dL_law_574 ?_
  refine va_sld hx hb hX hbl hbA hw.2.2 h1 dL_law_575 ?_
  refine lv_aload_n hx hb dL_law_576 rfl (lv_at hl 0 rfl) ?_
  refine lv_iload_n hx hb dL_law_577 rfl (lv_at hl 3 rfl) ?_
  refine lv_iconst (v := 2) hx hb dL_law_578 (by decide) ?_
  refine lv_iadd hx hb dL_law_579 ?_
  refine va_sld hx hb hX hbl hbA hw.2.2 h2 dL_law_580 ?_
  refine x_Vi (As := [.int (xs (nI i + 1 : Int32).toNatClampNeg), .int (xs (nI i + 2 : Int32).toNatClampNeg)]) (w' := fl [xB ax ac af ah at_ ar ad, cB G ac vc, fB G af vf, hB G ah vh, tB G at_ vt, cB G ar vr, fB G ad vd, mB G o zm]) X hw (m_X5_way (G := G) (l := l) (o := o) e2) (cut8 (bs' := [xB ax ac af ah at_ ar ad, cB G ac vc, fB G af vf, hB G ah vh, tB G at_ vt, cB G ar vr, fB G ad vd, mB G o zm]) 8 [7] [0, 1, 2, 3, 4, 5, 6] [1, 2, 3, 4, 5, 6, 7, 0] [mB G o zm] rfl (by decide +kernel) rfl rfl rfl (by decide +kernel) rfl) 7 0 rfl rfl rfl (cwV 2 hts gL_law_X5_way rfl rfl rfl hd_X5_way ⟨Nat.le_of_ble_eq_true rfl, Nat.le_of_ble_eq_true rfl⟩) rfl hl.1 rfl (Nat.le_of_ble_eq_true rfl) dL_law_581 ⟨Nat.le_of_ble_eq_true rfl, Nat.le_of_ble_eq_true rfl⟩ (fun H locs hw => ?_)
  refine lv_icmp_eq (tgt := 816) hx hb dL_law_584 (by decide) (fun _ => ?_) (fun z => absurd rfl z)
  exact kk H locs ⟨vc, vf, vh, vt, vr, vd, zm, σ, hw, hC2, hM2, hO⟩

set_option maxHeartbeats 4000000 in
set_option maxRecDepth 100000 in
theorem lc_13 {p : Program} {l : Launch} {e : Env} {s : State} {m : MethodId} {below : List Frame} {meth : Method} {c : Code} {G : GG} {A : Nat → Prop} {b L i : Nat} {xs : Nat → Int32} {ax : Nat} {ac af ah at_ ar ad o : Nat → Nat} {H : Heap} {locs : List Loc} {ls : Array Slot} {Q : State → Prop} (X : Cx p s m #[Value.ref b] meth c cL_law 4 ret wsL_law RL G A) (hX : va_X b L xs s s.heap) (hbl : b < s.heap.size) (hbA : ¬ A b) (hi : i + 4 ≤ L) (hL : L ≤ 2048) (hI : LI G A s ax ac af ah at_ ar ad o H locs) (hl : lv_has ls 4 [(0, .ref b), (1, .ref ax), (2, .ref (o 0)), (3, .int (nI i))]) (kk : ∀ (H : Heap) (locs : List Loc), LI G A s ax ac af ah at_ ar ad o H locs → W p l e room_1 s m #[Value.ref b] below meth c H locs 600000 7302250 Q (F0 m 816 ls [])) : W p l e room_1 s m #[Value.ref b] below meth c H locs 600000 7302250 Q (F0 m 589 ls []) := by
  obtain ⟨⟨hx, hb, hml, hown, hts⟩, hK, hr, hlk, hA⟩ := id X
  obtain ⟨vc, vf, vh, vt, vr, vd, v, σ, hw, hC, hM, hO⟩ := hI
  have h1 : vp_in (nI i + 1 : Int32) L := by rw [show (1 : Int32) = nI 1 from rfl, nI_add]; exact vp_in_nI (by omega) (by omega)
  have e1 := end_c hC.c hC.f hO.S (xs (nI i + 1 : Int32).toNatClampNeg)
  have hC2 := hC
  obtain ⟨zm, e2, hs⟩ := mendq_ok hM.r hO.S (xs (nI i + 1 : Int32).toNatClampNeg)
  have hM2 := hM.same hs
  refine lv_aload_n hx hb dL_law_589 rfl (lv_at hl 1 rfl) ?_
  refine lv_aload_n hx hb dL_law_590 rfl (lv_at hl 0 rfl) ?_
  refine lv_iload_n hx hb dL_law_591 rfl (lv_at hl 3 rfl) ?_
  refine lv_iconst (v := 1) hx hb dL_law_592 (by decide) ?_
  refine lv_iadd hx hb dL_law_593 ?_
  refine va_sld hx hb hX hbl hbA hw.2.2 h1 dL_law_594 ?_
  refine x_Vi (As := [.int (xs (nI i + 1 : Int32).toNatClampNeg)]) (w' := fl [xB ax ac af ah at_ ar ad, cB G ac vc, fB G af vf, hB G ah vh, tB G at_ vt, cB G ar vr, fB G ad vd, mB G o v]) X hw (m_X4_end (G := G) (l := l) (ax := ax) (ac := ac) (af := af) (ah := ah) (at_ := at_) (ar := ar) (ad := ad) e1) (cut8 (bs' := [xB ax ac af ah at_ ar ad, cB G ac vc, fB G af vf, hB G ah vh, tB G at_ vt, cB G ar vr, fB G ad vd, mB G o v]) 8 [0, 1, 2] [3, 4, 5, 6, 7] [0, 1, 2, 3, 4, 5, 6, 7] [xB ax ac af ah at_ ar ad, cB G ac vc, fB G af vf] rfl (by decide +kernel) rfl rfl rfl (by decide +kernel) rfl) 0 0 rfl rfl rfl (cwV 1 hts gL_law_X4_end rfl rfl rfl hd_X4_end ⟨Nat.le_of_ble_eq_true rfl, Nat.le_of_ble_eq_true rfl⟩) rfl hl.1 rfl (Nat.le_of_ble_eq_true rfl) dL_law_595 ⟨Nat.le_of_ble_eq_true rfl, Nat.le_of_ble_eq_true rfl⟩ (fun H locs hw => ?_)
  refine lv_aload_n hx hb dL_law_598 rfl (lv_at hl 2 rfl) ?_
  refine lv_aload_n hx hb dL_law_599 rfl (lv_at hl 0 rfl) ?_
  refine lv_iload_n hx hb dL_law_600 rfl (lv_at hl 3 rfl) ?_
  refine lv_iconst (v := 1) hx hb dL_law_601 (by decide) ?_
  refine lv_iadd hx hb dL_law_602 ?_
  refine va_sld hx hb hX hbl hbA hw.2.2 h1 dL_law_603 ?_
  refine x_Vi (As := [.int (xs (nI i + 1 : Int32).toNatClampNeg)]) (w' := fl [xB ax ac af ah at_ ar ad, cB G ac vc, fB G af vf, hB G ah vh, tB G at_ vt, cB G ar vr, fB G ad vd, mB G o zm]) X hw (m_X5_end (G := G) (l := l) (o := o) e2) (cut8 (bs' := [xB ax ac af ah at_ ar ad, cB G ac vc, fB G af vf, hB G ah vh, tB G at_ vt, cB G ar vr, fB G ad vd, mB G o zm]) 8 [7] [0, 1, 2, 3, 4, 5, 6] [1, 2, 3, 4, 5, 6, 7, 0] [mB G o zm] rfl (by decide +kernel) rfl rfl rfl (by decide +kernel) rfl) 7 0 rfl rfl rfl (cwV 1 hts gL_law_X5_end rfl rfl rfl hd_X5_end ⟨Nat.le_of_ble_eq_true rfl, Nat.le_of_ble_eq_true rfl⟩) rfl hl.1 rfl (Nat.le_of_ble_eq_true rfl) dL_law_604 ⟨Nat.le_of_ble_eq_true rfl, Nat.le_of_ble_eq_true rfl⟩ (fun H locs hw => ?_)
  refine lv_icmp_eq (tgt := 816) hx hb dL_law_607 (by decide) (fun _ => ?_) (fun z => absurd rfl z)
  exact kk H locs ⟨vc, vf, vh, vt, vr, vd, zm, σ, hw, hC2, hM2, hO⟩

set_option maxHeartbeats 4000000 in
set_option maxRecDepth 100000 in
theorem lc_14 {p : Program} {l : Launch} {e : Env} {s : State} {m : MethodId} {below : List Frame} {meth : Method} {c : Code} {G : GG} {A : Nat → Prop} {b L i : Nat} {xs : Nat → Int32} {ax : Nat} {ac af ah at_ ar ad o : Nat → Nat} {H : Heap} {locs : List Loc} {ls : Array Slot} {Q : State → Prop} (X : Cx p s m #[Value.ref b] meth c cL_law 4 ret wsL_law RL G A) (hX : va_X b L xs s s.heap) (hbl : b < s.heap.size) (hbA : ¬ A b) (hi : i + 4 ≤ L) (hL : L ≤ 2048) (hI : LI G A s ax ac af ah at_ ar ad o H locs) (hl : lv_has ls 4 [(0, .ref b), (1, .ref ax), (2, .ref (o 0)), (3, .int (nI i))]) (kk : ∀ (H : Heap) (locs : List Loc), LI G A s ax ac af ah at_ ar ad o H locs → W p l e room_1 s m #[Value.ref b] below meth c H locs 600000 7302250 Q (F0 m 816 ls [])) : W p l e room_1 s m #[Value.ref b] below meth c H locs 600000 7302250 Q (F0 m 612 ls []) := by
  obtain ⟨⟨hx, hb, hml, hown, hts⟩, hK, hr, hlk, hA⟩ := id X
  obtain ⟨vc, vf, vh, vt, vr, vd, v, σ, hw, hC, hM, hO⟩ := hI
  have h1 : vp_in (nI i + 1 : Int32) L := by rw [show (1 : Int32) = nI 1 from rfl, nI_add]; exact vp_in_nI (by omega) (by omega)
  have e1 := gath_c hC.c hC.f hO.S (xs (nI i + 1 : Int32).toNatClampNeg)
  have hC2 := hC
  obtain ⟨zm, e2, hs⟩ := mgath_ok hM.r hO.S (xs (nI i + 1 : Int32).toNatClampNeg)
  have hM2 := hM.same hs
  refine lv_aload_n hx hb dL_law_612 rfl (lv_at hl 1 rfl) ?_
  refine lv_aload_n hx hb dL_law_613 rfl (lv_at hl 0 rfl) ?_
  refine lv_iload_n hx hb dL_law_614 rfl (lv_at hl 3 rfl) ?_
  refine lv_iconst (v := 1) hx hb dL_law_615 (by decide) ?_
  refine lv_iadd hx hb dL_law_616 ?_
  refine va_sld hx hb hX hbl hbA hw.2.2 h1 dL_law_617 ?_
  refine x_Vi (As := [.int (xs (nI i + 1 : Int32).toNatClampNeg)]) (w' := fl [xB ax ac af ah at_ ar ad, cB G ac vc, fB G af vf, hB G ah vh, tB G at_ vt, cB G ar vr, fB G ad vd, mB G o v]) X hw (m_X4_gathers (G := G) (l := l) (ax := ax) (ac := ac) (af := af) (ah := ah) (at_ := at_) (ar := ar) (ad := ad) e1) (cut8 (bs' := [xB ax ac af ah at_ ar ad, cB G ac vc, fB G af vf, hB G ah vh, tB G at_ vt, cB G ar vr, fB G ad vd, mB G o v]) 8 [0, 1, 2] [3, 4, 5, 6, 7] [0, 1, 2, 3, 4, 5, 6, 7] [xB ax ac af ah at_ ar ad, cB G ac vc, fB G af vf] rfl (by decide +kernel) rfl rfl rfl (by decide +kernel) rfl) 0 0 rfl rfl rfl (cwV 1 hts gL_law_X4_gathers rfl rfl rfl hd_X4_gathers ⟨Nat.le_of_ble_eq_true rfl, Nat.le_of_ble_eq_true rfl⟩) rfl hl.1 rfl (Nat.le_of_ble_eq_true rfl) dL_law_618 ⟨Nat.le_of_ble_eq_true rfl, Nat.le_of_ble_eq_true rfl⟩ (fun H locs hw => ?_)
  refine lv_aload_n hx hb dL_law_621 rfl (lv_at hl 2 rfl) ?_
  refine lv_aload_n hx hb dL_law_622 rfl (lv_at hl 0 rfl) ?_
  refine lv_iload_n hx hb dL_law_623 rfl (lv_at hl 3 rfl) ?_
  refine lv_iconst (v := 1) hx hb dL_law_624 (by decide) ?_
  refine lv_iadd hx hb dL_law_625 ?_
  refine va_sld hx hb hX hbl hbA hw.2.2 h1 dL_law_626 ?_
  refine x_Vi (As := [.int (xs (nI i + 1 : Int32).toNatClampNeg)]) (w' := fl [xB ax ac af ah at_ ar ad, cB G ac vc, fB G af vf, hB G ah vh, tB G at_ vt, cB G ar vr, fB G ad vd, mB G o zm]) X hw (m_X5_gathers (G := G) (l := l) (o := o) e2) (cut8 (bs' := [xB ax ac af ah at_ ar ad, cB G ac vc, fB G af vf, hB G ah vh, tB G at_ vt, cB G ar vr, fB G ad vd, mB G o zm]) 8 [7] [0, 1, 2, 3, 4, 5, 6] [1, 2, 3, 4, 5, 6, 7, 0] [mB G o zm] rfl (by decide +kernel) rfl rfl rfl (by decide +kernel) rfl) 7 0 rfl rfl rfl (cwV 1 hts gL_law_X5_gathers rfl rfl rfl hd_X5_gathers ⟨Nat.le_of_ble_eq_true rfl, Nat.le_of_ble_eq_true rfl⟩) rfl hl.1 rfl (Nat.le_of_ble_eq_true rfl) dL_law_627 ⟨Nat.le_of_ble_eq_true rfl, Nat.le_of_ble_eq_true rfl⟩ (fun H locs hw => ?_)
  refine lv_icmp_eq (tgt := 816) hx hb dL_law_630 (by decide) (fun _ => ?_) (fun z => absurd rfl z)
  exact kk H locs ⟨vc, vf, vh, vt, vr, vd, zm, σ, hw, hC2, hM2, hO⟩

set_option maxHeartbeats 4000000 in
set_option maxRecDepth 100000 in
theorem lc_15 {p : Program} {l : Launch} {e : Env} {s : State} {m : MethodId} {below : List Frame} {meth : Method} {c : Code} {G : GG} {A : Nat → Prop} {b L i : Nat} {xs : Nat → Int32} {ax : Nat} {ac af ah at_ ar ad o : Nat → Nat} {H : Heap} {locs : List Loc} {ls : Array Slot} {Q : State → Prop} (X : Cx p s m #[Value.ref b] meth c cL_law 4 ret wsL_law RL G A) (hX : va_X b L xs s s.heap) (hbl : b < s.heap.size) (hbA : ¬ A b) (hi : i + 4 ≤ L) (hL : L ≤ 2048) (hI : LI G A s ax ac af ah at_ ar ad o H locs) (hl : lv_has ls 4 [(0, .ref b), (1, .ref ax), (2, .ref (o 0)), (3, .int (nI i))]) (kk : ∀ (H : Heap) (locs : List Loc), LI G A s ax ac af ah at_ ar ad o H locs → W p l e room_1 s m #[Value.ref b] below meth c H locs 600000 7302250 Q (F0 m 816 ls [])) : W p l e room_1 s m #[Value.ref b] below meth c H locs 600000 7302250 Q (F0 m 635 ls []) := by
  obtain ⟨⟨hx, hb, hml, hown, hts⟩, hK, hr, hlk, hA⟩ := id X
  obtain ⟨vc, vf, vh, vt, vr, vd, v, σ, hw, hC, hM, hO⟩ := hI
  have h1 : vp_in (nI i + 1 : Int32) L := by rw [show (1 : Int32) = nI 1 from rfl, nI_add]; exact vp_in_nI (by omega) (by omega)
  obtain ⟨zr, zd, e1⟩ := lf_c (vr := vr) (vd := vd) hC.c hO.S (xs (nI i + 1 : Int32).toNatClampNeg)
  have hC2 := hC
  obtain ⟨zm, e2, hM2⟩ := mlf_ok hM hO (xs (nI i + 1 : Int32).toNatClampNeg)
  refine lv_aload_n hx hb dL_law_635 rfl (lv_at hl 1 rfl) ?_
  refine lv_aload_n hx hb dL_law_636 rfl (lv_at hl 0 rfl) ?_
  refine lv_iload_n hx hb dL_law_637 rfl (lv_at hl 3 rfl) ?_
  refine lv_iconst (v := 1) hx hb dL_law_638 (by decide) ?_
  refine lv_iadd hx hb dL_law_639 ?_
  refine va_sld hx hb hX hbl hbA hw.2.2 h1 dL_law_640 ?_
  refine x_Vi (As := [.int (xs (nI i + 1 : Int32).toNatClampNeg)]) (w' := fl [xB ax ac af ah at_ ar ad, cB G ac vc, fB G af vf, hB G ah vh, tB G at_ vt, cB G ar zr, fB G ad zd, mB G o v]) X hw (m_X4_leastFeeder (G := G) (l := l) (ax := ax) (ac := ac) (af := af) (ah := ah) (at_ := at_) (ar := ar) (ad := ad) e1) (cut8 (bs' := [xB ax ac af ah at_ ar ad, cB G ac vc, fB G af vf, hB G ah vh, tB G at_ vt, cB G ar zr, fB G ad zd, mB G o v]) 8 [0, 1, 5, 6] [2, 3, 4, 7] [0, 1, 4, 5, 6, 2, 3, 7] [xB ax ac af ah at_ ar ad, cB G ac vc, cB G ar zr, fB G ad zd] rfl (by decide +kernel) rfl rfl rfl (by decide +kernel) rfl) 0 0 rfl rfl rfl (cwV 1 hts gL_law_X4_leastFeeder rfl rfl rfl hd_X4_leastFeeder ⟨Nat.le_of_ble_eq_true rfl, Nat.le_of_ble_eq_true rfl⟩) rfl hl.1 rfl (Nat.le_of_ble_eq_true rfl) dL_law_641 ⟨Nat.le_of_ble_eq_true rfl, Nat.le_of_ble_eq_true rfl⟩ (fun H locs hw => ?_)
  refine lv_aload_n hx hb dL_law_644 rfl (lv_at hl 2 rfl) ?_
  refine lv_aload_n hx hb dL_law_645 rfl (lv_at hl 0 rfl) ?_
  refine lv_iload_n hx hb dL_law_646 rfl (lv_at hl 3 rfl) ?_
  refine lv_iconst (v := 1) hx hb dL_law_647 (by decide) ?_
  refine lv_iadd hx hb dL_law_648 ?_
  refine va_sld hx hb hX hbl hbA hw.2.2 h1 dL_law_649 ?_
  refine x_Vi (As := [.int (xs (nI i + 1 : Int32).toNatClampNeg)]) (w' := fl [xB ax ac af ah at_ ar ad, cB G ac vc, fB G af vf, hB G ah vh, tB G at_ vt, cB G ar zr, fB G ad zd, mB G o zm]) X hw (m_X5_leastFeeder (G := G) (l := l) (o := o) e2) (cut8 (bs' := [xB ax ac af ah at_ ar ad, cB G ac vc, fB G af vf, hB G ah vh, tB G at_ vt, cB G ar zr, fB G ad zd, mB G o zm]) 8 [7] [0, 1, 2, 3, 4, 5, 6] [1, 2, 3, 4, 5, 6, 7, 0] [mB G o zm] rfl (by decide +kernel) rfl rfl rfl (by decide +kernel) rfl) 7 0 rfl rfl rfl (cwV 1 hts gL_law_X5_leastFeeder rfl rfl rfl hd_X5_leastFeeder ⟨Nat.le_of_ble_eq_true rfl, Nat.le_of_ble_eq_true rfl⟩) rfl hl.1 rfl (Nat.le_of_ble_eq_true rfl) dL_law_650 ⟨Nat.le_of_ble_eq_true rfl, Nat.le_of_ble_eq_true rfl⟩ (fun H locs hw => ?_)
  refine lv_icmp_eq (tgt := 816) hx hb dL_law_653 (by decide) (fun _ => ?_) (fun z => absurd rfl z)
  exact kk H locs ⟨vc, vf, vh, vt, zr, zd, zm, σ, hw, hC2, hM2, hO⟩

set_option maxHeartbeats 4000000 in
set_option maxRecDepth 100000 in
theorem lc_16 {p : Program} {l : Launch} {e : Env} {s : State} {m : MethodId} {below : List Frame} {meth : Method} {c : Code} {G : GG} {A : Nat → Prop} {b L i : Nat} {xs : Nat → Int32} {ax : Nat} {ac af ah at_ ar ad o : Nat → Nat} {H : Heap} {locs : List Loc} {ls : Array Slot} {Q : State → Prop} (X : Cx p s m #[Value.ref b] meth c cL_law 4 ret wsL_law RL G A) (hX : va_X b L xs s s.heap) (hbl : b < s.heap.size) (hbA : ¬ A b) (hi : i + 4 ≤ L) (hL : L ≤ 2048) (hI : LI G A s ax ac af ah at_ ar ad o H locs) (hl : lv_has ls 4 [(0, .ref b), (1, .ref ax), (2, .ref (o 0)), (3, .int (nI i))]) (kk : ∀ (H : Heap) (locs : List Loc), LI G A s ax ac af ah at_ ar ad o H locs → W p l e room_1 s m #[Value.ref b] below meth c H locs 600000 7302250 Q (F0 m 816 ls [])) : W p l e room_1 s m #[Value.ref b] below meth c H locs 600000 7302250 Q (F0 m 658 ls []) := by
  obtain ⟨⟨hx, hb, hml, hown, hts⟩, hK, hr, hlk, hA⟩ := id X
  obtain ⟨vc, vf, vh, vt, vr, vd, v, σ, hw, hC, hM, hO⟩ := hI
  obtain ⟨zr, zd, e1⟩ := bestFeeder_ok (vr := vr) (vd := vd) hC.c hO.S
  have hC2 := hC
  obtain ⟨zm, e2, hM2⟩ := mbf_ok hM hO
  refine lv_aload_n hx hb dL_law_658 rfl (lv_at hl 1 rfl) ?_
  refine x_Vi (As := []) (w' := fl [xB ax ac af ah at_ ar ad, cB G ac vc, fB G af vf, hB G ah vh, tB G at_ vt, cB G ar zr, fB G ad zd, mB G o v]) X hw (m_X4_bestFeeder (G := G) (l := l) (ax := ax) (ac := ac) (af := af) (ah := ah) (at_ := at_) (ar := ar) (ad := ad) e1) (cut8 (bs' := [xB ax ac af ah at_ ar ad, cB G ac vc, fB G af vf, hB G ah vh, tB G at_ vt, cB G ar zr, fB G ad zd, mB G o v]) 8 [0, 1, 5, 6] [2, 3, 4, 7] [0, 1, 4, 5, 6, 2, 3, 7] [xB ax ac af ah at_ ar ad, cB G ac vc, cB G ar zr, fB G ad zd] rfl (by decide +kernel) rfl rfl rfl (by decide +kernel) rfl) 0 0 rfl rfl rfl (cwV 0 hts gL_law_X4_bestFeeder rfl rfl rfl hd_X4_bestFeeder ⟨Nat.le_of_ble_eq_true rfl, Nat.le_of_ble_eq_true rfl⟩) rfl hl.1 rfl (Nat.le_of_ble_eq_true rfl) dL_law_659 ⟨Nat.le_of_ble_eq_true rfl, Nat.le_of_ble_eq_true rfl⟩ (fun H locs hw => ?_)
  refine lv_aload_n hx hb dL_law_662 rfl (lv_at hl 2 rfl) ?_
  refine x_Vi (As := []) (w' := fl [xB ax ac af ah at_ ar ad, cB G ac vc, fB G af vf, hB G ah vh, tB G at_ vt, cB G ar zr, fB G ad zd, mB G o zm]) X hw (m_X5_bestFeeder (G := G) (l := l) (o := o) e2) (cut8 (bs' := [xB ax ac af ah at_ ar ad, cB G ac vc, fB G af vf, hB G ah vh, tB G at_ vt, cB G ar zr, fB G ad zd, mB G o zm]) 8 [7] [0, 1, 2, 3, 4, 5, 6] [1, 2, 3, 4, 5, 6, 7, 0] [mB G o zm] rfl (by decide +kernel) rfl rfl rfl (by decide +kernel) rfl) 7 0 rfl rfl rfl (cwV 0 hts gL_law_X5_bestFeeder rfl rfl rfl hd_X5_bestFeeder ⟨Nat.le_of_ble_eq_true rfl, Nat.le_of_ble_eq_true rfl⟩) rfl hl.1 rfl (Nat.le_of_ble_eq_true rfl) dL_law_663 ⟨Nat.le_of_ble_eq_true rfl, Nat.le_of_ble_eq_true rfl⟩ (fun H locs hw => ?_)
  refine lv_icmp_eq (tgt := 816) hx hb dL_law_666 (by decide) (fun _ => ?_) (fun z => absurd rfl z)
  exact kk H locs ⟨vc, vf, vh, vt, zr, zd, zm, σ, hw, hC2, hM2, hO⟩

set_option maxHeartbeats 4000000 in
set_option maxRecDepth 100000 in
theorem lc_17 {p : Program} {l : Launch} {e : Env} {s : State} {m : MethodId} {below : List Frame} {meth : Method} {c : Code} {G : GG} {A : Nat → Prop} {b L i : Nat} {xs : Nat → Int32} {ax : Nat} {ac af ah at_ ar ad o : Nat → Nat} {H : Heap} {locs : List Loc} {ls : Array Slot} {Q : State → Prop} (X : Cx p s m #[Value.ref b] meth c cL_law 4 ret wsL_law RL G A) (hX : va_X b L xs s s.heap) (hbl : b < s.heap.size) (hbA : ¬ A b) (hi : i + 4 ≤ L) (hL : L ≤ 2048) (hI : LI G A s ax ac af ah at_ ar ad o H locs) (hl : lv_has ls 4 [(0, .ref b), (1, .ref ax), (2, .ref (o 0)), (3, .int (nI i))]) (kk : ∀ (H : Heap) (locs : List Loc), LI G A s ax ac af ah at_ ar ad o H locs → W p l e room_1 s m #[Value.ref b] below meth c H locs 600000 7302250 Q (F0 m 816 ls [])) : W p l e room_1 s m #[Value.ref b] below meth c H locs 600000 7302250 Q (F0 m 671 ls []) := by
  obtain ⟨⟨hx, hb, hml, hown, hts⟩, hK, hr, hlk, hA⟩ := id X
  obtain ⟨vc, vf, vh, vt, vr, vd, v, σ, hw, hC, hM, hO⟩ := hI
  have h1 : vp_in (nI i + 1 : Int32) L := by rw [show (1 : Int32) = nI 1 from rfl, nI_add]; exact vp_in_nI (by omega) (by omega)
  obtain ⟨zr, zd, e1⟩ := lc_c (vr := vr) (vd := vd) hC.c hO.S (xs (nI i + 1 : Int32).toNatClampNeg)
  have hC2 := hC
  obtain ⟨zm, e2, hM2⟩ := mlc_ok hM hO (xs (nI i + 1 : Int32).toNatClampNeg)
  refine lv_aload_n hx hb dL_law_671 rfl (lv_at hl 1 rfl) ?_
  refine lv_aload_n hx hb dL_law_672 rfl (lv_at hl 0 rfl) ?_
  refine lv_iload_n hx hb dL_law_673 rfl (lv_at hl 3 rfl) ?_
  refine lv_iconst (v := 1) hx hb dL_law_674 (by decide) ?_
  refine lv_iadd hx hb dL_law_675 ?_
  refine va_sld hx hb hX hbl hbA hw.2.2 h1 dL_law_676 ?_
  refine x_Vi (As := [.int (xs (nI i + 1 : Int32).toNatClampNeg)]) (w' := fl [xB ax ac af ah at_ ar ad, cB G ac vc, fB G af vf, hB G ah vh, tB G at_ vt, cB G ar zr, fB G ad zd, mB G o v]) X hw (m_X4_leastChill (G := G) (l := l) (ax := ax) (ac := ac) (af := af) (ah := ah) (at_ := at_) (ar := ar) (ad := ad) e1) (cut8 (bs' := [xB ax ac af ah at_ ar ad, cB G ac vc, fB G af vf, hB G ah vh, tB G at_ vt, cB G ar zr, fB G ad zd, mB G o v]) 8 [0, 1, 5, 6] [2, 3, 4, 7] [0, 1, 4, 5, 6, 2, 3, 7] [xB ax ac af ah at_ ar ad, cB G ac vc, cB G ar zr, fB G ad zd] rfl (by decide +kernel) rfl rfl rfl (by decide +kernel) rfl) 0 0 rfl rfl rfl (cwV 1 hts gL_law_X4_leastChill rfl rfl rfl hd_X4_leastChill ⟨Nat.le_of_ble_eq_true rfl, Nat.le_of_ble_eq_true rfl⟩) rfl hl.1 rfl (Nat.le_of_ble_eq_true rfl) dL_law_677 ⟨Nat.le_of_ble_eq_true rfl, Nat.le_of_ble_eq_true rfl⟩ (fun H locs hw => ?_)
  refine lv_aload_n hx hb dL_law_680 rfl (lv_at hl 2 rfl) ?_
  refine lv_aload_n hx hb dL_law_681 rfl (lv_at hl 0 rfl) ?_
  refine lv_iload_n hx hb dL_law_682 rfl (lv_at hl 3 rfl) ?_
  refine lv_iconst (v := 1) hx hb dL_law_683 (by decide) ?_
  refine lv_iadd hx hb dL_law_684 ?_
  refine va_sld hx hb hX hbl hbA hw.2.2 h1 dL_law_685 ?_
  refine x_Vi (As := [.int (xs (nI i + 1 : Int32).toNatClampNeg)]) (w' := fl [xB ax ac af ah at_ ar ad, cB G ac vc, fB G af vf, hB G ah vh, tB G at_ vt, cB G ar zr, fB G ad zd, mB G o zm]) X hw (m_X5_leastChill (G := G) (l := l) (o := o) e2) (cut8 (bs' := [xB ax ac af ah at_ ar ad, cB G ac vc, fB G af vf, hB G ah vh, tB G at_ vt, cB G ar zr, fB G ad zd, mB G o zm]) 8 [7] [0, 1, 2, 3, 4, 5, 6] [1, 2, 3, 4, 5, 6, 7, 0] [mB G o zm] rfl (by decide +kernel) rfl rfl rfl (by decide +kernel) rfl) 7 0 rfl rfl rfl (cwV 1 hts gL_law_X5_leastChill rfl rfl rfl hd_X5_leastChill ⟨Nat.le_of_ble_eq_true rfl, Nat.le_of_ble_eq_true rfl⟩) rfl hl.1 rfl (Nat.le_of_ble_eq_true rfl) dL_law_686 ⟨Nat.le_of_ble_eq_true rfl, Nat.le_of_ble_eq_true rfl⟩ (fun H locs hw => ?_)
  refine lv_icmp_eq (tgt := 816) hx hb dL_law_689 (by decide) (fun _ => ?_) (fun z => absurd rfl z)
  exact kk H locs ⟨vc, vf, vh, vt, zr, zd, zm, σ, hw, hC2, hM2, hO⟩

set_option maxHeartbeats 4000000 in
set_option maxRecDepth 100000 in
theorem lc_18 {p : Program} {l : Launch} {e : Env} {s : State} {m : MethodId} {below : List Frame} {meth : Method} {c : Code} {G : GG} {A : Nat → Prop} {b L i : Nat} {xs : Nat → Int32} {ax : Nat} {ac af ah at_ ar ad o : Nat → Nat} {H : Heap} {locs : List Loc} {ls : Array Slot} {Q : State → Prop} (X : Cx p s m #[Value.ref b] meth c cL_law 4 ret wsL_law RL G A) (hX : va_X b L xs s s.heap) (hbl : b < s.heap.size) (hbA : ¬ A b) (hi : i + 4 ≤ L) (hL : L ≤ 2048) (hI : LI G A s ax ac af ah at_ ar ad o H locs) (hl : lv_has ls 4 [(0, .ref b), (1, .ref ax), (2, .ref (o 0)), (3, .int (nI i))]) (kk : ∀ (H : Heap) (locs : List Loc), LI G A s ax ac af ah at_ ar ad o H locs → W p l e room_1 s m #[Value.ref b] below meth c H locs 600000 7302250 Q (F0 m 816 ls [])) : W p l e room_1 s m #[Value.ref b] below meth c H locs 600000 7302250 Q (F0 m 694 ls []) := by
  obtain ⟨⟨hx, hb, hml, hown, hts⟩, hK, hr, hlk, hA⟩ := id X
  obtain ⟨vc, vf, vh, vt, vr, vd, v, σ, hw, hC, hM, hO⟩ := hI
  have h1 : vp_in (nI i + 1 : Int32) L := by rw [show (1 : Int32) = nI 1 from rfl, nI_add]; exact vp_in_nI (by omega) (by omega)
  have h2 : vp_in (nI i + 2 : Int32) L := by rw [show (2 : Int32) = nI 2 from rfl, nI_add]; exact vp_in_nI (by omega) (by omega)
  obtain ⟨zr, zd, e1⟩ := xw_c (vr := vr) (vd := vd) hC.c hO.S (xs (nI i + 1 : Int32).toNatClampNeg) (xs (nI i + 2 : Int32).toNatClampNeg)
  have hC2 := hC
  obtain ⟨zm, e2, hM2⟩ := mexw_ok hM hO (xs (nI i + 1 : Int32).toNatClampNeg) (xs (nI i + 2 : Int32).toNatClampNeg)
  refine lv_aload_n hx hb dL_law_694 rfl (lv_at hl 1 rfl) ?_
  refine lv_aload_n hx hb dL_law_695 rfl (lv_at hl 0 rfl) ?_
  refine lv_iload_n hx hb dL_law_696 rfl (lv_at hl 3 rfl) ?_
  refine lv_iconst (v := 1) hx hb dL_law_697 (by decide) ?_
  refine lv_iadd hx hb dL_law_698 ?_
  refine va_sld hx hb hX hbl hbA hw.2.2 h1 dL_law_699 ?_
  refine lv_aload_n hx hb dL_law_700 rfl (lv_at hl 0 rfl) ?_
  refine lv_iload_n hx hb dL_law_701 rfl (lv_at hl 3 rfl) ?_
  refine lv_iconst (v := 2) hx hb dL_law_702 (by decide) ?_
  refine lv_iadd hx hb dL_law_703 ?_
  refine va_sld hx hb hX hbl hbA hw.2.2 h2 dL_law_704 ?_
  refine x_Vi (As := [.int (xs (nI i + 1 : Int32).toNatClampNeg), .int (xs (nI i + 2 : Int32).toNatClampNeg)]) (w' := fl [xB ax ac af ah at_ ar ad, cB G ac vc, fB G af vf, hB G ah vh, tB G at_ vt, cB G ar zr, fB G ad zd, mB G o v]) X hw (m_X4_excessWith (G := G) (l := l) (ax := ax) (ac := ac) (af := af) (ah := ah) (at_ := at_) (ar := ar) (ad := ad) e1) (cut8 (bs' := [xB ax ac af ah at_ ar ad, cB G ac vc, fB G af vf, hB G ah vh, tB G at_ vt, cB G ar zr, fB G ad zd, mB G o v]) 8 [0, 1, 5, 6] [2, 3, 4, 7] [0, 1, 4, 5, 6, 2, 3, 7] [xB ax ac af ah at_ ar ad, cB G ac vc, cB G ar zr, fB G ad zd] rfl (by decide +kernel) rfl rfl rfl (by decide +kernel) rfl) 0 0 rfl rfl rfl (cwV 2 hts gL_law_X4_excessWith rfl rfl rfl hd_X4_excessWith ⟨Nat.le_of_ble_eq_true rfl, Nat.le_of_ble_eq_true rfl⟩) rfl hl.1 rfl (Nat.le_of_ble_eq_true rfl) dL_law_705 ⟨Nat.le_of_ble_eq_true rfl, Nat.le_of_ble_eq_true rfl⟩ (fun H locs hw => ?_)
  refine lv_aload_n hx hb dL_law_708 rfl (lv_at hl 2 rfl) ?_
  refine lv_aload_n hx hb dL_law_709 rfl (lv_at hl 0 rfl) ?_
  refine lv_iload_n hx hb dL_law_710 rfl (lv_at hl 3 rfl) ?_
  refine lv_iconst (v := 1) hx hb dL_law_711 (by decide) ?_
  refine lv_iadd hx hb dL_law_712 ?_
  refine va_sld hx hb hX hbl hbA hw.2.2 h1 dL_law_713 ?_
  refine lv_aload_n hx hb dL_law_714 rfl (lv_at hl 0 rfl) ?_
  refine lv_iload_n hx hb dL_law_715 rfl (lv_at hl 3 rfl) ?_
  refine lv_iconst (v := 2) hx hb dL_law_716 (by decide) ?_
  refine lv_iadd hx hb dL_law_717 ?_
  refine va_sld hx hb hX hbl hbA hw.2.2 h2 dL_law_718 ?_
  refine x_Vi (As := [.int (xs (nI i + 1 : Int32).toNatClampNeg), .int (xs (nI i + 2 : Int32).toNatClampNeg)]) (w' := fl [xB ax ac af ah at_ ar ad, cB G ac vc, fB G af vf, hB G ah vh, tB G at_ vt, cB G ar zr, fB G ad zd, mB G o zm]) X hw (m_X5_excessWith (G := G) (l := l) (o := o) e2) (cut8 (bs' := [xB ax ac af ah at_ ar ad, cB G ac vc, fB G af vf, hB G ah vh, tB G at_ vt, cB G ar zr, fB G ad zd, mB G o zm]) 8 [7] [0, 1, 2, 3, 4, 5, 6] [1, 2, 3, 4, 5, 6, 7, 0] [mB G o zm] rfl (by decide +kernel) rfl rfl rfl (by decide +kernel) rfl) 7 0 rfl rfl rfl (cwV 2 hts gL_law_X5_excessWith rfl rfl rfl hd_X5_excessWith ⟨Nat.le_of_ble_eq_true rfl, Nat.le_of_ble_eq_true rfl⟩) rfl hl.1 rfl (Nat.le_of_ble_eq_true rfl) dL_law_719 ⟨Nat.le_of_ble_eq_true rfl, Nat.le_of_ble_eq_true rfl⟩ (fun H locs hw => ?_)
  refine lv_icmp_eq (tgt := 816) hx hb dL_law_722 (by decide) (fun _ => ?_) (fun z => absurd rfl z)
  exact kk H locs ⟨vc, vf, vh, vt, zr, zd, zm, σ, hw, hC2, hM2, hO⟩

set_option maxHeartbeats 4000000 in
set_option maxRecDepth 100000 in
theorem lc_19 {p : Program} {l : Launch} {e : Env} {s : State} {m : MethodId} {below : List Frame} {meth : Method} {c : Code} {G : GG} {A : Nat → Prop} {b L i : Nat} {xs : Nat → Int32} {ax : Nat} {ac af ah at_ ar ad o : Nat → Nat} {H : Heap} {locs : List Loc} {ls : Array Slot} {Q : State → Prop} (X : Cx p s m #[Value.ref b] meth c cL_law 4 ret wsL_law RL G A) (hX : va_X b L xs s s.heap) (hbl : b < s.heap.size) (hbA : ¬ A b) (hi : i + 4 ≤ L) (hL : L ≤ 2048) (hI : LI G A s ax ac af ah at_ ar ad o H locs) (hl : lv_has ls 4 [(0, .ref b), (1, .ref ax), (2, .ref (o 0)), (3, .int (nI i))]) (kk : ∀ (H : Heap) (locs : List Loc), LI G A s ax ac af ah at_ ar ad o H locs → W p l e room_1 s m #[Value.ref b] below meth c H locs 600000 7302250 Q (F0 m 816 ls [])) : W p l e room_1 s m #[Value.ref b] below meth c H locs 600000 7302250 Q (F0 m 727 ls []) := by
  obtain ⟨⟨hx, hb, hml, hown, hts⟩, hK, hr, hlk, hA⟩ := id X
  obtain ⟨vc, vf, vh, vt, vr, vd, v, σ, hw, hC, hM, hO⟩ := hI
  obtain ⟨zc, zf, zh, e1, hC2⟩ := undo_c hC hO
  obtain ⟨zm, e2, hM2⟩ := undo_m hM hO
  refine lv_aload_n hx hb dL_law_727 rfl (lv_at hl 1 rfl) ?_
  refine x_Vi (As := []) (w' := fl [xB ax ac af ah at_ ar ad, cB G ac zc, fB G af zf, hB G ah zh, tB G at_ vt, cB G ar vr, fB G ad vd, mB G o v]) X hw (m_X4_undo (G := G) (l := l) (ax := ax) (ac := ac) (af := af) (ah := ah) (at_ := at_) (ar := ar) (ad := ad) e1) (cut8 (bs' := [xB ax ac af ah at_ ar ad, cB G ac zc, fB G af zf, hB G ah zh, tB G at_ vt, cB G ar vr, fB G ad vd, mB G o v]) 8 [0, 1, 2, 3] [4, 5, 6, 7] [0, 1, 2, 3, 4, 5, 6, 7] [xB ax ac af ah at_ ar ad, cB G ac zc, fB G af zf, hB G ah zh] rfl (by decide +kernel) rfl rfl rfl (by decide +kernel) rfl) 0 0 rfl rfl rfl (cwV 0 hts gL_law_X4_undo rfl rfl rfl hd_X4_undo ⟨Nat.le_of_ble_eq_true rfl, Nat.le_of_ble_eq_true rfl⟩) rfl hl.1 rfl (Nat.le_of_ble_eq_true rfl) dL_law_728 ⟨Nat.le_of_ble_eq_true rfl, Nat.le_of_ble_eq_true rfl⟩ (fun H locs hw => ?_)
  refine lv_aload_n hx hb dL_law_731 rfl (lv_at hl 2 rfl) ?_
  refine x_Vi (As := []) (w' := fl [xB ax ac af ah at_ ar ad, cB G ac zc, fB G af zf, hB G ah zh, tB G at_ vt, cB G ar vr, fB G ad vd, mB G o zm]) X hw (m_X5_undo (G := G) (l := l) (o := o) e2) (cut8 (bs' := [xB ax ac af ah at_ ar ad, cB G ac zc, fB G af zf, hB G ah zh, tB G at_ vt, cB G ar vr, fB G ad vd, mB G o zm]) 8 [7] [0, 1, 2, 3, 4, 5, 6] [1, 2, 3, 4, 5, 6, 7, 0] [mB G o zm] rfl (by decide +kernel) rfl rfl rfl (by decide +kernel) rfl) 7 0 rfl rfl rfl (cwV 0 hts gL_law_X5_undo rfl rfl rfl hd_X5_undo ⟨Nat.le_of_ble_eq_true rfl, Nat.le_of_ble_eq_true rfl⟩) rfl hl.1 rfl (Nat.le_of_ble_eq_true rfl) dL_law_732 ⟨Nat.le_of_ble_eq_true rfl, Nat.le_of_ble_eq_true rfl⟩ (fun H locs hw => ?_)
  refine lv_icmp_eq (tgt := 816) hx hb dL_law_735 (by decide) (fun _ => ?_) (fun z => absurd rfl z)
  exact kk H locs ⟨zc, zf, zh, vt, vr, vd, zm, (spUndo σ).2, hw, hC2, hM2, spUndo_ok hO⟩

set_option maxHeartbeats 4000000 in
set_option maxRecDepth 100000 in
theorem lc_20 {p : Program} {l : Launch} {e : Env} {s : State} {m : MethodId} {below : List Frame} {meth : Method} {c : Code} {G : GG} {A : Nat → Prop} {b L i : Nat} {xs : Nat → Int32} {ax : Nat} {ac af ah at_ ar ad o : Nat → Nat} {H : Heap} {locs : List Loc} {ls : Array Slot} {Q : State → Prop} (X : Cx p s m #[Value.ref b] meth c cL_law 4 ret wsL_law RL G A) (hX : va_X b L xs s s.heap) (hbl : b < s.heap.size) (hbA : ¬ A b) (hi : i + 4 ≤ L) (hL : L ≤ 2048) (hI : LI G A s ax ac af ah at_ ar ad o H locs) (hl : lv_has ls 4 [(0, .ref b), (1, .ref ax), (2, .ref (o 0)), (3, .int (nI i))]) (kk : ∀ (H : Heap) (locs : List Loc), LI G A s ax ac af ah at_ ar ad o H locs → W p l e room_1 s m #[Value.ref b] below meth c H locs 600000 7302250 Q (F0 m 816 ls [])) : W p l e room_1 s m #[Value.ref b] below meth c H locs 600000 7302250 Q (F0 m 740 ls []) := by
  obtain ⟨⟨hx, hb, hml, hown, hts⟩, hK, hr, hlk, hA⟩ := id X
  obtain ⟨vc, vf, vh, vt, vr, vd, v, σ, hw, hC, hM, hO⟩ := hI
  have h1 : vp_in (nI i + 1 : Int32) L := by rw [show (1 : Int32) = nI 1 from rfl, nI_add]; exact vp_in_nI (by omega) (by omega)
  obtain ⟨zt, e1, hC2⟩ := type_c hC hO (x := (xs (nI i + 1 : Int32).toNatClampNeg))
  obtain ⟨zm, e2, hM2⟩ := type_m hM hO (x := (xs (nI i + 1 : Int32).toNatClampNeg))
  refine lv_aload_n hx hb dL_law_740 rfl (lv_at hl 1 rfl) ?_
  refine lv_aload_n hx hb dL_law_741 rfl (lv_at hl 0 rfl) ?_
  refine lv_iload_n hx hb dL_law_742 rfl (lv_at hl 3 rfl) ?_
  refine lv_iconst (v := 1) hx hb dL_law_743 (by decide) ?_
  refine lv_iadd hx hb dL_law_744 ?_
  refine va_sld hx hb hX hbl hbA hw.2.2 h1 dL_law_745 ?_
  refine x_Vi (As := [.int (xs (nI i + 1 : Int32).toNatClampNeg)]) (w' := fl [xB ax ac af ah at_ ar ad, cB G ac vc, fB G af vf, hB G ah vh, tB G at_ zt, cB G ar vr, fB G ad vd, mB G o v]) X hw (m_X4_type (G := G) (l := l) (ax := ax) (ac := ac) (af := af) (ah := ah) (at_ := at_) (ar := ar) (ad := ad) e1) (cut8 (bs' := [xB ax ac af ah at_ ar ad, cB G ac vc, fB G af vf, hB G ah vh, tB G at_ zt, cB G ar vr, fB G ad vd, mB G o v]) 8 [0, 4] [1, 2, 3, 5, 6, 7] [0, 2, 3, 4, 1, 5, 6, 7] [xB ax ac af ah at_ ar ad, tB G at_ zt] rfl (by decide +kernel) rfl rfl rfl (by decide +kernel) rfl) 0 0 rfl rfl rfl (cwV 1 hts gL_law_X4_type rfl rfl rfl hd_X4_type ⟨Nat.le_of_ble_eq_true rfl, Nat.le_of_ble_eq_true rfl⟩) rfl hl.1 rfl (Nat.le_of_ble_eq_true rfl) dL_law_746 ⟨Nat.le_of_ble_eq_true rfl, Nat.le_of_ble_eq_true rfl⟩ (fun H locs hw => ?_)
  refine lv_aload_n hx hb dL_law_749 rfl (lv_at hl 2 rfl) ?_
  refine lv_aload_n hx hb dL_law_750 rfl (lv_at hl 0 rfl) ?_
  refine lv_iload_n hx hb dL_law_751 rfl (lv_at hl 3 rfl) ?_
  refine lv_iconst (v := 1) hx hb dL_law_752 (by decide) ?_
  refine lv_iadd hx hb dL_law_753 ?_
  refine va_sld hx hb hX hbl hbA hw.2.2 h1 dL_law_754 ?_
  refine x_Vi (As := [.int (xs (nI i + 1 : Int32).toNatClampNeg)]) (w' := fl [xB ax ac af ah at_ ar ad, cB G ac vc, fB G af vf, hB G ah vh, tB G at_ zt, cB G ar vr, fB G ad vd, mB G o zm]) X hw (m_X5_type (G := G) (l := l) (o := o) e2) (cut8 (bs' := [xB ax ac af ah at_ ar ad, cB G ac vc, fB G af vf, hB G ah vh, tB G at_ zt, cB G ar vr, fB G ad vd, mB G o zm]) 8 [7] [0, 1, 2, 3, 4, 5, 6] [1, 2, 3, 4, 5, 6, 7, 0] [mB G o zm] rfl (by decide +kernel) rfl rfl rfl (by decide +kernel) rfl) 7 0 rfl rfl rfl (cwV 1 hts gL_law_X5_type rfl rfl rfl hd_X5_type ⟨Nat.le_of_ble_eq_true rfl, Nat.le_of_ble_eq_true rfl⟩) rfl hl.1 rfl (Nat.le_of_ble_eq_true rfl) dL_law_755 ⟨Nat.le_of_ble_eq_true rfl, Nat.le_of_ble_eq_true rfl⟩ (fun H locs hw => ?_)
  refine lv_icmp_eq (tgt := 816) hx hb dL_law_758 (by decide) (fun _ => ?_) (fun z => absurd rfl z)
  exact kk H locs ⟨vc, vf, vh, zt, vr, vd, zm, (spType σ (xs (nI i + 1 : Int32).toNatClampNeg)).2, hw, hC2, hM2, spType_ok hO (x := (xs (nI i + 1 : Int32).toNatClampNeg))⟩

set_option maxHeartbeats 4000000 in
set_option maxRecDepth 100000 in
theorem lc_21 {p : Program} {l : Launch} {e : Env} {s : State} {m : MethodId} {below : List Frame} {meth : Method} {c : Code} {G : GG} {A : Nat → Prop} {b L i : Nat} {xs : Nat → Int32} {ax : Nat} {ac af ah at_ ar ad o : Nat → Nat} {H : Heap} {locs : List Loc} {ls : Array Slot} {Q : State → Prop} (X : Cx p s m #[Value.ref b] meth c cL_law 4 ret wsL_law RL G A) (hX : va_X b L xs s s.heap) (hbl : b < s.heap.size) (hbA : ¬ A b) (hi : i + 4 ≤ L) (hL : L ≤ 2048) (hI : LI G A s ax ac af ah at_ ar ad o H locs) (hl : lv_has ls 4 [(0, .ref b), (1, .ref ax), (2, .ref (o 0)), (3, .int (nI i))]) (kk : ∀ (H : Heap) (locs : List Loc), LI G A s ax ac af ah at_ ar ad o H locs → W p l e room_1 s m #[Value.ref b] below meth c H locs 600000 7302250 Q (F0 m 816 ls [])) : W p l e room_1 s m #[Value.ref b] below meth c H locs 600000 7302250 Q (F0 m 763 ls []) := by
  obtain ⟨⟨hx, hb, hml, hown, hts⟩, hK, hr, hlk, hA⟩ := id X
  obtain ⟨vc, vf, vh, vt, vr, vd, v, σ, hw, hC, hM, hO⟩ := hI
  obtain ⟨zt, e1, hC2⟩ := clear_c hC
  obtain ⟨zm, e2, hM2⟩ := clear_m hM
  refine lv_aload_n hx hb dL_law_763 rfl (lv_at hl 1 rfl) ?_
  refine x_Vi (As := []) (w' := fl [xB ax ac af ah at_ ar ad, cB G ac vc, fB G af vf, hB G ah vh, tB G at_ zt, cB G ar vr, fB G ad vd, mB G o v]) X hw (m_X4_clearText (G := G) (l := l) (ax := ax) (ac := ac) (af := af) (ah := ah) (at_ := at_) (ar := ar) (ad := ad) e1) (cut8 (bs' := [xB ax ac af ah at_ ar ad, cB G ac vc, fB G af vf, hB G ah vh, tB G at_ zt, cB G ar vr, fB G ad vd, mB G o v]) 8 [0, 4] [1, 2, 3, 5, 6, 7] [0, 2, 3, 4, 1, 5, 6, 7] [xB ax ac af ah at_ ar ad, tB G at_ zt] rfl (by decide +kernel) rfl rfl rfl (by decide +kernel) rfl) 0 0 rfl rfl rfl (cwV 0 hts gL_law_X4_clearText rfl rfl rfl hd_X4_clearText ⟨Nat.le_of_ble_eq_true rfl, Nat.le_of_ble_eq_true rfl⟩) rfl hl.1 rfl (Nat.le_of_ble_eq_true rfl) dL_law_764 ⟨Nat.le_of_ble_eq_true rfl, Nat.le_of_ble_eq_true rfl⟩ (fun H locs hw => ?_)
  refine lv_aload_n hx hb dL_law_767 rfl (lv_at hl 2 rfl) ?_
  refine x_Vi (As := []) (w' := fl [xB ax ac af ah at_ ar ad, cB G ac vc, fB G af vf, hB G ah vh, tB G at_ zt, cB G ar vr, fB G ad vd, mB G o zm]) X hw (m_X5_clearText (G := G) (l := l) (o := o) e2) (cut8 (bs' := [xB ax ac af ah at_ ar ad, cB G ac vc, fB G af vf, hB G ah vh, tB G at_ zt, cB G ar vr, fB G ad vd, mB G o zm]) 8 [7] [0, 1, 2, 3, 4, 5, 6] [1, 2, 3, 4, 5, 6, 7, 0] [mB G o zm] rfl (by decide +kernel) rfl rfl rfl (by decide +kernel) rfl) 7 0 rfl rfl rfl (cwV 0 hts gL_law_X5_clearText rfl rfl rfl hd_X5_clearText ⟨Nat.le_of_ble_eq_true rfl, Nat.le_of_ble_eq_true rfl⟩) rfl hl.1 rfl (Nat.le_of_ble_eq_true rfl) dL_law_768 ⟨Nat.le_of_ble_eq_true rfl, Nat.le_of_ble_eq_true rfl⟩ (fun H locs hw => ?_)
  refine lv_icmp_eq (tgt := 816) hx hb dL_law_771 (by decide) (fun _ => ?_) (fun z => absurd rfl z)
  exact kk H locs ⟨vc, vf, vh, zt, vr, vd, zm, (spClear σ).2, hw, hC2, hM2, spClear_ok hO⟩

set_option maxHeartbeats 4000000 in
set_option maxRecDepth 100000 in
theorem lc_22 {p : Program} {l : Launch} {e : Env} {s : State} {m : MethodId} {below : List Frame} {meth : Method} {c : Code} {G : GG} {A : Nat → Prop} {b L i : Nat} {xs : Nat → Int32} {ax : Nat} {ac af ah at_ ar ad o : Nat → Nat} {H : Heap} {locs : List Loc} {ls : Array Slot} {Q : State → Prop} (X : Cx p s m #[Value.ref b] meth c cL_law 4 ret wsL_law RL G A) (hX : va_X b L xs s s.heap) (hbl : b < s.heap.size) (hbA : ¬ A b) (hi : i + 4 ≤ L) (hL : L ≤ 2048) (hI : LI G A s ax ac af ah at_ ar ad o H locs) (hl : lv_has ls 4 [(0, .ref b), (1, .ref ax), (2, .ref (o 0)), (3, .int (nI i))]) (kk : ∀ (H : Heap) (locs : List Loc), LI G A s ax ac af ah at_ ar ad o H locs → W p l e room_1 s m #[Value.ref b] below meth c H locs 600000 7302250 Q (F0 m 816 ls [])) : W p l e room_1 s m #[Value.ref b] below meth c H locs 600000 7302250 Q (F0 m 776 ls []) := by
  obtain ⟨⟨hx, hb, hml, hown, hts⟩, hK, hr, hlk, hA⟩ := id X
  obtain ⟨vc, vf, vh, vt, vr, vd, v, σ, hw, hC, hM, hO⟩ := hI
  obtain ⟨zt, zr, e1, hC2⟩ := tf_c (vr := vr) hC hO
  obtain ⟨zm, e2, hM2⟩ := mtf_ok hM hO
  refine lv_aload_n hx hb dL_law_776 rfl (lv_at hl 1 rfl) ?_
  refine x_Vi (As := []) (w' := fl [xB ax ac af ah at_ ar ad, cB G ac vc, fB G af vf, hB G ah vh, tB G at_ zt, cB G ar zr, fB G ad vd, mB G o v]) X hw (m_X4_textFault (G := G) (l := l) (ax := ax) (ac := ac) (af := af) (ah := ah) (at_ := at_) (ar := ar) (ad := ad) e1) (cut8 (bs' := [xB ax ac af ah at_ ar ad, cB G ac vc, fB G af vf, hB G ah vh, tB G at_ zt, cB G ar zr, fB G ad vd, mB G o v]) 8 [0, 1, 4, 5] [2, 3, 6, 7] [0, 1, 4, 5, 2, 3, 6, 7] [xB ax ac af ah at_ ar ad, cB G ac vc, tB G at_ zt, cB G ar zr] rfl (by decide +kernel) rfl rfl rfl (by decide +kernel) rfl) 0 0 rfl rfl rfl (cwV 0 hts gL_law_X4_textFault rfl rfl rfl hd_X4_textFault ⟨Nat.le_of_ble_eq_true rfl, Nat.le_of_ble_eq_true rfl⟩) rfl hl.1 rfl (Nat.le_of_ble_eq_true rfl) dL_law_777 ⟨Nat.le_of_ble_eq_true rfl, Nat.le_of_ble_eq_true rfl⟩ (fun H locs hw => ?_)
  refine lv_aload_n hx hb dL_law_780 rfl (lv_at hl 2 rfl) ?_
  refine x_Vi (As := []) (w' := fl [xB ax ac af ah at_ ar ad, cB G ac vc, fB G af vf, hB G ah vh, tB G at_ zt, cB G ar zr, fB G ad vd, mB G o zm]) X hw (m_X5_textFault (G := G) (l := l) (o := o) e2) (cut8 (bs' := [xB ax ac af ah at_ ar ad, cB G ac vc, fB G af vf, hB G ah vh, tB G at_ zt, cB G ar zr, fB G ad vd, mB G o zm]) 8 [7] [0, 1, 2, 3, 4, 5, 6] [1, 2, 3, 4, 5, 6, 7, 0] [mB G o zm] rfl (by decide +kernel) rfl rfl rfl (by decide +kernel) rfl) 7 0 rfl rfl rfl (cwV 0 hts gL_law_X5_textFault rfl rfl rfl hd_X5_textFault ⟨Nat.le_of_ble_eq_true rfl, Nat.le_of_ble_eq_true rfl⟩) rfl hl.1 rfl (Nat.le_of_ble_eq_true rfl) dL_law_781 ⟨Nat.le_of_ble_eq_true rfl, Nat.le_of_ble_eq_true rfl⟩ (fun H locs hw => ?_)
  refine lv_icmp_eq (tgt := 816) hx hb dL_law_784 (by decide) (fun _ => ?_) (fun z => absurd rfl z)
  exact kk H locs ⟨vc, vf, vh, zt, zr, vd, zm, σ, hw, hC2, hM2, hO⟩

set_option maxHeartbeats 4000000 in
set_option maxRecDepth 100000 in
theorem lc_23 {p : Program} {l : Launch} {e : Env} {s : State} {m : MethodId} {below : List Frame} {meth : Method} {c : Code} {G : GG} {A : Nat → Prop} {b L i : Nat} {xs : Nat → Int32} {ax : Nat} {ac af ah at_ ar ad o : Nat → Nat} {H : Heap} {locs : List Loc} {ls : Array Slot} {Q : State → Prop} (X : Cx p s m #[Value.ref b] meth c cL_law 4 ret wsL_law RL G A) (hX : va_X b L xs s s.heap) (hbl : b < s.heap.size) (hbA : ¬ A b) (hi : i + 4 ≤ L) (hL : L ≤ 2048) (hI : LI G A s ax ac af ah at_ ar ad o H locs) (hl : lv_has ls 4 [(0, .ref b), (1, .ref ax), (2, .ref (o 0)), (3, .int (nI i))]) (kk : ∀ (H : Heap) (locs : List Loc), LI G A s ax ac af ah at_ ar ad o H locs → W p l e room_1 s m #[Value.ref b] below meth c H locs 600000 7302250 Q (F0 m 816 ls [])) : W p l e room_1 s m #[Value.ref b] below meth c H locs 600000 7302250 Q (F0 m 789 ls []) := by
  obtain ⟨⟨hx, hb, hml, hown, hts⟩, hK, hr, hlk, hA⟩ := id X
  obtain ⟨vc, vf, vh, vt, vr, vd, v, σ, hw, hC, hM, hO⟩ := hI
  obtain ⟨⟨zc, zf, zh, zt, zr, e1, hC2⟩, hO2⟩ := load_c (vr := vr) hC hO
  obtain ⟨zm, e2, hM2⟩ := load_m hM hO
  refine lv_aload_n hx hb dL_law_789 rfl (lv_at hl 1 rfl) ?_
  refine x_Vi (As := []) (w' := fl [xB ax ac af ah at_ ar ad, cB G ac zc, fB G af zf, hB G ah zh, tB G at_ zt, cB G ar zr, fB G ad vd, mB G o v]) X hw (m_X4_load (G := G) (l := l) (ax := ax) (ac := ac) (af := af) (ah := ah) (at_ := at_) (ar := ar) (ad := ad) e1) (cut8 (bs' := [xB ax ac af ah at_ ar ad, cB G ac zc, fB G af zf, hB G ah zh, tB G at_ zt, cB G ar zr, fB G ad vd, mB G o v]) 8 [0, 1, 2, 3, 4, 5] [6, 7] [0, 1, 2, 3, 4, 5, 6, 7] [xB ax ac af ah at_ ar ad, cB G ac zc, fB G af zf, hB G ah zh, tB G at_ zt, cB G ar zr] rfl (by decide +kernel) rfl rfl rfl (by decide +kernel) rfl) 0 0 rfl rfl rfl (cwV 0 hts gL_law_X4_load rfl rfl rfl hd_X4_load ⟨Nat.le_of_ble_eq_true rfl, Nat.le_of_ble_eq_true rfl⟩) rfl hl.1 rfl (Nat.le_of_ble_eq_true rfl) dL_law_790 ⟨Nat.le_of_ble_eq_true rfl, Nat.le_of_ble_eq_true rfl⟩ (fun H locs hw => ?_)
  refine lv_aload_n hx hb dL_law_793 rfl (lv_at hl 2 rfl) ?_
  refine x_Vi (As := []) (w' := fl [xB ax ac af ah at_ ar ad, cB G ac zc, fB G af zf, hB G ah zh, tB G at_ zt, cB G ar zr, fB G ad vd, mB G o zm]) X hw (m_X5_load (G := G) (l := l) (o := o) e2) (cut8 (bs' := [xB ax ac af ah at_ ar ad, cB G ac zc, fB G af zf, hB G ah zh, tB G at_ zt, cB G ar zr, fB G ad vd, mB G o zm]) 8 [7] [0, 1, 2, 3, 4, 5, 6] [1, 2, 3, 4, 5, 6, 7, 0] [mB G o zm] rfl (by decide +kernel) rfl rfl rfl (by decide +kernel) rfl) 7 0 rfl rfl rfl (cwV 0 hts gL_law_X5_load rfl rfl rfl hd_X5_load ⟨Nat.le_of_ble_eq_true rfl, Nat.le_of_ble_eq_true rfl⟩) rfl hl.1 rfl (Nat.le_of_ble_eq_true rfl) dL_law_794 ⟨Nat.le_of_ble_eq_true rfl, Nat.le_of_ble_eq_true rfl⟩ (fun H locs hw => ?_)
  refine lv_icmp_eq (tgt := 816) hx hb dL_law_797 (by decide) (fun _ => ?_) (fun z => absurd rfl z)
  exact kk H locs ⟨zc, zf, zh, zt, zr, vd, zm, (spLoad σ).2, hw, hC2, hM2, hO2⟩

set_option maxHeartbeats 4000000 in
set_option maxRecDepth 100000 in
theorem lc_24 {p : Program} {l : Launch} {e : Env} {s : State} {m : MethodId} {below : List Frame} {meth : Method} {c : Code} {G : GG} {A : Nat → Prop} {b L i : Nat} {xs : Nat → Int32} {ax : Nat} {ac af ah at_ ar ad o : Nat → Nat} {H : Heap} {locs : List Loc} {ls : Array Slot} {Q : State → Prop} (X : Cx p s m #[Value.ref b] meth c cL_law 4 ret wsL_law RL G A) (hX : va_X b L xs s s.heap) (hbl : b < s.heap.size) (hbA : ¬ A b) (hi : i + 4 ≤ L) (hL : L ≤ 2048) (hI : LI G A s ax ac af ah at_ ar ad o H locs) (hl : lv_has ls 4 [(0, .ref b), (1, .ref ax), (2, .ref (o 0)), (3, .int (nI i))]) (kk : ∀ (H : Heap) (locs : List Loc), LI G A s ax ac af ah at_ ar ad o H locs → W p l e room_1 s m #[Value.ref b] below meth c H locs 600000 7302250 Q (F0 m 816 ls [])) : W p l e room_1 s m #[Value.ref b] below meth c H locs 600000 7302250 Q (F0 m 802 ls []) := by
  obtain ⟨⟨hx, hb, hml, hown, hts⟩, hK, hr, hlk, hA⟩ := id X
  obtain ⟨vc, vf, vh, vt, vr, vd, v, σ, hw, hC, hM, hO⟩ := hI
  have e1 := digest_ok hC.c hC.f hO.S
  have hC2 := hC
  obtain ⟨zm, e2, hM2⟩ := digest_m hM hO
  refine lv_aload_n hx hb dL_law_802 rfl (lv_at hl 1 rfl) ?_
  refine x_Vl (As := []) (w' := fl [xB ax ac af ah at_ ar ad, cB G ac vc, fB G af vf, hB G ah vh, tB G at_ vt, cB G ar vr, fB G ad vd, mB G o v]) X hw (m_X4_digest (G := G) (l := l) (ax := ax) (ac := ac) (af := af) (ah := ah) (at_ := at_) (ar := ar) (ad := ad) e1) (cut8 (bs' := [xB ax ac af ah at_ ar ad, cB G ac vc, fB G af vf, hB G ah vh, tB G at_ vt, cB G ar vr, fB G ad vd, mB G o v]) 8 [0, 1, 2] [3, 4, 5, 6, 7] [0, 1, 2, 3, 4, 5, 6, 7] [xB ax ac af ah at_ ar ad, cB G ac vc, fB G af vf] rfl (by decide +kernel) rfl rfl rfl (by decide +kernel) rfl) 0 0 rfl rfl rfl (cwV 0 hts gL_law_X4_digest rfl rfl rfl hd_X4_digest ⟨Nat.le_of_ble_eq_true rfl, Nat.le_of_ble_eq_true rfl⟩) rfl hl.1 rfl (Nat.le_of_ble_eq_true rfl) dL_law_803 ⟨Nat.le_of_ble_eq_true rfl, Nat.le_of_ble_eq_true rfl⟩ (fun H locs hw => ?_)
  refine lv_aload_n hx hb dL_law_806 rfl (lv_at hl 2 rfl) ?_
  refine x_Vl (As := []) (w' := fl [xB ax ac af ah at_ ar ad, cB G ac vc, fB G af vf, hB G ah vh, tB G at_ vt, cB G ar vr, fB G ad vd, mB G o zm]) X hw (m_X5_digest (G := G) (l := l) (o := o) e2) (cut8 (bs' := [xB ax ac af ah at_ ar ad, cB G ac vc, fB G af vf, hB G ah vh, tB G at_ vt, cB G ar vr, fB G ad vd, mB G o zm]) 8 [7] [0, 1, 2, 3, 4, 5, 6] [1, 2, 3, 4, 5, 6, 7, 0] [mB G o zm] rfl (by decide +kernel) rfl rfl rfl (by decide +kernel) rfl) 7 0 rfl rfl rfl (cwV 0 hts gL_law_X5_digest rfl rfl rfl hd_X5_digest ⟨Nat.le_of_ble_eq_true rfl, Nat.le_of_ble_eq_true rfl⟩) rfl hl.1 rfl (Nat.le_of_ble_eq_true rfl) dL_law_807 ⟨Nat.le_of_ble_eq_true rfl, Nat.le_of_ble_eq_true rfl⟩ (fun H locs hw => ?_)
  refine W.lcmp hx hb dL_law_810 ?_
  refine lv_if_eq (tgt := 816) hx hb dL_law_811 (by decide) (fun _ => ?_) (fun z => absurd (lcmp_s _) z)
  exact kk H locs ⟨vc, vf, vh, vt, vr, vd, zm, σ, hw, hC2, hM2, hO⟩

set_option maxHeartbeats 4000000 in
set_option maxRecDepth 100000 in
theorem law_loop {p : Program} {l : Launch} {e : Env} {s : State} {m : MethodId} {below : List Frame} {meth : Method} {c : Code} {G : GG} {A : Nat → Prop} {b L : Nat} {xs : Nat → Int32} {ax : Nat} {ac af ah at_ ar ad o : Nat → Nat} (X : Cx p s m #[Value.ref b] meth c cL_law 4 ret wsL_law RL G A) (hX : va_X b L xs s s.heap) (hbl : b < s.heap.size) (hbA : ¬ A b) (hAf : ∀ q : Nat, A q → s.heap.size ≤ q) (hL : L ≤ 2048) :
    ∀ (n i : Nat), L + 1 ≤ i + n → i ≤ L + 4 → ∀ (H : Heap) (locs : List Loc), LI G A s ax ac af ah at_ ar ad o H locs → ∀ (ls : Array Slot), lv_has ls 4 [(0, .ref b), (1, .ref ax), (2, .ref (o 0)), (3, .int (nI i))] → W p l e room_1 s m #[Value.ref b] below meth c H locs 600000 7302250 (lw_Z below #[Value.ref b] s) (F0 m 18 ls []) := by
  obtain ⟨⟨hx, hb, hml, hown, hts⟩, hK, hr, hlk, hA⟩ := id X
  have head : ∀ (i : Nat) (H : Heap) (locs : List Loc), i ≤ L + 4 → LI G A s ax ac af ah at_ ar ad o H locs → ∀ (ls : Array Slot), lv_has ls 4 [(0, .ref b), (1, .ref ax), (2, .ref (o 0)), (3, .int (nI i))] → (i + 4 ≤ L → W p l e room_1 s m #[Value.ref b] below meth c H locs 600000 7302250 (lw_Z below #[Value.ref b] s) (F0 m 26 ls [])) → W p l e room_1 s m #[Value.ref b] below meth c H locs 600000 7302250 (lw_Z below #[Value.ref b] s) (F0 m 18 ls []) := by
    intro i H locs hi0 hI ls hl kc
    obtain ⟨vc, vf, vh, vt, vr, vd, v, σ, hw, -⟩ := id hI
    refine lv_iload_n hx hb dL_law_18 rfl (lv_at hl 3 rfl) ?_
    refine lv_aload_n hx hb dL_law_19 rfl (lv_at hl 0 rfl) ?_
    refine va_slen hx hb hX hbl hbA hw.2.2 dL_law_20 ?_
    refine lv_iconst (v := 4) hx hb dL_law_21 (by decide) ?_
    refine lv_isub hx hb dL_law_22 ?_
    refine lv_icmp_gt (tgt := 822) hx hb dL_law_23 (by decide) (fun _ => ?_) (fun z => kc ?_)
    · refine lv_iconst (v := 1) hx hb dL_law_822 (by decide) ?_
      refine va_forget (fun q hq => hAf _ (hw.2.2.2.2 q hq)) ?_
      exact lw_ret hx hb hr hlk dL_law_823
    · have z' : ¬ (nI L - nI 4 : Int32) < nI i := z
      rw [Int32.lt_iff_toInt_lt, pk_sub_toInt (by omega) (by omega), nI_toInt (by omega)] at z'
      omega
  intro n
  induction n with
  | zero =>
    intro i h1 h0 H locs hI ls hl
    exact head i H locs h0 hI ls hl (fun h2 => absurd h2 (by omega))
  | succ n ih =>
    intro i h1 h0 H locs hI ls hl
    refine head i H locs h0 hI ls hl (fun hi => ?_)
    obtain ⟨vc, vf, vh, vt, vr, vd, v, σ, hw, -⟩ := id hI
    have h0 : vp_in (nI i : Int32) L := vp_in_nI (by omega) (by omega)
    have kk : ∀ (H : Heap) (locs : List Loc), LI G A s ax ac af ah at_ ar ad o H locs → W p l e room_1 s m #[Value.ref b] below meth c H locs 600000 7302250 (lw_Z below #[Value.ref b] s) (F0 m 816 ls []) := by
      intro H locs hI
      refine lv_iinc (v := nI (i + 4)) (lv' := [(3, .int (nI (i + 4))), (0, .ref b), (1, .ref ax), (2, .ref (o 0))]) hx hb dL_law_816 hl (k := 3) rfl (show nI i + nI 4 = nI (i + 4) from nI_add i 4) (by decide) rfl (fun ls hl => ?_)
      refine lv_goto (tgt := 18) hx hb dL_law_819 (by decide) ?_
      exact ih (i + 4) (by omega) (by omega) H locs hI ls (lv_sub hl [1, 2, 3, 0] rfl)
    refine lv_aload_n hx hb dL_law_26 rfl (lv_at hl 0 rfl) ?_
    refine lv_iload_n hx hb dL_law_27 rfl (lv_at hl 3 rfl) ?_
    refine va_sld hx hb hX hbl hbA hw.2.2 h0 dL_law_28 ?_
    refine lv_bipush (v := 31) hx hb dL_law_29 (by decide) ?_
    refine lv_iand hx hb dL_law_31 ?_
    generalize hy : (xs (nI i : Int32).toNatClampNeg &&& 31 : Int32) = y
    by_cases k_0 : y = 0
    · refine lv_tableIn (tgt := 148) hx hb dL_law_32 (by rw [k_0]; decide) (by rw [k_0]; decide) (by rw [k_0]; rfl) (by decide) ?_
      exact lc_0 X hX hbl hbA hi hL hI hl kk
    by_cases k_1 : y = 1
    · refine lv_tableIn (tgt := 207) hx hb dL_law_32 (by rw [k_1]; decide) (by rw [k_1]; decide) (by rw [k_1]; rfl) (by decide) ?_
      exact lc_1 X hX hbl hbA hi hL hI hl kk
    by_cases k_2 : y = 2
    · refine lv_tableIn (tgt := 250) hx hb dL_law_32 (by rw [k_2]; decide) (by rw [k_2]; decide) (by rw [k_2]; rfl) (by decide) ?_
      exact lc_2 X hX hbl hbA hi hL hI hl kk
    by_cases k_3 : y = 3
    · refine lv_tableIn (tgt := 283) hx hb dL_law_32 (by rw [k_3]; decide) (by rw [k_3]; decide) (by rw [k_3]; rfl) (by decide) ?_
      exact lc_3 X hX hbl hbA hi hL hI hl kk
    by_cases k_4 : y = 4
    · refine lv_tableIn (tgt := 306) hx hb dL_law_32 (by rw [k_4]; decide) (by rw [k_4]; decide) (by rw [k_4]; rfl) (by decide) ?_
      exact lc_4 X hX hbl hbA hi hL hI hl kk
    by_cases k_5 : y = 5
    · refine lv_tableIn (tgt := 339) hx hb dL_law_32 (by rw [k_5]; decide) (by rw [k_5]; decide) (by rw [k_5]; rfl) (by decide) ?_
      exact lc_5 X hX hbl hbA hi hL hI hl kk
    by_cases k_6 : y = 6
    · refine lv_tableIn (tgt := 362) hx hb dL_law_32 (by rw [k_6]; decide) (by rw [k_6]; decide) (by rw [k_6]; rfl) (by decide) ?_
      exact lc_6 X hX hbl hbA hi hL hI hl kk
    by_cases k_7 : y = 7
    · refine lv_tableIn (tgt := 395) hx hb dL_law_32 (by rw [k_7]; decide) (by rw [k_7]; decide) (by rw [k_7]; rfl) (by decide) ?_
      exact lc_7 X hX hbl hbA hi hL hI hl kk
    by_cases k_8 : y = 8
    · refine lv_tableIn (tgt := 418) hx hb dL_law_32 (by rw [k_8]; decide) (by rw [k_8]; decide) (by rw [k_8]; rfl) (by decide) ?_
      exact lc_8 X hX hbl hbA hi hL hI hl kk
    by_cases k_9 : y = 9
    · refine lv_tableIn (tgt := 451) hx hb dL_law_32 (by rw [k_9]; decide) (by rw [k_9]; decide) (by rw [k_9]; rfl) (by decide) ?_
      exact lc_9 X hX hbl hbA hi hL hI hl kk
    by_cases k_10 : y = 10
    · refine lv_tableIn (tgt := 500) hx hb dL_law_32 (by rw [k_10]; decide) (by rw [k_10]; decide) (by rw [k_10]; rfl) (by decide) ?_
      exact lc_10 X hX hbl hbA hi hL hI hl kk
    by_cases k_11 : y = 11
    · refine lv_tableIn (tgt := 533) hx hb dL_law_32 (by rw [k_11]; decide) (by rw [k_11]; decide) (by rw [k_11]; rfl) (by decide) ?_
      exact lc_11 X hX hbl hbA hi hL hI hl kk
    by_cases k_12 : y = 12
    · refine lv_tableIn (tgt := 556) hx hb dL_law_32 (by rw [k_12]; decide) (by rw [k_12]; decide) (by rw [k_12]; rfl) (by decide) ?_
      exact lc_12 X hX hbl hbA hi hL hI hl kk
    by_cases k_13 : y = 13
    · refine lv_tableIn (tgt := 589) hx hb dL_law_32 (by rw [k_13]; decide) (by rw [k_13]; decide) (by rw [k_13]; rfl) (by decide) ?_
      exact lc_13 X hX hbl hbA hi hL hI hl kk
    by_cases k_14 : y = 14
    · refine lv_tableIn (tgt := 612) hx hb dL_law_32 (by rw [k_14]; decide) (by rw [k_14]; decide) (by rw [k_14]; rfl) (by decide) ?_
      exact lc_14 X hX hbl hbA hi hL hI hl kk
    by_cases k_15 : y = 15
    · refine lv_tableIn (tgt := 635) hx hb dL_law_32 (by rw [k_15]; decide) (by rw [k_15]; decide) (by rw [k_15]; rfl) (by decide) ?_
      exact lc_15 X hX hbl hbA hi hL hI hl kk
    by_cases k_16 : y = 16
    · refine lv_tableIn (tgt := 658) hx hb dL_law_32 (by rw [k_16]; decide) (by rw [k_16]; decide) (by rw [k_16]; rfl) (by decide) ?_
      exact lc_16 X hX hbl hbA hi hL hI hl kk
    by_cases k_17 : y = 17
    · refine lv_tableIn (tgt := 671) hx hb dL_law_32 (by rw [k_17]; decide) (by rw [k_17]; decide) (by rw [k_17]; rfl) (by decide) ?_
      exact lc_17 X hX hbl hbA hi hL hI hl kk
    by_cases k_18 : y = 18
    · refine lv_tableIn (tgt := 694) hx hb dL_law_32 (by rw [k_18]; decide) (by rw [k_18]; decide) (by rw [k_18]; rfl) (by decide) ?_
      exact lc_18 X hX hbl hbA hi hL hI hl kk
    by_cases k_19 : y = 19
    · refine lv_tableIn (tgt := 727) hx hb dL_law_32 (by rw [k_19]; decide) (by rw [k_19]; decide) (by rw [k_19]; rfl) (by decide) ?_
      exact lc_19 X hX hbl hbA hi hL hI hl kk
    by_cases k_20 : y = 20
    · refine lv_tableIn (tgt := 740) hx hb dL_law_32 (by rw [k_20]; decide) (by rw [k_20]; decide) (by rw [k_20]; rfl) (by decide) ?_
      exact lc_20 X hX hbl hbA hi hL hI hl kk
    by_cases k_21 : y = 21
    · refine lv_tableIn (tgt := 763) hx hb dL_law_32 (by rw [k_21]; decide) (by rw [k_21]; decide) (by rw [k_21]; rfl) (by decide) ?_
      exact lc_21 X hX hbl hbA hi hL hI hl kk
    by_cases k_22 : y = 22
    · refine lv_tableIn (tgt := 776) hx hb dL_law_32 (by rw [k_22]; decide) (by rw [k_22]; decide) (by rw [k_22]; rfl) (by decide) ?_
      exact lc_22 X hX hbl hbA hi hL hI hl kk
    by_cases k_23 : y = 23
    · refine lv_tableIn (tgt := 789) hx hb dL_law_32 (by rw [k_23]; decide) (by rw [k_23]; decide) (by rw [k_23]; rfl) (by decide) ?_
      exact lc_23 X hX hbl hbA hi hL hI hl kk
    by_cases k_24 : y = 24
    · refine lv_tableIn (tgt := 802) hx hb dL_law_32 (by rw [k_24]; decide) (by rw [k_24]; decide) (by rw [k_24]; rfl) (by decide) ?_
      exact lc_24 X hX hbl hbA hi hL hI hl kk
    refine lv_tableOut (tgt := 816) hx hb dL_law_32 ?_ (by decide) (kk H locs hI)
    by_cases g : y.toInt < 0
    · exact Or.inl g
    · right
      have n_0 := lv_neT k_0 (show (0 : Int32).toInt = 0 by decide)
      have n_1 := lv_neT k_1 (show (1 : Int32).toInt = 1 by decide)
      have n_2 := lv_neT k_2 (show (2 : Int32).toInt = 2 by decide)
      have n_3 := lv_neT k_3 (show (3 : Int32).toInt = 3 by decide)
      have n_4 := lv_neT k_4 (show (4 : Int32).toInt = 4 by decide)
      have n_5 := lv_neT k_5 (show (5 : Int32).toInt = 5 by decide)
      have n_6 := lv_neT k_6 (show (6 : Int32).toInt = 6 by decide)
      have n_7 := lv_neT k_7 (show (7 : Int32).toInt = 7 by decide)
      have n_8 := lv_neT k_8 (show (8 : Int32).toInt = 8 by decide)
      have n_9 := lv_neT k_9 (show (9 : Int32).toInt = 9 by decide)
      have n_10 := lv_neT k_10 (show (10 : Int32).toInt = 10 by decide)
      have n_11 := lv_neT k_11 (show (11 : Int32).toInt = 11 by decide)
      have n_12 := lv_neT k_12 (show (12 : Int32).toInt = 12 by decide)
      have n_13 := lv_neT k_13 (show (13 : Int32).toInt = 13 by decide)
      have n_14 := lv_neT k_14 (show (14 : Int32).toInt = 14 by decide)
      have n_15 := lv_neT k_15 (show (15 : Int32).toInt = 15 by decide)
      have n_16 := lv_neT k_16 (show (16 : Int32).toInt = 16 by decide)
      have n_17 := lv_neT k_17 (show (17 : Int32).toInt = 17 by decide)
      have n_18 := lv_neT k_18 (show (18 : Int32).toInt = 18 by decide)
      have n_19 := lv_neT k_19 (show (19 : Int32).toInt = 19 by decide)
      have n_20 := lv_neT k_20 (show (20 : Int32).toInt = 20 by decide)
      have n_21 := lv_neT k_21 (show (21 : Int32).toInt = 21 by decide)
      have n_22 := lv_neT k_22 (show (22 : Int32).toInt = 22 by decide)
      have n_23 := lv_neT k_23 (show (23 : Int32).toInt = 23 by decide)
      have n_24 := lv_neT k_24 (show (24 : Int32).toInt = 24 by decide)
      omega

/-! the relation at the start -/
def S0 : SC := (0, 0, 50, 140, fun _ => 0, fun _ => 0, fun _ => 0, fun _ => 0, fun _ => 0, fun _ => 0)
def σ0 : ST := (S0, 0, fun _ => S0, fun _ => 0, 0)
theorem ok0 : OkT σ0 := by
  have n0 : ∀ i, ¬ i < 0 := fun i => Nat.not_lt_zero i
  refine ⟨⟨by decide, by decide, by decide, by decide, fun i hi => absurd hi (n0 i), fun i hi => absurd hi (n0 i), fun i j _ hj => absurd hj (n0 j)⟩, by decide, fun t ht => absurd ht (n0 t), by decide⟩
theorem relC0 {a : Nat → Nat → Nat} : RelC new_C new_F (new_H a) new_T σ0 := by
  have n0 : ∀ i, ¬ i < 0 := fun i => Nat.not_lt_zero i
  exact ⟨⟨rfl, rfl, rfl, rfl, fun i hi => absurd hi (n0 i), fun i hi => absurd hi (n0 i), fun i hi => absurd hi (n0 i), fun i hi => absurd hi (n0 i), fun i hi => absurd hi (n0 i), fun i hi => absurd hi (n0 i), fun _ _ => Or.inl rfl⟩, ⟨rfl, fun i hi => absurd hi (n0 i), fun i hi => absurd hi (n0 i), fun i hi => absurd hi (n0 i), fun i hi => absurd hi (n0 i), fun i hi => absurd hi (n0 i), fun i hi => absurd hi (n0 i)⟩, ⟨rfl, fun i hi => absurd hi (n0 i)⟩, ⟨rfl, fun i hi => absurd hi (n0 i)⟩⟩
theorem relM0 : RelM new_M σ0 := by
  have n0 : ∀ i, ¬ i < 0 := fun i => Nat.not_lt_zero i
  exact ⟨⟨rfl, rfl, rfl, rfl, fun i hi => absurd hi (n0 i), fun i hi => absurd hi (n0 i), fun i hi => absurd hi (n0 i), fun i hi => absurd hi (n0 i), fun i hi => absurd hi (n0 i), fun i hi => absurd hi (n0 i)⟩, rfl, fun i hi => absurd hi (n0 i), rfl, fun i hi => absurd hi (n0 i)⟩
set_option maxHeartbeats 4000000 in
set_option maxRecDepth 100000 in
theorem kk_ok {s : State} {b : Nat} (hts : ∀ w ∈ lw_tbl, w.before #[Value.ref b] s = true) : ∃ G : GG, KK G s := by
  obtain ⟨c0, i0, k0⟩ := u_known (C := RX0) (T := TX0) (N := 10) (n := 10) hts (fun w h => inX0 w h) (hts _ (wsL_law_r1_in _ (List.mem_of_getElem? (i := 13) rfl)))
  obtain ⟨c1, i1, k1⟩ := u_known (C := RX1) (T := TX1) (N := 7) (n := 7) hts (fun w h => inX1 w h) (hts _ (wsL_law_r1_in _ (List.mem_of_getElem? (i := 17) rfl)))
  obtain ⟨c2, i2, k2⟩ := u_known (C := RX2) (T := TX2) (N := 2) (n := 2) hts (fun w h => inX2 w h) (hts _ (wsL_law_r1_in _ (List.mem_of_getElem? (i := 21) rfl)))
  obtain ⟨c3, i3, k3⟩ := u_known (C := RX3) (T := TX3) (N := 5) (n := 5) hts (fun w h => inX3 w h) (hts _ (wsL_law_r2_in _ (List.mem_of_getElem? (i := 1) rfl)))
  obtain ⟨c4, i4, k4⟩ := u_known (C := RX4) (T := TX4) (N := 6) (n := 6) hts (fun w h => inX4 w h) (hts _ (wsL_law_r1_in _ (List.mem_of_getElem? (i := 1) rfl)))
  obtain ⟨c5, i5, k5⟩ := u_known (C := RX5) (T := TX5) (N := 12) (n := 12) hts (fun w h => inX5 w h) (hts _ (wsL_law_r1_in _ (List.mem_of_getElem? (i := 4) rfl)))
  obtain ⟨cI, kI, coI, f1, f2, f3⟩ := Cond.arrayClass_spec (hts _ (wsL_law_r2_in (Cond.arrayClass .int) (List.mem_of_getElem? (i := 13) rfl)))
  obtain ⟨cZ, kZ, coZ, g1, g2, g3⟩ := Cond.arrayClass_spec (hts _ (wsL_law_r2_in (Cond.arrayClass .boolean) (List.mem_of_getElem? (i := 17) rfl)))
  have hao : (Cond.arrayOver (.object "CastingFeeder$Casting")).before #[Value.ref b] s = true := hts _ (by decide +kernel)
  obtain ⟨comp, cQ, kQ, q1, q2, q3, q4, q5⟩ := Cond.arrayOver_spec hao
  refine ⟨(((fun k => if k = 0 then c0 else if k = 1 then c1 else if k = 2 then c2 else if k = 3 then c3 else if k = 4 then c4 else c5), (fun k => if k = 0 then i0 else if k = 1 then i1 else if k = 2 then i2 else if k = 3 then i3 else if k = 4 then i4 else i5)), cI, cZ, cQ), ⟨fun k q hq => ?_, fun k q hq => ?_⟩, fun q hq => ?_, va_AO.of hao⟩
  · match k, hq with
    | 0, hq => cases hq; exact k0
    | 1, hq => cases hq; exact k1
    | 2, hq => cases hq; exact k2
    | 3, hq => cases hq; exact k3
    | 4, hq => cases hq; exact k4
    | 5, hq => cases hq; exact k5
    | k + 6, hq => simp [vwCl] at hq
  · match k, hq with
    | 0, hq => cases hq; exact ⟨fun N z => ⟨(fun k h => by cases h), kI, f2, coI, f3⟩, f1⟩
    | 1, hq => cases hq; exact ⟨fun N z => ⟨(fun k h => by cases h), kZ, g2, coZ, g3⟩, g1⟩
    | 2, hq => cases hq; exact ⟨fun N z => ⟨(fun k h => by cases h), kQ, q3, comp, q4⟩, kQ, comp, q3, q4, q1, q5⟩
    | k + 3, hq => simp [g_ty] at hq
  · have hin : g_nc q ∈ lw_tbl := by
      revert q
      decide +kernel
    exact va_Nw.of rfl (hts _ hin)

set_option maxHeartbeats 4000000 in
set_option maxRecDepth 100000 in
theorem whole_start {p : Program} {e : Env} {s : State} {m : MethodId} {below : List Frame} {meth : Method} {c : Code} (l : Launch) (hflags : l.flags = flags0) {b L : Nat} {xs : Nat → Int32} (hL : L ≤ 2048) (C0 : lw_At p s m meth c b L xs) : W p l e room_1 s m #[Value.ref b] below meth c s.heap [] 0 0 (lw_Z below #[Value.ref b] s) (entryFrame m ([Value.ref b] : List Value).toArray 4) := by
  obtain ⟨hx, hb, hr, hml, hown, htt, hX, hbl, hlocks, hgv⟩ := id C0
  obtain ⟨G, hKK⟩ := kk_ok htt
  have hts : ∀ w ∈ wsL_law, w.before #[Value.ref b] s = true := fun w h => htt w (wsL_law_in w h)
  have hbA : ¬ (fun q : Nat => s.heap.size ≤ q) b := Nat.not_le.mpr hbl
  have X : Cx p s m #[Value.ref b] meth c cL_law 4 ret wsL_law RL G (fun q : Nat => s.heap.size ≤ q) := ⟨⟨hx, hb, hml, hown, hts⟩, hKK, hr, hlocks, fun _ h => h⟩
  have hw : Wd G (fun q : Nat => s.heap.size ≤ q) s s.heap [] (fl []) := ⟨fun k q h => by simp at h, ⟨fun i j p q h => by simp at h, fun k q h => by simp at h⟩, va_S.rf⟩
  have hl := lv_entry ([.ref b]) (n := 4) (Nat.le_of_ble_eq_true rfl)
  rw [lg_entry_eq]
  generalize (lg_sl ([.ref b]) ++ List.replicate (4 - (lg_sl ([.ref b])).length) Slot.unset).toArray = ls at hl ⊢
  have hl : lv_has ls 4 [(0, .ref b)] := hl
  have r1 : ∀ w ∈ wsL_law_r1, w ∈ wsL_law := fun _ h => List.mem_append_left _ (List.mem_append_left _ (List.mem_append_left _ (List.mem_append_left _ (List.mem_append_left _ (List.mem_append_left _ (List.mem_append_left _ (List.mem_append_left _ h)))))))
  refine x_new (ci := 4) (fs := [.null, .null, .null, .null, .null, .null]) X hw inlX4 tyX4 tyX4_ok (r1 _ (List.mem_of_getElem? (i := 0) rfl)) (r1 _ (List.mem_of_getElem? (i := 1) rfl)) (r1 _ (List.mem_of_getElem? (i := 2) rfl)) rfl (by decide) (Nat.le_of_ble_eq_true rfl) (Nat.le_of_ble_eq_true rfl) dL_law_0 (fun q0 H hw => ?_)
  have hw : Wd G (fun q : Nat => s.heap.size ≤ q) s H _ (fl [[(q0, .inr (4, [.null, .null, .null, .null, .null, .null]))]]) := hw
  refine W.widen (k := 1) (n := 6) (Nat.le_of_ble_eq_true rfl) (Nat.le_of_ble_eq_true rfl) ?_
  refine lv_dup hx hb dL_law_3 rfl ?_
  refine x_Ii (w' := fun u => fl (newX G q0 u)) X hw (m_X4_init (G := G) (l := l) (q := q0)) ⟨(fun _ => 0, fun _ => 0, fun _ => 0, fun _ => 0, fun _ => 0, fun _ => 0, fun _ _ => 0)⟩ (fun u => Cut.all) (cwI 0 hts gL_law_X4_init rfl rfl rfl (htt (.initialized RX4) (by decide +kernel)) (htt (.methodLink RL 9 yX4_init) (by decide +kernel)) (htt (.instanceMethod yX4_init) (by decide +kernel)) rfl hd_X4_init.2 ⟨Nat.le_of_ble_eq_true rfl, Nat.le_of_ble_eq_true rfl⟩) hl.1 rfl (Nat.le_of_ble_eq_true rfl) dL_law_4 ⟨Nat.le_of_ble_eq_true rfl, Nat.le_of_ble_eq_true rfl⟩ (fun u H locs hu hw => ?_)
  refine W.widen (k := 68) (n := 982) (Nat.le_of_ble_eq_true rfl) (Nat.le_of_ble_eq_true rfl) ?_
  have hw : Wd G (fun q : Nat => s.heap.size ≤ q) s H locs (fl [xB q0 u.1 u.2.1 u.2.2.1 u.2.2.2.1 u.2.2.2.2.1 u.2.2.2.2.2.1, cB G u.1 new_C, fB G u.2.1 new_F, hB G u.2.2.1 (new_H u.2.2.2.2.2.2), tB G u.2.2.2.1 new_T, cB G u.2.2.2.2.1 new_C, fB G u.2.2.2.2.2.1 new_F]) := hw
  refine lv_astore_n (lv' := [(1, .ref q0), (0, .ref b)]) hx hb dL_law_7 rfl hl (by decide) rfl (fun ls hl => ?_)
  refine x_new (ci := 5) (fs := [.null, .int 0, .null, .null, .null, .null, .null, .int 0, .int 0, .int 0, .int 0, .long 0]) X hw inlX5 tyX5 tyX5_ok (r1 _ (List.mem_of_getElem? (i := 3) rfl)) (r1 _ (List.mem_of_getElem? (i := 4) rfl)) (r1 _ (List.mem_of_getElem? (i := 5) rfl)) rfl (by decide) (Nat.le_of_ble_eq_true rfl) (Nat.le_of_ble_eq_true rfl) dL_law_8 (fun q1 H hw => ?_)
  have hw : Wd G (fun q : Nat => s.heap.size ≤ q) s H _ (fl [xB q0 u.1 u.2.1 u.2.2.1 u.2.2.2.1 u.2.2.2.2.1 u.2.2.2.2.2.1, cB G u.1 new_C, fB G u.2.1 new_F, hB G u.2.2.1 (new_H u.2.2.2.2.2.2), tB G u.2.2.2.1 new_T, cB G u.2.2.2.2.1 new_C, fB G u.2.2.2.2.2.1 new_F, [(q1, .inr (5, [.null, .int 0, .null, .null, .null, .null, .null, .int 0, .int 0, .int 0, .int 0, .long 0]))]]) := hw
  refine W.widen (k := 69) (n := 994) (Nat.le_of_ble_eq_true rfl) (Nat.le_of_ble_eq_true rfl) ?_
  refine lv_dup hx hb dL_law_11 rfl ?_
  refine x_Ii (w' := fun o => fl [xB q0 u.1 u.2.1 u.2.2.1 u.2.2.2.1 u.2.2.2.2.1 u.2.2.2.2.2.1, cB G u.1 new_C, fB G u.2.1 new_F, hB G u.2.2.1 (new_H u.2.2.2.2.2.2), tB G u.2.2.2.1 new_T, cB G u.2.2.2.2.1 new_C, fB G u.2.2.2.2.2.1 new_F, mB G o new_M]) X hw (m_X5_init (G := G) (l := l) (q := q1)) ⟨fun _ => 0⟩ (fun o => cut8 (bs' := [xB q0 u.1 u.2.1 u.2.2.1 u.2.2.2.1 u.2.2.2.2.1 u.2.2.2.2.2.1, cB G u.1 new_C, fB G u.2.1 new_F, hB G u.2.2.1 (new_H u.2.2.2.2.2.2), tB G u.2.2.2.1 new_T, cB G u.2.2.2.2.1 new_C, fB G u.2.2.2.2.2.1 new_F, mB G o new_M]) 8 [7] [0, 1, 2, 3, 4, 5, 6] [1, 2, 3, 4, 5, 6, 7, 0] [mB G o new_M] rfl (by decide +kernel) rfl rfl rfl (by decide +kernel) rfl) (cwI 0 hts gL_law_X5_init rfl rfl rfl (htt (.initialized RX5) (by decide +kernel)) (htt (.methodLink RL 12 yX5_init) (by decide +kernel)) (htt (.instanceMethod yX5_init) (by decide +kernel)) rfl hd_X5_init.2 ⟨Nat.le_of_ble_eq_true rfl, Nat.le_of_ble_eq_true rfl⟩) hl.1 rfl (Nat.le_of_ble_eq_true rfl) dL_law_12 ⟨Nat.le_of_ble_eq_true rfl, Nat.le_of_ble_eq_true rfl⟩ (fun o H locs ho hw => ?_)
  refine W.widen (k := 600000) (n := 7302250) (Nat.le_of_ble_eq_true rfl) (Nat.le_of_ble_eq_true rfl) ?_
  have ho : o 0 = q1 := ho
  rw [← ho]
  refine lv_astore_n (lv' := [(2, .ref (o 0)), (1, .ref q0), (0, .ref b)]) hx hb dL_law_15 rfl hl (by decide) rfl (fun ls hl => ?_)
  refine lv_iconst (v := 0) hx hb dL_law_16 (by decide) ?_
  refine lv_istore_n (lv' := [(3, .int 0), (2, .ref (o 0)), (1, .ref q0), (0, .ref b)]) hx hb dL_law_17 rfl hl (by decide) rfl (fun ls hl => ?_)
  exact law_loop (o := o) X hX hbl hbA (fun _ h => h) hL (L + 1) 0 (by omega) (by omega) H locs ⟨new_C, new_F, new_H u.2.2.2.2.2.2, new_T, new_C, new_F, new_M, σ0, hw, relC0, relM0, ok0⟩ ls (lv_sub hl [3, 2, 1, 0] rfl)
