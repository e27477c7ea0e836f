/-! THE CLAIM OUT OF ONE WALK OF THE LAW'S BODY. Your part is whole_start (and what it stands on); all else here is the same for every law, but numbers. -/
def R_law : String := "CastingFeederLaw"
def lw_P (b : Addr) (xs : List Int32) (args : Array Value) (s : State) : Prop := args = #[.ref b] ∧ s.IntsAt b xs ∧ xs.length ≤ 260 ∧ (Jvm.Cond.and given_1 narrow_1).before args s = true
def lw_Q (_ : Array Value) (s : State) (o : Outcome) (t : State) : Prop := o = .returned (some (.int 1)) ∧ Framed s o t [] 600000 7302250
def lw_Z (below : List Frame) (a : Array Value) (s : State) : State → Prop := fun t => ∃ o, t.status = .running ∧ Ended t below o ∧ lw_Q a s o t
/-- the law's own end, with 1 on the stack, nothing written that was there before, its room as the claim has it -/
theorem lw_ret {p : Program} {l : Launch} {e : Env} {s : State} {m : MethodId} {below : List Frame} {meth : Method} {c : Code} {b : Nat} (hx : p.tables.exec = Jvm.exec) (hb : c.code = code) (hr : meth.sig.returnType = ret) (hlocks : meth.locks = false) {pc : Nat} {H : Heap} {ls : Array Slot} (hdg : decode code pc = .ok (.ireturn, 1)) : W p l e room_1 s m #[Value.ref b] below meth c H [] 600000 7302250 (lw_Z below #[Value.ref b] s) (F0 m pc ls [.int 1]) := by
  intro T hT X
  obtain ⟨fs, hret, hrun, hended, hW, hframe⟩ := X.leave (v := some (.int 1)) (hlocks := hlocks) (fun h => by rw [hr] at h; cases h)
  have hmeth' : T.vm.method? m = some meth := X.method'
  refine ⟨T.setFrames fs, ?_, .returned (some (.int 1)), hrun, hended, rfl, ⟨_, rfl⟩, hW, hframe⟩
  jvm_step X.here [X.here.top, hx, hb, hdg, hmeth', hr, ret, narrow_b1]
  (try refine ⟨rfl, ?_⟩); (try refine ⟨rfl, ?_⟩)
  first | (intro acts; rw [hret _ acts rfl rfl rfl]) | rw [hret _ _ rfl rfl rfl]
  exact Steps.refl _
/-- what holds at the law's entry: the machine, the code, the tables' words (any of lw_tbl by 'hts w (by decide +kernel)'), the script of L ints xs at the cell b, what the Statement gives of the start (any of its parts by flat_of_before) -/
def lw_At (p : Program) (s : State) (m : MethodId) (meth : Method) (c : Code) (b L : Nat) (xs : Nat → Int32) : Prop :=
  p.tables.exec = Jvm.exec ∧ c.code = code ∧ meth.sig.returnType = ret ∧ c.maxLocals = 9 ∧ s.vm.findClass R_law = some m.cls ∧ (∀ w ∈ lw_tbl, w.before #[Value.ref b] s = true) ∧ va_X b L xs s s.heap ∧ b < s.heap.size ∧ meth.locks = false ∧ (Jvm.Cond.and given_1 narrow_1).before #[Value.ref b] s = true
/-! ===== 65: the start ===== -/
theorem relC0 {a : Nat → Nat → Nat} : RelC new_C new_F (new_H a) new_T σ0 := by
  have n0 : ∀ i, ¬ i < 0 := fun i => Nat.not_lt_zero i
  exact ⟨⟨rfl, rfl, rfl, rfl, fun i hi => absurd hi (n0 i), fun i hi => absurd hi (n0 i), fun i hi => absurd hi (n0 i), fun i hi => absurd hi (n0 i), fun i hi => absurd hi (n0 i), fun i hi => absurd hi (n0 i), fun _ _ => Or.inl rfl⟩, ⟨rfl, fun i hi => absurd hi (n0 i), fun i hi => absurd hi (n0 i), fun i hi => absurd hi (n0 i), fun i hi => absurd hi (n0 i), fun i hi => absurd hi (n0 i), fun i hi => absurd hi (n0 i)⟩, ⟨rfl, fun i hi => absurd hi (n0 i)⟩, ⟨rfl, fun i hi => absurd hi (n0 i)⟩⟩
set_option maxHeartbeats 4000000 in
set_option maxRecDepth 100000 in
theorem kk_ok {s : State} {b : Nat} (hts : ∀ w ∈ lw_tbl, w.before #[Value.ref b] s = true) : ∃ G : GG, KK G s := by
  obtain ⟨c0, i0, k0⟩ := u_known (C := RX0) (T := TX0) (N := 10) (n := 10) hts (fun w h => inX0 w h) (hts _ (wsL_law_r1_in _ (List.mem_of_getElem? (i := 10) rfl)))
  obtain ⟨c1, i1, k1⟩ := u_known (C := RX1) (T := TX1) (N := 7) (n := 7) hts (fun w h => inX1 w h) (hts _ (wsL_law_r1_in _ (List.mem_of_getElem? (i := 14) rfl)))
  obtain ⟨c2, i2, k2⟩ := u_known (C := RX2) (T := TX2) (N := 2) (n := 2) hts (fun w h => inX2 w h) (hts _ (wsL_law_r1_in _ (List.mem_of_getElem? (i := 18) rfl)))
  obtain ⟨c3, i3, k3⟩ := u_known (C := RX3) (T := TX3) (N := 5) (n := 5) hts (fun w h => inX3 w h) (hts _ (wsL_law_r1_in _ (List.mem_of_getElem? (i := 22) rfl)))
  obtain ⟨c4, i4, k4⟩ := u_known (C := RX4) (T := TX4) (N := 6) (n := 6) hts (fun w h => inX4 w h) (hts _ (wsL_law_r1_in _ (List.mem_of_getElem? (i := 1) rfl)))
  obtain ⟨cI, kI, coI, f1, f2, f3⟩ := Cond.arrayClass_spec (hts _ (wsL_law_r2_in (Cond.arrayClass .int) (List.mem_of_getElem? (i := 10) rfl)))
  obtain ⟨cZ, kZ, coZ, g1, g2, g3⟩ := Cond.arrayClass_spec (hts _ (wsL_law_r2_in (Cond.arrayClass .boolean) (List.mem_of_getElem? (i := 14) rfl)))
  have hao : (Cond.arrayOver (.object "CastingFeeder$Casting")).before #[Value.ref b] s = true := hts _ (by decide +kernel)
  obtain ⟨comp, cQ, kQ, q1, q2, q3, q4, q5⟩ := Cond.arrayOver_spec hao
  refine ⟨(((fun k => if k = 0 then c0 else if k = 1 then c1 else if k = 2 then c2 else if k = 3 then c3 else c4), (fun k => if k = 0 then i0 else if k = 1 then i1 else if k = 2 then i2 else if k = 3 then i3 else i4)), cI, cZ, cQ), ⟨fun k q hq => ?_, fun k q hq => ?_⟩, fun q hq => ?_, va_AO.of hao⟩
  · match k, hq with
    | 0, hq => cases hq; exact k0
    | 1, hq => cases hq; exact k1
    | 2, hq => cases hq; exact k2
    | 3, hq => cases hq; exact k3
    | 4, hq => cases hq; exact k4
    | k + 5, hq => simp [vwCl] at hq
  · match k, hq with
    | 0, hq => cases hq; exact ⟨fun N z => ⟨(fun k h => by cases h), kI, f2, coI, f3⟩, f1⟩
    | 1, hq => cases hq; exact ⟨fun N z => ⟨(fun k h => by cases h), kZ, g2, coZ, g3⟩, g1⟩
    | 2, hq => cases hq; exact ⟨fun N z => ⟨(fun k h => by cases h), kQ, q3, comp, q4⟩, kQ, comp, q3, q4, q1, q5⟩
    | k + 3, hq => simp [g_ty] at hq
  · have hin : g_nc q ∈ lw_tbl := by
      revert q
      decide +kernel
    exact va_Nw.of rfl (hts _ hin)
set_option maxHeartbeats 4000000 in
set_option maxRecDepth 100000 in
theorem whole_start {p : Program} {e : Env} {s : State} {m : MethodId} {below : List Frame} {meth : Method} {c : Code} (l : Launch) (hflags : l.flags = flags0) {b L : Nat} {xs : Nat → Int32} (hL : L ≤ 260) (C0 : lw_At p s m meth c b L xs) : W p l e room_1 s m #[Value.ref b] below meth c s.heap [] 0 0 (lw_Z below #[Value.ref b] s) (entryFrame m ([Value.ref b] : List Value).toArray 9) := by
  obtain ⟨hx, hb, hr, hml, hown, htt, hX, hbl, hlocks, hgv⟩ := id C0
  obtain ⟨G, hKK⟩ := kk_ok htt
  have hts : ∀ w ∈ wsL_law, w.before #[Value.ref b] s = true := fun w h => htt w (wsL_law_in w h)
  have hbA : ¬ (fun q : Nat => s.heap.size ≤ q) b := Nat.not_le.mpr hbl
  have X : Cx p s m #[Value.ref b] meth c cL_law 9 ret wsL_law RL G (fun q : Nat => s.heap.size ≤ q) := ⟨⟨hx, hb, hml, hown, hts⟩, hKK, hr, hlocks, fun _ h => h⟩
  have hw : Wd G (fun q : Nat => s.heap.size ≤ q) s s.heap [] (fl []) := ⟨fun k q h => by simp at h, ⟨fun i j p q h => by simp at h, fun k q h => by simp at h⟩, va_S.rf⟩
  have hl := lv_entry ([.ref b]) (n := 9) (Nat.le_of_ble_eq_true rfl)
  rw [lg_entry_eq]
  generalize (lg_sl ([.ref b]) ++ List.replicate (9 - (lg_sl ([.ref b])).length) Slot.unset).toArray = ls at hl ⊢
  have hl : lv_has ls 9 [(0, .ref b)] := hl
  have r1 : ∀ w ∈ wsL_law_r1, w ∈ wsL_law := fun _ h => List.mem_append_left _ (List.mem_append_left _ (List.mem_append_left _ (List.mem_append_left _ (List.mem_append_left _ (List.mem_append_left _ (List.mem_append_left _ h))))))
  refine x_new (ci := 4) (fs := [.null, .null, .null, .null, .null, .null]) X hw inlX4 tyX4 tyX4_ok (r1 _ (List.mem_of_getElem? (i := 0) rfl)) (r1 _ (List.mem_of_getElem? (i := 1) rfl)) (r1 _ (List.mem_of_getElem? (i := 2) rfl)) rfl (by decide) (Nat.le_of_ble_eq_true rfl) (Nat.le_of_ble_eq_true rfl) dL_law_0 (fun q0 H hw => ?_)
  have hw : Wd G (fun q : Nat => s.heap.size ≤ q) s H _ (fl [[(q0, .inr (4, [.null, .null, .null, .null, .null, .null]))]]) := hw
  refine W.widen (k := 1) (n := 6) (Nat.le_of_ble_eq_true rfl) (Nat.le_of_ble_eq_true rfl) ?_
  refine lv_dup hx hb dL_law_3 rfl ?_
  refine x_Ii (w' := fun u => fl (newX G q0 u)) X hw (m_X4_init (G := G) (l := l) (q := q0)) ⟨(fun _ => 0, fun _ => 0, fun _ => 0, fun _ => 0, fun _ => 0, fun _ => 0, fun _ _ => 0)⟩ (fun u => Cut.all) (cwI 0 hts gL_law_X4_init rfl rfl rfl (htt (.initialized RX4) (by decide +kernel)) (htt (.methodLink RL 91 yX4_init) (by decide +kernel)) (htt (.instanceMethod yX4_init) (by decide +kernel)) rfl hd_X4_init.2 ⟨Nat.le_of_ble_eq_true rfl, Nat.le_of_ble_eq_true rfl⟩) hl.1 rfl (Nat.le_of_ble_eq_true rfl) dL_law_4 ⟨Nat.le_of_ble_eq_true rfl, Nat.le_of_ble_eq_true rfl⟩ (fun u H locs hu hw => ?_)
  refine W.widen (k := 600000) (n := 7302250) (Nat.le_of_ble_eq_true rfl) (Nat.le_of_ble_eq_true rfl) ?_
  have hw : Wd G (fun q : Nat => s.heap.size ≤ q) s H locs (fl [xB q0 u.1 u.2.1 u.2.2.1 u.2.2.2.1 u.2.2.2.2.1 u.2.2.2.2.2.1, cB G u.1 new_C, fB G u.2.1 new_F, hB G u.2.2.1 (new_H u.2.2.2.2.2.2), tB G u.2.2.2.1 new_T, cB G u.2.2.2.2.1 new_C, fB G u.2.2.2.2.2.1 new_F]) := hw
  refine lv_astore_n (lv' := [(1, .ref q0), (0, .ref b)]) hx hb dL_law_7 rfl hl (by decide) rfl (fun ls hl => ?_)
  obtain ⟨zc, zf, zh, zt, zr, zd, e1⟩ := law_ok (L := L) (xs := xs) (vr := new_C) (vd := new_F) (relC0 (a := u.2.2.2.2.2.2))
  exact w_L_law X hX hbl hbA (by omega) (fun H locs ls hw => va_forget (fun q hq => hw.2.2.2.2 q hq) (lw_ret hx hb hr hlocks dL_law_499)) e1 hw hl
