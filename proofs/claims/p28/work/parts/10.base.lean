/-! ===== 02.base: worlds by blocks; contracts; the rules that the walks use ===== -/
/-- the classes' numbers; the array classes of int, boolean, Casting -/
abbrev GG : Type := va_G × ClassId × ClassId × ClassId
def g_ty (G : GG) : List (ClassId × FieldType) := [(G.2.1, .int), (G.2.2.1, .boolean), (G.2.2.2, .object "CastingFeeder$Casting")]
/-- links to private members of a nest mate -/
def g_nw : List (String × Nat × MethodName) := [(RX4, 18, yX1_init), (RX4, 32, yX3_init), (RX4, 9, yX0_init), (RX0, 48, yX4_at), (RX0, 69, yX4_put), (RX1, 47, yX4_put), (RX1, 67, yX4_at), (RX1, 87, yX4_sum), (RX2, 21, yX0_init), (RX3, 85, yX4_isWithin)]
abbrev g_nc (q : String × Nat × MethodName) : Cond := .methodLinkNest q.1 q.2.1 q.2.2 "CastingFeeder"
def KK (G : GG) (U : State) : Prop := va_K G.1 vwCl (g_ty G) U ∧ (∀ q ∈ g_nw, va_Nw (g_nc q) U) ∧ va_AO "CastingFeeder$Casting" U
theorem KK.warm {G : GG} {s U : State} (hW : s.WarmedH U.vm) (h : KK G s) : KK G U := ⟨va_K.moved hW.alike h.1, fun q hq => va_Nw.warmM hW (h.2.1 q hq), va_AO.moved hW.alike h.2.2⟩
theorem KK.calling {G : GG} {U : State} {g : JFrame} {mk : MethodId} {a : Array Value} (h : KK G U) : KK G (U.calling g mk a) := ⟨va_K.moved (u := U) (U := U.calling g mk a) (Vm.Alike.refl U.vm) h.1, fun q hq => va_Nw.same (u := U) (U := U.calling g mk a) rfl rfl (h.2.1 q hq), va_AO.moved (u := U) (U := U.calling g mk a) (Vm.Alike.refl U.vm) h.2.2⟩
/-- what a walk holds of the heap -/
def Wd (G : GG) (A : Nat → Prop) (s : State) (H : Heap) (locs : List Loc) (ws : va_W) : Prop := va_P G.1 vwCl ws H ∧ va_D A ws ∧ va_S A s.heap H locs
/-- what a walk holds of its method -/
def Cx (p : Program) (s : State) (m : MethodId) (args : Array Value) (meth : Method) (c : Code) (cc : ByteArray) (nL : Nat) (ret : Option FieldType) (Ts : List Cond) (own : String) (G : GG) (A : Nat → Prop) : Prop :=
  CallFix p m c cc nL s args Ts own ∧ KK G s ∧ meth.sig.returnType = ret ∧ meth.locks = false ∧ ∀ q : Nat, s.heap.size ≤ q → A q
abbrev Qi (G : GG) (A : Nat → Prop) (r : Int32) (w1 : va_W) : Array Value → State → Outcome → State → Prop := va_Qi (fun (r' : Int32) (_ : Unit) => r' = r) (fun _ t => va_P G.1 vwCl w1 t.heap ∧ va_D A w1) A
abbrev Ql (G : GG) (A : Nat → Prop) (r : Int64) (w1 : va_W) : Array Value → State → Outcome → State → Prop := va_Ql (fun (r' : Int64) (_ : Unit) => r' = r) (fun _ t => va_P G.1 vwCl w1 t.heap ∧ va_D A w1) A
abbrev Qv (G : GG) (A : Nat → Prop) (w1 : va_W) : Array Value → State → Outcome → State → Prop := va_Qv (fun (_ : Unit) => True) (fun _ t => va_P G.1 vwCl w1 t.heap ∧ va_D A w1) A
abbrev Pg (G : GG) (av : List Value) (w0 : va_W) (sz : Nat) : Array Value → State → Prop := va_Pc av (fun U => U.heap.size = sz ∧ va_P G.1 vwCl w0 U.heap ∧ KK G U ∧ va_D (fun _ => True) w0)
def Ci (G : GG) (l : Launch) (y : MethodName) (ws : List Cond) (rm : Room) (av : List Value) (w0 : va_W) (r : Int32) (w1 : va_W) : Prop := ∀ sz : Nat, Met l y ws rm (Pg G av w0 sz) (Qi G (va_A w0 sz) r w1) 0 0 (va_A w0 sz)
def Cl (G : GG) (l : Launch) (y : MethodName) (ws : List Cond) (rm : Room) (av : List Value) (w0 : va_W) (r : Int64) (w1 : va_W) : Prop := ∀ sz : Nat, Met l y ws rm (Pg G av w0 sz) (Ql G (va_A w0 sz) r w1) 0 0 (va_A w0 sz)
def Cv (G : GG) (l : Launch) (y : MethodName) (ws : List Cond) (rm : Room) (av : List Value) (w0 : va_W) (w1 : va_W) : Prop := ∀ sz : Nat, Met l y ws rm (Pg G av w0 sz) (Qv G (va_A w0 sz) w1) 0 0 (va_A w0 sz)
theorem Pg.blind {G : GG} {av : List Value} {w0 : va_W} {sz : Nat} : FrameBlind (Pg G av w0 sz) := fun a U g mk q => by
  obtain ⟨q0, q1, qP, qK, qD⟩ := q
  exact ⟨q0, q1, qP, qK.calling, qD⟩
/-! the lists -/
theorem P_iff {D : va_G} {cl : List vw_C} {ws : va_W} {H : Heap} : va_P D cl ws H ↔ ∀ q ∈ ws, va_at D cl q H := ⟨fun h q hq => by
  obtain ⟨k, hk⟩ := List.getElem?_of_mem hq
  exact h k q hk, fun h k q hk => h q (List.mem_of_getElem? hk)⟩
theorem D_iff {A : Nat → Prop} {ws : va_W} : va_D A ws ↔ ws.Pairwise (fun p q => p.1 ≠ q.1) ∧ ∀ q ∈ ws, A q.1 := by
  constructor
  · intro h
    refine ⟨List.pairwise_iff_getElem.mpr fun i j hi hj hij e => ?_, fun q hq => ?_⟩
    · have := h.1 i j _ _ (List.getElem?_eq_getElem hi) (List.getElem?_eq_getElem hj) e
      omega
    · obtain ⟨k, hk⟩ := List.getElem?_of_mem hq
      exact h.2 k q hk
  · intro h
    have h1 := List.pairwise_iff_getElem.mp h.1
    refine ⟨fun i j x y hx hy e => ?_, fun k q hk => h.2 q (List.mem_of_getElem? hk)⟩
    obtain ⟨hi, ei⟩ := List.getElem?_eq_some_iff.mp hx
    obtain ⟨hj, ej⟩ := List.getElem?_eq_some_iff.mp hy
    rcases Nat.lt_trichotomy i j with q | q | q
    · exact absurd (by rw [ei, ej]; exact e) (h1 i j hi hj q)
    · exact q
    · exact absurd (by rw [ei, ej]; exact e.symm) (h1 j i hj hi q)
theorem P_perm {D : va_G} {cl : List vw_C} {ws ws' : va_W} {H : Heap} (h : List.Perm ws ws') (hP : va_P D cl ws H) : va_P D cl ws' H := P_iff.mpr fun q hq => P_iff.mp hP q (h.mem_iff.mpr hq)
theorem D_perm {A : Nat → Prop} {ws ws' : va_W} (h : List.Perm ws ws') (hD : va_D A ws) : va_D A ws' := by
  obtain ⟨h1, h2⟩ := D_iff.mp hD
  exact D_iff.mpr ⟨(h.pairwise_iff (fun h => Ne.symm h)).mp h1, fun q hq => h2 q (h.mem_iff.mpr hq)⟩
theorem D_app {A : Nat → Prop} {a b : va_W} : va_D A (a ++ b) ↔ va_D A a ∧ va_D A b ∧ ∀ p ∈ a, ∀ q ∈ b, p.1 ≠ q.1 := by
  rw [D_iff, D_iff, D_iff, List.pairwise_append]
  constructor
  · rintro ⟨⟨h1, h2, h3⟩, h4⟩
    exact ⟨⟨h1, fun q hq => h4 q (List.mem_append_left _ hq)⟩, ⟨h2, fun q hq => h4 q (List.mem_append_right _ hq)⟩, h3⟩
  · rintro ⟨⟨h1, h2⟩, ⟨h3, h4⟩, h5⟩
    exact ⟨⟨h1, h3, h5⟩, fun q hq => (List.mem_append.mp hq).elim (h2 q) (h4 q)⟩
theorem P_app {D : va_G} {cl : List vw_C} {a b : va_W} {H : Heap} : va_P D cl (a ++ b) H ↔ va_P D cl a H ∧ va_P D cl b H := by
  rw [P_iff, P_iff, P_iff]
  exact ⟨fun h => ⟨fun q hq => h q (List.mem_append_left _ hq), fun q hq => h q (List.mem_append_right _ hq)⟩, fun h q hq => (List.mem_append.mp hq).elim (h.1 q) (h.2 q)⟩
abbrev fl (bs : List va_W) : va_W := bs.flatten
def pk_ (bs : List va_W) (is : List Nat) : List va_W := is.filterMap (fun i => bs[i]?)
theorem range_pick {α : Type} (l : List α) : (List.range l.length).filterMap (fun i => l[i]?) = l := by
  induction l with
  | nil => rfl
  | cons a l ih =>
    rw [List.length_cons, List.range_succ_eq_map, List.filterMap_cons]
    simp only [List.getElem?_cons_zero, List.filterMap_map]
    congr 1
theorem perm_pick {bs : List va_W} {is : List Nat} {n : Nat} (hn : bs.length = n) (h : List.isPerm is (List.range n) = true) : List.Perm (fl bs) (fl (pk_ bs is)) := by
  subst hn
  have h1 : List.Perm is (List.range bs.length) := List.isPerm_iff.mp h
  have h2 := (h1.symm.filterMap (fun i => bs[i]?))
  rw [range_pick] at h2
  exact h2.flatten
/-- the world's blocks in another order -/
theorem Wd.to {G : GG} {A : Nat → Prop} {s : State} {H : Heap} {locs : List Loc} {bs : List va_W} {w : va_W} (h : Wd G A s H locs (fl bs)) (is : List Nat) {n : Nat} (hn : bs.length = n) (hp : List.isPerm is (List.range n) = true) (hw : fl (pk_ bs is) = w) : Wd G A s H locs w := by
  subst hw
  exact ⟨P_perm (perm_pick hn hp) h.1, D_perm (perm_pick hn hp) h.2.1, h.2.2⟩
/-- the frame: what is not the callee's stays -/
theorem frame_join {A0 : Nat → Prop} {D : va_G} {cl : List vw_C} {w0 wr w1 : va_W} {H H1 : Heap} (hP : va_P D cl (w0 ++ wr) H) (hD : va_D A0 (w0 ++ wr)) (hk : ∀ q : Nat, q < H.size → ¬ va_A w0 H.size q → H1[q]? = H[q]?) (hF : ∀ q, va_A w0 H.size q → A0 q) (hP1 : va_P D cl w1 H1) (hD1 : va_D (va_A w0 H.size) w1) : va_P D cl (w1 ++ wr) H1 ∧ va_D A0 (w1 ++ wr) := by
  obtain ⟨hP0, hPr⟩ := P_app.mp hP
  obtain ⟨hD0, hDr, hx⟩ := D_app.mp hD
  have out : ∀ q ∈ wr, q.1 < H.size ∧ ¬ va_A w0 H.size q.1 := fun q hq => by
    have hl := (P_iff.mp hPr q hq).lt
    refine ⟨hl, fun h => ?_⟩
    rcases h with ⟨k, e, h⟩ | h
    · exact hx _ (List.mem_of_getElem? h) q hq rfl
    · omega
  refine ⟨P_app.mpr ⟨hP1, P_iff.mpr fun q hq => (P_iff.mp hPr q hq).kept (hk q.1 (out q hq).1 (out q hq).2)⟩, D_app.mpr ⟨hD1.weaken (fun _ q _ h => hF q.1 h), hDr, fun p hp q hq e => ?_⟩⟩
  exact (out q hq).2 (e ▸ (D_iff.mp hD1).2 p hp)
/-- a callee's part w0 of the world w; what comes back is w1, the world then w' -/
def Cut (w w0 w1 w' : va_W) : Prop := ∃ wr : va_W, List.Perm w (w0 ++ wr) ∧ List.Perm (w1 ++ wr) w'
theorem Cut.all {w w1 : va_W} : Cut w w w1 w1 := ⟨[], by rw [List.append_nil], by rw [List.append_nil]⟩
theorem Cut.nil {w : va_W} : Cut w [] [] w := ⟨w, List.Perm.refl _, List.Perm.refl _⟩
/-- by the places of its blocks, and of the rest -/
theorem Cut.blocks {bs : List va_W} {w0 w1 : va_W} {bs' : List va_W} (is js ks : List Nat) (cs' : List va_W) (h1 : List.isPerm (is ++ js) (List.range bs.length) = true) (h2 : fl (pk_ bs is) = w0) (h3 : fl cs' = w1) (h4 : List.isPerm ks (List.range (cs' ++ pk_ bs js).length) = true) (h5 : pk_ (cs' ++ pk_ bs js) ks = bs') : Cut (fl bs) w0 w1 (fl bs') := by
  subst h2; subst h3; subst h5
  refine ⟨fl (pk_ bs js), ?_, ?_⟩
  · have := perm_pick rfl h1
    have e : fl (pk_ bs (is ++ js)) = fl (pk_ bs is) ++ fl (pk_ bs js) := by simp [fl, pk_, List.filterMap_append]
    rw [e] at this
    exact this
  · have := perm_pick rfl h4
    have e : fl (cs' ++ pk_ bs js) = fl cs' ++ fl (pk_ bs js) := by simp [fl]
    rw [e] at this
    exact this
theorem perm_at {α : Type} : ∀ {l : List α} {k : Nat} {q q' : α}, l[k]? = some q → List.Perm l (q :: l.eraseIdx k) ∧ List.Perm (q' :: l.eraseIdx k) (l.set k q')
  | [], k, q, q', h => by simp at h
  | a :: l, 0, q, q', h => by
    simp only [List.getElem?_cons_zero, Option.some.injEq] at h
    subst h
    exact ⟨List.Perm.refl _, List.Perm.refl _⟩
  | a :: l, k + 1, q, q', h => by
    rw [List.getElem?_cons_succ] at h
    obtain ⟨h1, h2⟩ := perm_at (q' := q') h
    simp only [List.eraseIdx_cons_succ, List.set_cons_succ]
    exact ⟨(h1.cons a).trans (List.Perm.swap _ _ _), (List.Perm.swap _ _ _).trans (h2.cons a)⟩
/-- one cell of one block -/
theorem fl_at : ∀ {bs : List va_W} {j : Nat} {blk : va_W} {i : Nat} {q q' : Nat × va_E}, bs[j]? = some blk → blk[i]? = some q → ∃ k, (fl bs)[k]? = some q ∧ (fl bs).set k q' = fl (bs.set j (blk.set i q'))
  | [], j, blk, i, q, q', h, _ => by simp at h
  | b :: bs, 0, blk, i, q, q', h, hi => by
    simp only [List.getElem?_cons_zero, Option.some.injEq] at h
    subst h
    have hl := (List.getElem?_eq_some_iff.mp hi).1
    refine ⟨i, ?_, ?_⟩
    · show (b ++ fl bs)[i]? = _
      rw [List.getElem?_append_left hl]
      exact hi
    · show (b ++ fl bs).set i q' = b.set i q' ++ fl bs
      rw [List.set_append_left _ _ hl]
  | b :: bs, j + 1, blk, i, q, q', h, hi => by
    rw [List.getElem?_cons_succ] at h
    obtain ⟨k, h1, h2⟩ := fl_at (q' := q') h hi
    refine ⟨b.length + k, ?_, ?_⟩
    · show (b ++ fl bs)[b.length + k]? = _
      rw [List.getElem?_append_right (by omega), Nat.add_sub_cancel_left]
      exact h1
    · show (b ++ fl bs).set (b.length + k) q' = b ++ fl (bs.set j (blk.set i q'))
      rw [List.set_append_right _ _ (by omega), Nat.add_sub_cancel_left, h2]
theorem Cut.cell {bs bs' : List va_W} {blk : va_W} {q0 q1 : Nat × va_E} (j i : Nat) (hj : bs[j]? = some blk) (hi : blk[i]? = some q0) (h : bs.set j (blk.set i q1) = bs') : Cut (fl bs) [q0] [q1] (fl bs') := by
  obtain ⟨k, h1, h2⟩ := fl_at (q' := q1) hj hi
  obtain ⟨h3, h4⟩ := perm_at (q' := q1) h1
  subst h
  rw [← h2]
  exact ⟨(fl bs).eraseIdx k, h3, h4⟩
theorem Cut.cellr {bs : List va_W} {blk : va_W} {q0 : Nat × va_E} (j i : Nat) (hj : bs[j]? = some blk) (hi : blk[i]? = some q0) : Cut (fl bs) [q0] [q0] (fl bs) := by
  obtain ⟨k, h1, -⟩ := fl_at (q' := q0) hj hi
  obtain ⟨h3, -⟩ := perm_at (q' := q0) h1
  exact ⟨(fl bs).eraseIdx k, h3, h3.symm⟩
section CR
variable {p : Program} {l : Launch} {e : Env} {R : Room} {s : State} {m : MethodId} {args : Array Value} {below : List Frame} {meth : Method} {c : Code} {H : Heap} {locs : List Loc} {cells slots : Nat} {Q : State → Prop}
variable {cc : ByteArray} {nL : Nat} {ret : Option FieldType} {Ts : List Cond} {own : String} {G : GG} {A : Nat → Prop} {pc : Nat} {ls : Array Slot} {st0 rest : List Value} {mc ms : Nat}
theorem free_of {w w0 w1 w' : va_W} (X : Cx p s m args meth c cc nL ret Ts own G A) (hw : Wd G A s H locs w) (h : Cut w w0 w1 w') : ∀ q, va_A w0 H.size q → A q := by
  intro q hq
  rcases hq with ⟨k, e, hq⟩ | hq
  · exact (D_iff.mp hw.2.1).2 _ (h.choose_spec.1.mem_iff.mpr (List.mem_append_left _ (List.mem_of_getElem? hq)))
  · exact X.2.2.2.2 q (Nat.le_trans hw.2.2.1 hq)
theorem pre_of {w w0 w1 w' : va_W} {av : List Value} (X : Cx p s m args meth c cc nL ret Ts own G A) (hw : Wd G A s H locs w) (h : Cut w w0 w1 w') : ∀ U : State, U.heap = H → s.WarmedH U.vm → Pg G av w0 H.size av.toArray U := by
  intro U hU hW
  refine ⟨rfl, by rw [hU], by rw [hU]; exact (P_app.mp (P_perm h.choose_spec.1 hw.1)).1, X.2.1.warm hW, (D_app.mp (D_perm h.choose_spec.1 hw.2.1)).1.weaken (fun _ _ _ _ => trivial)⟩
theorem back_w {w w0 w1 w' : va_W} {H1 : Heap} {locs1 : List Loc} (X : Cx p s m args meth c cc nL ret Ts own G A) (hw : Wd G A s H locs w) (h : Cut w w0 w1 w') (hP1 : va_P G.1 vwCl w1 H1) (hD1 : va_D (va_A w0 H.size) w1) (hk : ∀ q : Nat, q < H.size → ¬ va_A w0 H.size q → H1[q]? = H[q]?) (hS1 : va_S A s.heap H1 locs1) : Wd G A s H1 locs1 w' := by
  obtain ⟨a, b⟩ := frame_join (P_perm h.choose_spec.1 hw.1) (D_perm h.choose_spec.1 hw.2.1) hk (free_of X hw h) hP1 hD1
  exact ⟨P_perm h.choose_spec.2 a, D_perm h.choose_spec.2 b, hS1⟩
/-- behind a run of a callee -/
theorem after_i {w w0 w1 w' : va_W} {a : Array Value} {r : Int32} (X : Cx p s m args meth c cc nL ret Ts own G A) (hw : Wd G A s H locs w) (h : Cut w w0 w1 w')
    (hr : va_Run p l e R s m args below meth c H locs cells slots 0 0 (F0 m pc ls st0) rest (Qi G (va_A w0 H.size) r w1 a) (va_A w0 H.size))
    (kk : ∀ (H : Heap) (locs : List Loc), Wd G A s H locs w' → W p l e R s m args below meth c H locs cells slots Q (F0 m (pc + 3) ls (.int r :: rest))) : W p l e R s m args below meth c H locs cells slots Q (F0 m pc ls st0) :=
  va_calli hr hw.2.2 (fun q _ hq => free_of X hw h q hq) (free_of X hw h) (fun r' u t H1 locs1 ht hvm hp hb hz1 hk1 hS1 => by
    subst hp; subst ht
    exact kk _ _ (back_w X hw h hb.1 hb.2 hk1 hS1))
theorem after_l {w w0 w1 w' : va_W} {a : Array Value} {r : Int64} (X : Cx p s m args meth c cc nL ret Ts own G A) (hw : Wd G A s H locs w) (h : Cut w w0 w1 w')
    (hr : va_Run p l e R s m args below meth c H locs cells slots 0 0 (F0 m pc ls st0) rest (Ql G (va_A w0 H.size) r w1 a) (va_A w0 H.size))
    (kk : ∀ (H : Heap) (locs : List Loc), Wd G A s H locs w' → W p l e R s m args below meth c H locs cells slots Q (F0 m (pc + 3) ls (.long r :: rest))) : W p l e R s m args below meth c H locs cells slots Q (F0 m pc ls st0) :=
  va_calll hr hw.2.2 (fun q _ hq => free_of X hw h q hq) (free_of X hw h) (fun r' u t H1 locs1 ht hvm hp hb hz1 hk1 hS1 => by
    subst hp; subst ht
    exact kk _ _ (back_w X hw h hb.1 hb.2 hk1 hS1))
theorem after_v {w w0 w1 w' : va_W} {a : Array Value} (X : Cx p s m args meth c cc nL ret Ts own G A) (hw : Wd G A s H locs w) (h : Cut w w0 w1 w')
    (hr : va_Run p l e R s m args below meth c H locs cells slots 0 0 (F0 m pc ls st0) rest (Qv G (va_A w0 H.size) w1 a) (va_A w0 H.size))
    (kk : ∀ (H : Heap) (locs : List Loc), Wd G A s H locs w' → W p l e R s m args below meth c H locs cells slots Q (F0 m (pc + 3) ls rest)) : W p l e R s m args below meth c H locs cells slots Q (F0 m pc ls st0) :=
  va_callv hr hw.2.2 (fun q _ hq => free_of X hw h q hq) (free_of X hw h) (fun u t H1 locs1 ht hvm hp hb hz1 hk1 hS1 => by
    subst ht
    exact kk _ _ (back_w X hw h hb.1 hb.2 hk1 hS1))
variable {y : MethodName} {bytes : ByteArray} {maxL n index : Nat} {ry : Option FieldType} {ws : List Cond} {rm : Room} {C : String} {b : Addr} {As : List Value} {w w0 w1 w' : va_W}
theorem recvW {bs : List va_W} {blk : va_W} {ci : Nat} {q : vw_C} {fs : List Value} (j i : Nat) (X : Cx p s m args meth c cc nL ret Ts own G A) (hw : Wd G A s H locs (fl bs)) (hj : bs[j]? = some blk) (he : blk[i]? = some (b, .inr (ci, fs))) (hc : vwCl[ci]? = some q) : ∃ cellB : Cell, H[b]? = some cellB ∧ cellB.vm.isStatics = false ∧ s.vm.findClass q.1 = some cellB.cls := by
  obtain ⟨k, h1, -⟩ := fl_at (q' := (b, .inr (ci, fs))) hj he
  exact va_recv X.2.1.1 hw.1 hc h1
theorem x_Vi {bs : List va_W} {blk : va_W} {ci : Nat} {q : vw_C} {fs : List Value} {r : Int32} (X : Cx p s m args meth c cc nL ret Ts own G A) (hw : Wd G A s H locs (fl bs)) (hC : Ci G l y ws rm (.ref b :: As) w0 r w1) (h : Cut (fl bs) w0 w1 w') (j i : Nat) (hj : bs[j]? = some blk) (he : blk[i]? = some (b, .inr (ci, fs))) (hc : vwCl[ci]? = some q)
    (cw : CallW R s args own q.1 index y bytes maxL ry ws rm 0 0 n) (hn : As.length = n) (hl : ls.size = nL) (hst : (As.reverse ++ .ref b :: rest) = st0) (hW : (rest.map fun v => v.category).sum ≤ 8) (hdg : decode cc pc = .ok (.invokevirtual index, 3)) (hf : cells ≤ R.cells ∧ slots ≤ R.slots)
    (kk : ∀ (H : Heap) (locs : List Loc), Wd G A s H locs w' → W p l e R s m args below meth c H locs cells slots Q (F0 m (pc + 3) ls (.int r :: rest))) : W p l e R s m args below meth c H locs cells slots Q (F0 m pc ls st0) := by
  subst hst
  exact after_i X hw h (va_runV (As := As) (rest := rest) X.1 (hC H.size) cw ⟨Pg.blind, recvW j i X hw hj he hc, pre_of X hw h⟩ rfl hn hl rfl (lv_room hW) hdg ⟨hf.1, hf.2⟩) kk
theorem x_Vl {bs : List va_W} {blk : va_W} {ci : Nat} {q : vw_C} {fs : List Value} {r : Int64} (X : Cx p s m args meth c cc nL ret Ts own G A) (hw : Wd G A s H locs (fl bs)) (hC : Cl G l y ws rm (.ref b :: As) w0 r w1) (h : Cut (fl bs) w0 w1 w') (j i : Nat) (hj : bs[j]? = some blk) (he : blk[i]? = some (b, .inr (ci, fs))) (hc : vwCl[ci]? = some q)
    (cw : CallW R s args own q.1 index y bytes maxL ry ws rm 0 0 n) (hn : As.length = n) (hl : ls.size = nL) (hst : (As.reverse ++ .ref b :: rest) = st0) (hW : (rest.map fun v => v.category).sum ≤ 8) (hdg : decode cc pc = .ok (.invokevirtual index, 3)) (hf : cells ≤ R.cells ∧ slots ≤ R.slots)
    (kk : ∀ (H : Heap) (locs : List Loc), Wd G A s H locs w' → W p l e R s m args below meth c H locs cells slots Q (F0 m (pc + 3) ls (.long r :: rest))) : W p l e R s m args below meth c H locs cells slots Q (F0 m pc ls st0) := by
  subst hst
  exact after_l X hw h (va_runV (As := As) (rest := rest) X.1 (hC H.size) cw ⟨Pg.blind, recvW j i X hw hj he hc, pre_of X hw h⟩ rfl hn hl rfl (lv_room hW) hdg ⟨hf.1, hf.2⟩) kk
theorem x_Vv {bs : List va_W} {blk : va_W} {ci : Nat} {q : vw_C} {fs : List Value} (X : Cx p s m args meth c cc nL ret Ts own G A) (hw : Wd G A s H locs (fl bs)) (hC : Cv G l y ws rm (.ref b :: As) w0 w1) (h : Cut (fl bs) w0 w1 w') (j i : Nat) (hj : bs[j]? = some blk) (he : blk[i]? = some (b, .inr (ci, fs))) (hc : vwCl[ci]? = some q)
    (cw : CallW R s args own q.1 index y bytes maxL ry ws rm 0 0 n) (hn : As.length = n) (hl : ls.size = nL) (hst : (As.reverse ++ .ref b :: rest) = st0) (hW : (rest.map fun v => v.category).sum ≤ 8) (hdg : decode cc pc = .ok (.invokevirtual index, 3)) (hf : cells ≤ R.cells ∧ slots ≤ R.slots)
    (kk : ∀ (H : Heap) (locs : List Loc), Wd G A s H locs w' → W p l e R s m args below meth c H locs cells slots Q (F0 m (pc + 3) ls rest)) : W p l e R s m args below meth c H locs cells slots Q (F0 m pc ls st0) := by
  subst hst
  exact after_v X hw h (va_runV (As := As) (rest := rest) X.1 (hC H.size) cw ⟨Pg.blind, recvW j i X hw hj he hc, pre_of X hw h⟩ rfl hn hl rfl (lv_room hW) hdg ⟨hf.1, hf.2⟩) kk
theorem x_Si {r : Int32} (X : Cx p s m args meth c cc nL ret Ts own G A) (hw : Wd G A s H locs w) (hC : Ci G l y ws rm As w0 r w1) (h : Cut w w0 w1 w')
    (cw : CallB R s args own index y bytes maxL ry ws rm 0 0 n ∧ (Cond.static y).before args s = true) (hn : As.length = n) (hl : ls.size = nL) (hst : (As.reverse ++ rest) = st0) (hW : (rest.map fun v => v.category).sum ≤ 8) (hdg : decode cc pc = .ok (.invokestatic index, 3)) (hf : cells ≤ R.cells ∧ slots ≤ R.slots)
    (kk : ∀ (H : Heap) (locs : List Loc), Wd G A s H locs w' → W p l e R s m args below meth c H locs cells slots Q (F0 m (pc + 3) ls (.int r :: rest))) : W p l e R s m args below meth c H locs cells slots Q (F0 m pc ls st0) := by
  subst hst
  exact after_i X hw h (va_runS (As := As) (rest := rest) X.1 (hC H.size) cw ⟨Pg.blind, pre_of X hw h⟩ rfl hn hl rfl (lv_room hW) hdg ⟨hf.1, hf.2⟩) kk
theorem x_Sv (X : Cx p s m args meth c cc nL ret Ts own G A) (hw : Wd G A s H locs w) (hC : Cv G l y ws rm As w0 w1) (h : Cut w w0 w1 w')
    (cw : CallB R s args own index y bytes maxL ry ws rm 0 0 n ∧ (Cond.static y).before args s = true) (hn : As.length = n) (hl : ls.size = nL) (hst : (As.reverse ++ rest) = st0) (hW : (rest.map fun v => v.category).sum ≤ 8) (hdg : decode cc pc = .ok (.invokestatic index, 3)) (hf : cells ≤ R.cells ∧ slots ≤ R.slots)
    (kk : ∀ (H : Heap) (locs : List Loc), Wd G A s H locs w' → W p l e R s m args below meth c H locs cells slots Q (F0 m (pc + 3) ls rest)) : W p l e R s m args below meth c H locs cells slots Q (F0 m pc ls st0) := by
  subst hst
  exact after_v X hw h (va_runS (As := As) (rest := rest) X.1 (hC H.size) cw ⟨Pg.blind, pre_of X hw h⟩ rfl hn hl rfl (lv_room hW) hdg ⟨hf.1, hf.2⟩) kk
theorem x_Ni {r : Int32} {host : String} (X : Cx p s m args meth c cc nL ret Ts own G A) (hw : Wd G A s H locs w) (hC : Ci G l y ws rm As w0 r w1) (h : Cut w w0 w1 w')
    (cw : va_CN R s args own index y host bytes maxL ry ws rm 0 0 n ∧ (Cond.static y).before args s = true ∧ True) (hn : As.length = n) (hl : ls.size = nL) (hst : (As.reverse ++ rest) = st0) (hW : (rest.map fun v => v.category).sum ≤ 8) (hdg : decode cc pc = .ok (.invokestatic index, 3)) (hf : cells ≤ R.cells ∧ slots ≤ R.slots)
    (kk : ∀ (H : Heap) (locs : List Loc), Wd G A s H locs w' → W p l e R s m args below meth c H locs cells slots Q (F0 m (pc + 3) ls (.int r :: rest))) : W p l e R s m args below meth c H locs cells slots Q (F0 m pc ls st0) := by
  subst hst
  exact after_i X hw h (va_runSN (As := As) (rest := rest) X.1 (hC H.size) cw ⟨Pg.blind, pre_of X hw h⟩ rfl hn hl rfl (lv_room hW) hdg ⟨hf.1, hf.2⟩) kk
theorem x_Nv {host : String} (X : Cx p s m args meth c cc nL ret Ts own G A) (hw : Wd G A s H locs w) (hC : Cv G l y ws rm As w0 w1) (h : Cut w w0 w1 w')
    (cw : va_CN R s args own index y host bytes maxL ry ws rm 0 0 n ∧ (Cond.static y).before args s = true ∧ True) (hn : As.length = n) (hl : ls.size = nL) (hst : (As.reverse ++ rest) = st0) (hW : (rest.map fun v => v.category).sum ≤ 8) (hdg : decode cc pc = .ok (.invokestatic index, 3)) (hf : cells ≤ R.cells ∧ slots ≤ R.slots)
    (kk : ∀ (H : Heap) (locs : List Loc), Wd G A s H locs w' → W p l e R s m args below meth c H locs cells slots Q (F0 m (pc + 3) ls rest)) : W p l e R s m args below meth c H locs cells slots Q (F0 m pc ls st0) := by
  subst hst
  exact after_v X hw h (va_runSN (As := As) (rest := rest) X.1 (hC H.size) cw ⟨Pg.blind, pre_of X hw h⟩ rfl hn hl rfl (lv_room hW) hdg ⟨hf.1, hf.2⟩) kk
/-! ends -/
theorem x_iret {v r : Int32} {w w1 : va_W} {rt : FieldType} (X : Cx p s m args meth c cc nL (some rt) Ts own G A) (hn : narrow rt (.int v) = .int v) (hw : Wd G A s H locs w) (he : w = w1) (hv : v = r) (hdg : decode cc pc = .ok (.ireturn, 1)) : W p l e R s m args below meth c H locs 0 0 (MQ below (Qi G A r w1) args s 0 0 A) (F0 m pc ls [.int v]) := by
  subst hv; subst he
  have hlk := X.2.2.2.1
  exact W.zret X.1.1 X.1.2.1 X.2.2.1 hn (fun t ht hW => ⟨⟨v, (), rfl, rfl, by rw [ht]; exact hw.1, hw.2.1⟩, hw.2.2.F ht⟩) hw.2.2.2.2 hdg
theorem x_lret {v r : Int64} {w w1 : va_W} (X : Cx p s m args meth c cc nL (some .long) Ts own G A) (hw : Wd G A s H locs w) (he : w = w1) (hv : v = r) (hdg : decode cc pc = .ok (.lreturn, 1)) : W p l e R s m args below meth c H locs 0 0 (MQ below (Ql G A r w1) args s 0 0 A) (F0 m pc ls [.long v]) := by
  subst hv; subst he
  have hlk := X.2.2.2.1
  exact W.lret X.1.1 X.1.2.1 X.2.2.1 (fun t ht hW => ⟨⟨v, (), rfl, rfl, by rw [ht]; exact hw.1, hw.2.1⟩, hw.2.2.F ht⟩) hw.2.2.2.2 hdg
theorem x_vret {w w1 : va_W} (X : Cx p s m args meth c cc nL none Ts own G A) (hw : Wd G A s H locs w) (he : w = w1) (hdg : decode cc pc = .ok (.return_, 1)) : W p l e R s m args below meth c H locs 0 0 (MQ below (Qv G A w1) args s 0 0 A) (F0 m pc ls []) := by
  subst he
  have hlk := X.2.2.2.1
  exact W.vret X.1.1 X.1.2.1 X.2.2.1 (fun t ht hW => ⟨⟨(), rfl, trivial, by rw [ht]; exact hw.1, hw.2.1⟩, hw.2.2.F ht⟩) hw.2.2.2.2 hdg
/-! fields and arrays -/
theorem x_get {Cn ref : String} {T : u_T} {N ci index : Nat} {a : Nat} {bs : List va_W} {blk : va_W} (j i : Nat) (X : Cx p s m args meth c cc nL ret Ts own G A) (hw : Wd G A s H locs (fl bs)) (hin : ∀ w ∈ u_ws Cn T N, w ∈ Ts) {fs : List Value} (hj : bs[j]? = some blk) (he : blk[i]? = some (a, .inr (ci, fs))) (hc : vwCl[ci]? = some (Cn, T, N)) (k : Nat) (hk : k < N) (hlink : Cond.fieldLink own index ref (T k).2.1 (T k).2.2.1 ∈ Ts) (href : (T k).1 = ref) {v : Value} (hv : fs[k]? = some v) (hdg : decode cc pc = .ok (.getfield index, 3))
    (kk : W p l e R s m args below meth c H locs cells slots Q (F0 m (pc + 3) ls (v :: rest))) : W p l e R s m args below meth c H locs cells slots Q (F0 m pc ls (.ref a :: rest)) := by
  obtain ⟨q0, h1, -⟩ := fl_at (q' := (a, .inr (ci, fs))) hj he
  exact va_get X.1.1 X.1.2.1 X.1.2.2.2.2 hin X.1.2.2.2.1 X.2.1.1 hw.1 q0 h1 hc k hk (X.1.2.2.2.2 _ hlink) (fun x h => by rw [← href]; exact h) hv hdg kk
theorem x_put {Cn ref : String} {T : u_T} {N ci index : Nat} {a : Nat} {bs bs' : List va_W} {blk : va_W} (j i : Nat) (X : Cx p s m args meth c cc nL ret Ts own G A) (hw : Wd G A s H locs (fl bs)) (hin : ∀ w ∈ u_ws Cn T N, w ∈ Ts) (ty0 : Nat → FieldType) (hty : ∀ k, k < N → parseFieldDescriptor (T k).2.2.1 = some (ty0 k)) (hnm : ∀ a, a < N → ∀ b, b < N → a ≠ b → (T a).2.1 ≠ (T b).2.1) {fs : List Value} (hj : bs[j]? = some blk) (he : blk[i]? = some (a, .inr (ci, fs))) (hc : vwCl[ci]? = some (Cn, T, N)) (k : Nat) (hk : k < N) (hlink : Cond.fieldLink own index ref (T k).2.1 (T k).2.2.1 ∈ Ts) (href : (T k).1 = ref) (hfin : (T k).2.2.2 = false) {v : Value} (hn : narrow (ty0 k) v = v) (hfit : fits (ty0 k) v = true) (hl : k < fs.length) (hdg : decode cc pc = .ok (.putfield index, 3)) (hw' : bs.set j (blk.set i (a, .inr (ci, fs.set k v))) = bs')
    (kk : ∀ (H : Heap) (locs : List Loc), Wd G A s H locs (fl bs') → W p l e R s m args below meth c H locs cells slots Q (F0 m (pc + 3) ls rest)) : W p l e R s m args below meth c H locs cells slots Q (F0 m pc ls (v :: .ref a :: rest)) := by
  subst hw'
  obtain ⟨q0, h1, h2⟩ := fl_at (q' := (a, .inr (ci, fs.set k v))) hj he
  rw [← h2] at kk
  exact va_put X.1.1 X.1.2.1 X.1.2.2.2.2 hin ty0 hty hnm X.1.2.2.2.1 X.2.1.1 hw.1 hw.2.1 hw.2.2 q0 h1 hc k hk (X.1.2.2.2.2 _ hlink) (fun x h => by rw [← href]; exact h) hfin (hty k hk) hn hfit hl hdg (fun H1 locs1 a b c => kk H1 locs1 ⟨a, b, c⟩)
theorem x_iald {a nA : Nat} {f : Nat → Int32} {x : Int32} {bs : List va_W} {blk : va_W} (j i : Nat) (X : Cx p s m args meth c cc nL ret Ts own G A) (hw : Wd G A s H locs (fl bs)) (hj : bs[j]? = some blk) (ha : blk[i]? = some (a, .inl (G.2.1, nA, .inl f))) (hin : vp_in x nA) (hdg : decode cc pc = .ok (.iaload, 1))
    (kk : W p l e R s m args below meth c H locs cells slots Q (F0 m (pc + 1) ls (.int (f x.toNatClampNeg) :: rest))) : W p l e R s m args below meth c H locs cells slots Q (F0 m pc ls (.int x :: .ref a :: rest)) := by
  obtain ⟨q0, h1, -⟩ := fl_at (q' := (a, .inl (G.2.1, nA, .inl f))) hj ha
  exact va_iald X.1.1 X.1.2.1 X.2.1.1 hw.1 q0 0 h1 rfl hin hdg kk
theorem x_zald {a nA : Nat} {f : Nat → Int32} {x : Int32} {bs : List va_W} {blk : va_W} (j i : Nat) (X : Cx p s m args meth c cc nL ret Ts own G A) (hw : Wd G A s H locs (fl bs)) (hj : bs[j]? = some blk) (ha : blk[i]? = some (a, .inl (G.2.2.1, nA, .inl f))) (hin : vp_in x nA) (hdg : decode cc pc = .ok (.baload, 1))
    (kk : W p l e R s m args below meth c H locs cells slots Q (F0 m (pc + 1) ls (.int (f x.toNatClampNeg) :: rest))) : W p l e R s m args below meth c H locs cells slots Q (F0 m pc ls (.int x :: .ref a :: rest)) := by
  obtain ⟨q0, h1, -⟩ := fl_at (q' := (a, .inl (G.2.2.1, nA, .inl f))) hj ha
  exact va_zald X.1.1 X.1.2.1 X.2.1.1 hw.1 q0 1 h1 rfl hin hdg kk
theorem x_iast {a nA : Nat} {f : Nat → Int32} {x v : Int32} {bs bs' : List va_W} {blk : va_W} (j i : Nat) (X : Cx p s m args meth c cc nL ret Ts own G A) (hw : Wd G A s H locs (fl bs)) (hj : bs[j]? = some blk) (ha : blk[i]? = some (a, .inl (G.2.1, nA, .inl f))) (hin : vp_in x nA) (hdg : decode cc pc = .ok (.iastore, 1)) (hw' : bs.set j (blk.set i (a, .inl (G.2.1, nA, .inl (upd f x.toNatClampNeg v)))) = bs')
    (kk : ∀ (H : Heap) (locs : List Loc), Wd G A s H locs (fl bs') → W p l e R s m args below meth c H locs cells slots Q (F0 m (pc + 1) ls rest)) : W p l e R s m args below meth c H locs cells slots Q (F0 m pc ls (.int v :: .int x :: .ref a :: rest)) := by
  subst hw'
  obtain ⟨q0, h1, h2⟩ := fl_at (q' := (a, .inl (G.2.1, nA, .inl (upd f x.toNatClampNeg v)))) hj ha
  rw [← h2] at kk
  exact va_iast X.1.1 X.1.2.1 X.2.1.1 hw.1 hw.2.1 hw.2.2 q0 0 h1 rfl hin hdg (fun H1 locs1 a b c => kk H1 locs1 ⟨a, b, c⟩)
theorem nar_z {x : Int32} (h : x = 0 ∨ x = 1) : vp_nar .boolean x = x := by rcases h with rfl | rfl <;> decide
theorem narz {x : Int32} (h : x = 0 ∨ x = 1) : narrow .boolean (.int x) = .int x := by rcases h with rfl | rfl <;> rfl
theorem x_zast {a nA : Nat} {f : Nat → Int32} {x v : Int32} {bs bs' : List va_W} {blk : va_W} (j i : Nat) (X : Cx p s m args meth c cc nL ret Ts own G A) (hw : Wd G A s H locs (fl bs)) (hj : bs[j]? = some blk) (ha : blk[i]? = some (a, .inl (G.2.2.1, nA, .inl f))) (hz : v = 0 ∨ v = 1) (hin : vp_in x nA) (hdg : decode cc pc = .ok (.bastore, 1)) (hw' : bs.set j (blk.set i (a, .inl (G.2.2.1, nA, .inl (upd f x.toNatClampNeg v)))) = bs')
    (kk : ∀ (H : Heap) (locs : List Loc), Wd G A s H locs (fl bs') → W p l e R s m args below meth c H locs cells slots Q (F0 m (pc + 1) ls rest)) : W p l e R s m args below meth c H locs cells slots Q (F0 m pc ls (.int v :: .int x :: .ref a :: rest)) := by
  subst hw'
  obtain ⟨q0, h1, h2⟩ := fl_at (q' := (a, .inl (G.2.2.1, nA, .inl (upd f x.toNatClampNeg v)))) hj ha
  rw [← h2] at kk
  refine va_zast X.1.1 X.1.2.1 X.2.1.1 hw.1 hw.2.1 hw.2.2 q0 1 h1 rfl hin hdg (fun H1 locs1 a b c => kk H1 locs1 ?_)
  rw [nar_z hz] at a b
  exact ⟨a, b, c⟩
theorem x_alen {a : Nat} {cA : ClassId} {x : vp_A} {n : Nat} {t0 : Nat} {ty : FieldType} {bs : List va_W} {blk : va_W} (j i : Nat) (X : Cx p s m args meth c cc nL ret Ts own G A) (hw : Wd G A s H locs (fl bs)) (hj : bs[j]? = some blk) (ha : blk[i]? = some (a, .inl (cA, x))) (ht : (g_ty G)[t0]? = some (cA, ty)) (hx : x.1 = n) (hdg : decode cc pc = .ok (.arraylength, 1))
    (kk : W p l e R s m args below meth c H locs cells slots Q (F0 m (pc + 1) ls (.int (nI n) :: rest))) : W p l e R s m args below meth c H locs cells slots Q (F0 m pc ls (.ref a :: rest)) := by
  subst hx
  obtain ⟨q0, h1, -⟩ := fl_at (q' := (a, .inl (cA, x))) hj ha
  exact va_alen X.1.1 X.1.2.1 X.2.1.1 hw.1 q0 t0 h1 ht rfl hdg kk
end CR
/-! heads -/
theorem Ci.intro {G : GG} {l : Launch} {y : MethodName} {ws : List Cond} {rm : Room} {av : List Value} {w0 : va_W} {r : Int32} {w1 : va_W} (cc : ByteArray) (maxL : Nat) (ret : Option FieldType) (own : String) {ws' : List Cond} (hy : plainName y.cls = true) (hw : ws = Cond.code y cc maxL ret :: ws') (hown : y.cls = own) (hlen : (lg_sl av).length ≤ maxL)
    (body : ∀ (p : Program) (e : Env) (s : State) (m : MethodId) (below : List Frame) (meth : Method) (c : Code) (A : Nat → Prop) (ls : Array Slot), Cx p s m av.toArray meth c cc maxL ret ws own G A → Wd G A s s.heap [] w0 → lv_has ls maxL (lv_args 0 av) → W p l e rm s m av.toArray below meth c s.heap [] 0 0 (MQ below (Qi G A r w1) av.toArray s 0 0 A) (F0 m 0 ls [])) : Ci G l y ws rm av w0 r w1 := by
  intro sz
  refine Met.ofW (cc := cc) (maxL := maxL) (ret := ret) hy hw ?_
  intro p e s m args below meth c s₁ B hml hv
  obtain ⟨rfl, hsz, hP, hK, hD0⟩ := hv
  subst hsz
  have hts := atoms_spec (ws := ws) B.pre
  have hl := lv_entry av (n := maxL) hlen
  rw [lg_entry_eq]
  exact body p e s m below meth c (va_A w0 s.heap.size) _ ⟨⟨B.exec, B.bytes, hml, hown ▸ findClass_of_methodNamed B.named, hts⟩, hK, B.returns, B.notSynchronized, fun q h => Or.inr h⟩ ⟨hP, hD0.self, va_S.rf⟩ hl
theorem Cl.intro {G : GG} {l : Launch} {y : MethodName} {ws : List Cond} {rm : Room} {av : List Value} {w0 : va_W} {r : Int64} {w1 : va_W} (cc : ByteArray) (maxL : Nat) (ret : Option FieldType) (own : String) {ws' : List Cond} (hy : plainName y.cls = true) (hw : ws = Cond.code y cc maxL ret :: ws') (hown : y.cls = own) (hlen : (lg_sl av).length ≤ maxL)
    (body : ∀ (p : Program) (e : Env) (s : State) (m : MethodId) (below : List Frame) (meth : Method) (c : Code) (A : Nat → Prop) (ls : Array Slot), Cx p s m av.toArray meth c cc maxL ret ws own G A → Wd G A s s.heap [] w0 → lv_has ls maxL (lv_args 0 av) → W p l e rm s m av.toArray below meth c s.heap [] 0 0 (MQ below (Ql G A r w1) av.toArray s 0 0 A) (F0 m 0 ls [])) : Cl G l y ws rm av w0 r w1 := by
  intro sz
  refine Met.ofW (cc := cc) (maxL := maxL) (ret := ret) hy hw ?_
  intro p e s m args below meth c s₁ B hml hv
  obtain ⟨rfl, hsz, hP, hK, hD0⟩ := hv
  subst hsz
  have hts := atoms_spec (ws := ws) B.pre
  have hl := lv_entry av (n := maxL) hlen
  rw [lg_entry_eq]
  exact body p e s m below meth c (va_A w0 s.heap.size) _ ⟨⟨B.exec, B.bytes, hml, hown ▸ findClass_of_methodNamed B.named, hts⟩, hK, B.returns, B.notSynchronized, fun q h => Or.inr h⟩ ⟨hP, hD0.self, va_S.rf⟩ hl
theorem Cv.intro {G : GG} {l : Launch} {y : MethodName} {ws : List Cond} {rm : Room} {av : List Value} {w0 : va_W} {w1 : va_W} (cc : ByteArray) (maxL : Nat) (ret : Option FieldType) (own : String) {ws' : List Cond} (hy : plainName y.cls = true) (hw : ws = Cond.code y cc maxL ret :: ws') (hown : y.cls = own) (hlen : (lg_sl av).length ≤ maxL)
    (body : ∀ (p : Program) (e : Env) (s : State) (m : MethodId) (below : List Frame) (meth : Method) (c : Code) (A : Nat → Prop) (ls : Array Slot), Cx p s m av.toArray meth c cc maxL ret ws own G A → Wd G A s s.heap [] w0 → lv_has ls maxL (lv_args 0 av) → W p l e rm s m av.toArray below meth c s.heap [] 0 0 (MQ below (Qv G A w1) av.toArray s 0 0 A) (F0 m 0 ls [])) : Cv G l y ws rm av w0 w1 := by
  intro sz
  refine Met.ofW (cc := cc) (maxL := maxL) (ret := ret) hy hw ?_
  intro p e s m args below meth c s₁ B hml hv
  obtain ⟨rfl, hsz, hP, hK, hD0⟩ := hv
  subst hsz
  have hts := atoms_spec (ws := ws) B.pre
  have hl := lv_entry av (n := maxL) hlen
  rw [lg_entry_eq]
  exact body p e s m below meth c (va_A w0 s.heap.size) _ ⟨⟨B.exec, B.bytes, hml, hown ▸ findClass_of_methodNamed B.named, hts⟩, hK, B.returns, B.notSynchronized, fun q h => Or.inr h⟩ ⟨hP, hD0.self, va_S.rf⟩ hl
/-! pure programs -/
noncomputable def ck {α : Type} (c : Prop) (k : Option α) : Option α := @ite _ c (Classical.propDecidable c) k none
noncomputable def br {α : Type} (c : Prop) (a b : Option α) : Option α := @ite _ c (Classical.propDecidable c) a b
def nm {α β : Type} (v : β) (k : β → Option α) : Option α := k v
def bd {α β : Type} (x : Option β) (k : β → Option α) : Option α := x.bind k
def bd2 {α β1 β2 : Type} (x : Option (β1 × β2)) (k : β1 → β2 → Option α) : Option α := x.bind fun q => k q.1 q.2
def bd3 {α β1 β2 β3 : Type} (x : Option (β1 × β2 × β3)) (k : β1 → β2 → β3 → Option α) : Option α := x.bind fun q => k q.1 q.2.1 q.2.2
def bd4 {α β1 β2 β3 β4 : Type} (x : Option (β1 × β2 × β3 × β4)) (k : β1 → β2 → β3 → β4 → Option α) : Option α := x.bind fun q => k q.1 q.2.1 q.2.2.1 q.2.2.2
theorem ck_ok {α : Type} {c : Prop} {k : Option α} {r : α} (h : ck c k = some r) : c ∧ k = some r := by
  unfold ck at h
  by_cases hc : c
  · rw [if_pos hc] at h; exact ⟨hc, h⟩
  · rw [if_neg hc] at h; cases h
theorem ck_t {α : Type} {c : Prop} {k : Option α} (h : c) : ck c k = k := by unfold ck; rw [if_pos h]
theorem br_T {α : Type} {c : Prop} {a b : Option α} (h : c) : br c a b = a := by unfold br; rw [if_pos h]
theorem br_F {α : Type} {c : Prop} {a b : Option α} (h : ¬ c) : br c a b = b := by unfold br; rw [if_neg h]
theorem br_yes {α : Type} {c : Prop} {a b : Option α} {r : Option α} (h : br c a b = r) (hc : c) : a = r := by rw [br_T hc] at h; exact h
theorem br_no {α : Type} {c : Prop} {a b : Option α} {r : Option α} (h : br c a b = r) (hc : ¬ c) : b = r := by rw [br_F hc] at h; exact h
theorem nm_ok {α β : Type} {v : β} {k : β → Option α} {r : Option α} (h : nm v k = r) : ∃ x, x = v ∧ k x = r := ⟨v, rfl, h⟩
theorem bd_ok {α β : Type} {x : Option β} {k : β → Option α} {r : α} (h : bd x k = some r) : ∃ y, x = some y ∧ k y = some r := by
  cases x with
  | none => cases h
  | some y => exact ⟨y, rfl, h⟩
theorem bd2_ok {α β1 β2 : Type} {x : Option (β1 × β2)} {k : β1 → β2 → Option α} {r : α} (h : bd2 x k = some r) : ∃ y1 y2, x = some (y1, y2) ∧ k y1 y2 = some r := by
  cases x with
  | none => cases h
  | some y => exact ⟨y.1, y.2, rfl, h⟩
theorem bd3_ok {α β1 β2 β3 : Type} {x : Option (β1 × β2 × β3)} {k : β1 → β2 → β3 → Option α} {r : α} (h : bd3 x k = some r) : ∃ y1 y2 y3, x = some (y1, y2, y3) ∧ k y1 y2 y3 = some r := by
  cases x with
  | none => cases h
  | some y => exact ⟨y.1, y.2.1, y.2.2, rfl, h⟩
theorem bd4_ok {α β1 β2 β3 β4 : Type} {x : Option (β1 × β2 × β3 × β4)} {k : β1 → β2 → β3 → β4 → Option α} {r : α} (h : bd4 x k = some r) : ∃ y1 y2 y3 y4, x = some (y1, y2, y3, y4) ∧ k y1 y2 y3 y4 = some r := by
  cases x with
  | none => cases h
  | some y => exact ⟨y.1, y.2.1, y.2.2.1, y.2.2.2, rfl, h⟩
/-- the fuel of a loop -/
def FU : Nat := 1000000
/-! what the objects hold -/
abbrev AF : Type := Nat → Int32
abbrev CV : Type := Int32 × Int32 × Int32 × Int32 × AF × AF × AF × AF × AF × AF
def C_se (v : CV) : Int32 := v.1
def C_jo (v : CV) : Int32 := v.2.1
def C_sh (v : CV) : Int32 := v.2.2.1
def C_pi (v : CV) : Int32 := v.2.2.2.1
def C_vo (v : CV) : AF := v.2.2.2.2.1
def C_ar (v : CV) : AF := v.2.2.2.2.2.1
def C_ch (v : CV) : AF := v.2.2.2.2.2.2.1
def C_fe (v : CV) : AF := v.2.2.2.2.2.2.2.1
def C_fi (v : CV) : AF := v.2.2.2.2.2.2.2.2.1
def C_sd (v : CV) : AF := v.2.2.2.2.2.2.2.2.2
def cB (G : GG) (a : Nat → Nat) (v : CV) : va_W := [(a 0, .inr (0, [.int (C_se v), .int (C_jo v), .int (C_sh v), .int (C_pi v), .ref (a 1), .ref (a 2), .ref (a 3), .ref (a 4), .ref (a 5), .ref (a 6)])), (a 1, .inl (G.2.1, 12, .inl (C_vo v))), (a 2, .inl (G.2.1, 12, .inl (C_ar v))), (a 3, .inl (G.2.1, 12, .inl (C_ch v))), (a 4, .inl (G.2.2.1, 12, .inl (C_fe v))), (a 5, .inl (G.2.1, 20, .inl (C_fi v))), (a 6, .inl (G.2.1, 20, .inl (C_sd v)))]
abbrev FV : Type := Int32 × AF × AF × AF × AF × AF × AF
def F_se (v : FV) : Int32 := v.1
def F_st (v : FV) : AF := v.2.1
def F_od (v : FV) : AF := v.2.2.1
def F_so (v : FV) : AF := v.2.2.2.1
def F_ne (v : FV) : AF := v.2.2.2.2.1
def F_po (v : FV) : AF := v.2.2.2.2.2.1
def F_ex (v : FV) : AF := v.2.2.2.2.2.2
def fB (G : GG) (a : Nat → Nat) (v : FV) : va_W := [(a 0, .inr (1, [.int (F_se v), .ref (a 1), .ref (a 2), .ref (a 3), .ref (a 4), .ref (a 5), .ref (a 6)])), (a 1, .inl (G.2.1, 12, .inl (F_st v))), (a 2, .inl (G.2.1, 12, .inl (F_od v))), (a 3, .inl (G.2.1, 12, .inl (F_so v))), (a 4, .inl (G.2.1, 12, .inl (F_ne v))), (a 5, .inl (G.2.1, 12, .inl (F_po v))), (a 6, .inl (G.2.1, 12, .inl (F_ex v)))]
abbrev TV : Type := AF × Int32 × Int32 × Int32 × Int32
def T_co (v : TV) : AF := v.1
def T_le (v : TV) : Int32 := v.2.1
def T_it (v : TV) : Int32 := v.2.2.1
def T_pl (v : TV) : Int32 := v.2.2.2.1
def T_fa (v : TV) : Int32 := v.2.2.2.2
def tB (G : GG) (a : Nat → Nat) (v : TV) : va_W := [(a 0, .inr (3, [.ref (a 1), .int (T_le v), .int (T_it v), .int (T_pl v), .int (T_fa v)])), (a 1, .inl (G.2.1, 120, .inl (T_co v)))]
/-- the history: its size, its states, their addresses -/
abbrev HV : Type := Int32 × (Nat → CV) × (Nat → Nat → Nat)
def H_si (v : HV) : Int32 := v.1
def H_st (v : HV) : Nat → CV := v.2.1
def H_ad (v : HV) : Nat → Nat → Nat := v.2.2
def hB (G : GG) (a : Nat → Nat) (v : HV) : va_W := [(a 0, .inr (2, [.ref (a 1), .int (H_si v)])), (a 1, .inl (G.2.2.2, 5, .inr (.inr (.inr (.inr (fun k => some (H_ad v k 0)))))))] ++ (cB G (H_ad v 0) (H_st v 0) ++ (cB G (H_ad v 1) (H_st v 1) ++ (cB G (H_ad v 2) (H_st v 2) ++ (cB G (H_ad v 3) (H_st v 3) ++ cB G (H_ad v 4) (H_st v 4)))))
/-- the object of the class: it never changes -/
def xB (ax : Nat) (ac af ah at_ ar ad : Nat → Nat) : va_W := [(ax, .inr (4, [.ref (ac 0), .ref (af 0), .ref (ah 0), .ref (at_ 0), .ref (ar 0), .ref (ad 0)]))]
/-- a row by itself -/
abbrev rB (G : GG) (a n : Nat) (f : AF) : va_W := [(a, .inl (G.2.1, n, .inl f))]
