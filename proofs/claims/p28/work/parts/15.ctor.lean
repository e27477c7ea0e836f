/-! ===== the constructors ===== -/
section NX
variable {p : Program} {l : Launch} {e : Env} {R : Room} {s : State} {m : MethodId} {args : Array Value} {below : List Frame} {meth : Method} {c : Code} {H : Heap} {locs : List Loc} {cells slots : Nat} {Q : State → Prop}
variable {cc : ByteArray} {nL : Nat} {ret : Option FieldType} {Ts : List Cond} {own : String} {G : GG} {A : Nat → Prop} {pc : Nat} {ls : Array Slot} {st0 rest : List Value}
abbrev Qn {S : Type} (G : GG) (A : Nat → Prop) (post : S → Prop) (w1 : S → va_W) : Array Value → State → Outcome → State → Prop := va_Qv post (fun u t => va_P G.1 vwCl (w1 u) t.heap ∧ va_D A (w1 u)) A
def Cn {S : Type} (G : GG) (l : Launch) (y : MethodName) (ws : List Cond) (rm : Room) (av : List Value) (w0 : va_W) (mc ms : Nat) (post : S → Prop) (w1 : S → va_W) : Prop := ∀ sz : Nat, Met l y ws rm (Pg G av w0 sz) (Qn G (va_A w0 sz) post w1) mc ms (va_A w0 sz)
theorem Cn.intro {S : Type} {y : MethodName} {ws : List Cond} {rm : Room} {av : List Value} {w0 : va_W} {mc ms : Nat} {post : S → Prop} {w1 : S → va_W} (cc : ByteArray) (maxL : Nat) (own : String) {ws' : List Cond} (hy : plainName y.cls = true) (hw : ws = Cond.code y cc maxL none :: ws') (hown : y.cls = own) (hini : y.name = "<init>") (hlen : (lg_sl av).length ≤ maxL)
    (body : ∀ (p : Program) (e : Env) (s : State) (m : MethodId) (below : List Frame) (meth : Method) (c : Code) (A : Nat → Prop) (ls : Array Slot), meth.name = "<init>" → Cx p s m av.toArray meth c cc maxL none ws own G A → Wd G A s s.heap [] w0 → lv_has ls maxL (lv_args 0 av) → W p l e rm s m av.toArray below meth c s.heap [] 0 0 (MQ below (Qn G A post w1) av.toArray s mc ms A) (F0 m 0 ls [])) : Cn G l y ws rm av w0 mc ms post w1 := by
  intro sz
  refine Met.ofW (cc := cc) (maxL := maxL) (ret := none) hy hw ?_
  intro p e s m args below meth c s₁ B hml hv
  obtain ⟨rfl, hsz, hP, hK, hD0⟩ := hv
  subst hsz
  have hts := atoms_spec (ws := ws) B.pre
  have hl := lv_entry av (n := maxL) hlen
  rw [lg_entry_eq]
  exact body p e s m below meth c (va_A w0 s.heap.size) _ ((name_of_methodNamed B.named B.method).1.trans hini) ⟨⟨B.exec, B.bytes, hml, hown ▸ findClass_of_methodNamed B.named, hts⟩, hK, B.returns, B.notSynchronized, fun q h => Or.inr h⟩ ⟨hP, hD0.self, va_S.rf⟩ hl
theorem x_nret {S : Type} {post : S → Prop} {w1 : S → va_W} {w : va_W} (u : S) (X : Cx p s m args meth c cc nL none Ts own G A) (hw : Wd G A s H locs w) (hu : post u) (he : w = w1 u) (hdg : decode cc pc = .ok (.return_, 1)) : W p l e R s m args below meth c H locs cells slots (MQ below (Qn G A post w1) args s cells slots A) (F0 m pc ls []) := by
  subst he
  have hlk := X.2.2.2.1
  exact W.vret X.1.1 X.1.2.1 X.2.2.1 (fun t ht hW => ⟨⟨u, rfl, hu, by rw [ht]; exact hw.1, hw.2.1⟩, hw.2.2.F ht⟩) hw.2.2.2.2 hdg
theorem x_putF {Cn ref : String} {T : u_T} {N ci index : Nat} {a : Nat} {bs bs' : List va_W} {blk : va_W} (j i : Nat) (X : Cx p s m args meth c cc nL ret Ts own G A) (hinit : meth.name = "<init>") (hw : Wd G A s H locs (fl bs)) (hin : ∀ w ∈ u_ws Cn T N, w ∈ Ts) (ty0 : Nat → FieldType) (hty : ∀ k, k < N → parseFieldDescriptor (T k).2.2.1 = some (ty0 k)) (hnm : ∀ a, a < N → ∀ b, b < N → a ≠ b → (T a).2.1 ≠ (T b).2.1) {fs : List Value} (hj : bs[j]? = some blk) (he : blk[i]? = some (a, .inr (ci, fs))) (hc : vwCl[ci]? = some (Cn, T, N)) (k : Nat) (hk : k < N) (hlink : Cond.fieldLink own index ref (T k).2.1 (T k).2.2.1 ∈ Ts) (href : (T k).1 = ref) (hfin : (T k).2.2.2 = true) (hdecl : (T k).1 = own) {v : Value} (hn : narrow (ty0 k) v = v) (hfit : fits (ty0 k) v = true) (hl : k < fs.length) (hdg : decode cc pc = .ok (.putfield index, 3)) (hw' : bs.set j (blk.set i (a, .inr (ci, fs.set k v))) = bs')
    (kk : ∀ (H : Heap) (locs : List Loc), Wd G A s H locs (fl bs') → W p l e R s m args below meth c H locs cells slots Q (F0 m (pc + 3) ls rest)) : W p l e R s m args below meth c H locs cells slots Q (F0 m pc ls (v :: .ref a :: rest)) := by
  subst hw'
  obtain ⟨q0, h1, h2⟩ := fl_at (q' := (a, .inr (ci, fs.set k v))) hj he
  rw [← h2] at kk
  exact va_putF X.1.1 X.1.2.1 X.1.2.2.2.2 hin ty0 hty hnm X.1.2.2.2.1 X.2.1.1 hw.1 hw.2.1 hw.2.2 q0 h1 hc k hk (X.1.2.2.2.2 _ hlink) (fun x h => by rw [← href]; exact h) hfin hinit hdecl (hty k hk) hn hfit hl hdg (fun H1 locs1 a b c => kk H1 locs1 ⟨a, b, c⟩)
theorem Wd.cell {bs bs' : List va_W} {blk : va_W} {a : Nat} {cA : ClassId} {x x' : vp_A} (j i : Nat) (hw : Wd G A s H locs (fl bs)) (hj : bs[j]? = some blk) (hi : blk[i]? = some (a, .inl (cA, x))) (he : vp_cell cA x = vp_cell cA x') (hb : bs.set j (blk.set i (a, .inl (cA, x'))) = bs') : Wd G A s H locs (fl bs') := by
  subst hb
  obtain ⟨k, h1, h2⟩ := fl_at (q' := (a, .inl (cA, x'))) hj hi
  rw [← h2]
  have h3 : H[a]? = some (vp_cell cA x) := hw.1 k _ h1
  exact ⟨hw.1.set hw.2.1 h1 (show H[a]? = some (vp_cell cA x') from he ▸ h3) (fun _ _ => rfl), hw.2.1.set h1, hw.2.2⟩
theorem fl_snoc {bs : List va_W} {b : va_W} : fl bs ++ b = fl (bs ++ [b]) := by simp [fl]
theorem x_newa {bs : List va_W} {n : Int32} {N : Nat} (X : Cx p s m args meth c cc nL ret Ts own G A) (hw : Wd G A s H locs (fl bs)) (harr : Cond.arrayClass .int ∈ Ts) (hn : ¬ n < 0) (hN : n.toNatClampNeg = N) (hb4 : N * 4 ≤ 536870912) (hcells : cells + 1 ≤ R.cells) (hslots : slots + N ≤ R.slots) (hdg : decode cc pc = .ok (.newarray .int, 2))
    (kk : ∀ (q : Nat) (H : Heap), Wd G A s H locs (fl (bs ++ [[(q, .inl (G.2.1, N, .inl (fun _ => 0)))]])) → W p l e R s m args below meth c H locs (cells + 1) (slots + N) Q (F0 m (pc + 2) ls (.ref q :: rest))) : W p l e R s m args below meth c H locs cells slots Q (F0 m pc ls (.int n :: rest)) := by
  refine va_newa (atype := .int) (ty := .int) (a0 := (N, .inl (fun _ => 0))) X.1.1 X.1.2.1 (X.1.2.2.2.2 _ harr) rfl X.2.1.1 hw.1 hw.2.1 hw.2.2 X.2.2.2.2 (fun cA => rfl) hn hN hb4 hcells hslots hdg (fun q cA H1 hK1 hP1 hD1 hS1 => ?_)
  have e : cA = G.2.1 := Option.some.inj (((hK1.2 3 _ rfl).2 : s.vm.findClass ("[" ++ FieldType.int.toString) = some cA).symm.trans ((X.2.1.1.2 0 _ rfl).2 : s.vm.findClass ("[" ++ FieldType.int.toString) = some G.2.1))
  subst e
  exact kk q H1 ⟨fl_snoc ▸ hP1, fl_snoc ▸ hD1, hS1⟩
theorem x_newz {bs : List va_W} {n : Int32} {N : Nat} (X : Cx p s m args meth c cc nL ret Ts own G A) (hw : Wd G A s H locs (fl bs)) (harr : Cond.arrayClass .boolean ∈ Ts) (hn : ¬ n < 0) (hN : n.toNatClampNeg = N) (hb4 : N * 1 ≤ 536870912) (hcells : cells + 1 ≤ R.cells) (hslots : slots + N ≤ R.slots) (hdg : decode cc pc = .ok (.newarray .boolean, 2))
    (kk : ∀ (q : Nat) (H : Heap), Wd G A s H locs (fl (bs ++ [[(q, .inl (G.2.2.1, N, .inl (fun _ => 0)))]])) → W p l e R s m args below meth c H locs (cells + 1) (slots + N) Q (F0 m (pc + 2) ls (.ref q :: rest))) : W p l e R s m args below meth c H locs cells slots Q (F0 m pc ls (.int n :: rest)) := by
  refine va_newa (atype := .boolean) (ty := .boolean) (a0 := (N, .inl (fun _ => 0))) X.1.1 X.1.2.1 (X.1.2.2.2.2 _ harr) rfl X.2.1.1 hw.1 hw.2.1 hw.2.2 X.2.2.2.2 (fun cA => rfl) hn hN hb4 hcells hslots hdg (fun q cA H1 hK1 hP1 hD1 hS1 => ?_)
  have e : cA = G.2.2.1 := Option.some.inj (((hK1.2 3 _ rfl).2 : s.vm.findClass ("[" ++ FieldType.boolean.toString) = some cA).symm.trans ((X.2.1.1.2 1 _ rfl).2 : s.vm.findClass ("[" ++ FieldType.boolean.toString) = some G.2.2.1))
  subst e
  exact kk q H1 ⟨fl_snoc ▸ hP1, fl_snoc ▸ hD1, hS1⟩
theorem x_newq {bs : List va_W} {n : Int32} {N index : Nat} (X : Cx p s m args meth c cc nL ret Ts own G A) (hw : Wd G A s H locs (fl bs)) (hcl : Cond.classLink own index "CastingFeeder$Casting" ∈ Ts) (hn : ¬ n < 0) (hN : n.toNatClampNeg = N) (hb4 : N * 4 ≤ 536870912) (hcells : cells + 1 ≤ R.cells) (hslots : slots + N ≤ R.slots) (hdg : decode cc pc = .ok (.anewarray index, 3))
    (kk : ∀ (q : Nat) (H : Heap), Wd G A s H locs (fl (bs ++ [[(q, .inl (G.2.2.2, N, .inr (.inr (.inr (.inr (fun _ => none))))))]])) → W p l e R s m args below meth c H locs (cells + 1) (slots + N) Q (F0 m (pc + 3) ls (.ref q :: rest))) : W p l e R s m args below meth c H locs cells slots Q (F0 m pc ls (.int n :: rest)) := by
  refine va_newq X.1.1 X.1.2.1 X.1.2.2.2.1 (X.1.2.2.2.2 _ hcl) X.2.1.2.2 X.2.1.1 hw.1 hw.2.1 hw.2.2 X.2.2.2.2 hn hN hb4 hcells hslots hdg (fun q cA H1 hK1 hP1 hD1 hS1 => ?_)
  obtain ⟨-, _, _, -, -, -, f1⟩ := hK1.2 3 _ rfl
  obtain ⟨-, _, _, -, -, -, f2⟩ := X.2.1.1.2 2 _ rfl
  have e : cA = G.2.2.2 := Option.some.inj (f1.symm.trans f2)
  subst e
  exact kk q H1 ⟨fl_snoc ▸ hP1, fl_snoc ▸ hD1, hS1⟩
theorem x_new {Cn : String} {T : u_T} {N ci index : Nat} {bs : List va_W} {fs : List Value} (X : Cx p s m args meth c cc nL ret Ts own G A) (hw : Wd G A s H locs (fl bs)) (hin : ∀ w ∈ u_ws Cn T N, w ∈ Ts) (ty : Nat → FieldType) (hty : ∀ k, k < N → parseFieldDescriptor (T k).2.2.1 = some (ty k)) (hcl : Cond.classLink own index Cn ∈ Ts) (hinst : Cond.instantiable Cn N ∈ Ts) (hini : Cond.initialized Cn ∈ Ts) (hc : vwCl[ci]? = some (Cn, T, N)) (hfs : ∀ j, j < N → defaultValue (ty j) = vp_V fs j) (hcells : cells + 1 ≤ R.cells) (hslots : slots + N ≤ R.slots) (hdg : decode cc pc = .ok (.new index, 3))
    (kk : ∀ (q : Nat) (H : Heap), Wd G A s H locs (fl (bs ++ [[(q, .inr (ci, fs))]])) → W p l e R s m args below meth c H locs (cells + 1) (slots + N) Q (F0 m (pc + 3) ls (.ref q :: rest))) : W p l e R s m args below meth c H locs cells slots Q (F0 m pc ls rest) :=
  va_new X.1.1 X.1.2.1 X.1.2.2.2.2 hin ty hty X.1.2.2.2.1 (X.1.2.2.2.2 _ hcl) (X.1.2.2.2.2 _ hinst) (X.1.2.2.2.2 _ hini) X.2.1.1 hw.1 hw.2.1 hw.2.2 X.2.2.2.2 hc hfs hcells hslots hdg (fun q H1 hP1 hD1 hS1 => kk q H1 ⟨fl_snoc ▸ hP1, fl_snoc ▸ hD1, hS1⟩)
/-- behind a constructor's run: what it made lies in its block -/
theorem after_n {S : Type} {post : S → Prop} {wS : S → va_W} {w w0 : va_W} {a : Array Value} {mc ms : Nat} {w' : S → va_W} (X : Cx p s m args meth c cc nL ret Ts own G A) (hw : Wd G A s H locs w) (h : ∀ u, Cut w w0 (wS u) (w' u)) (hne : Nonempty S)
    (hr : va_Run p l e R s m args below meth c H locs cells slots mc ms (F0 m pc ls st0) rest (Qn G (va_A w0 H.size) post wS a) (va_A w0 H.size))
    (kk : ∀ (u : S) (H : Heap) (locs : List Loc), post u → Wd G A s H locs (w' u) → W p l e R s m args below meth c H locs (cells + mc) (slots + ms) Q (F0 m (pc + 3) ls rest)) : W p l e R s m args below meth c H locs cells slots Q (F0 m pc ls st0) :=
  va_callv hr hw.2.2 (fun q _ hq => free_of X hw (h (Classical.choice hne)) q hq) (free_of X hw (h (Classical.choice hne))) (fun u t H1 locs1 ht hvm hp hb hz1 hk1 hS1 => by
    subst ht
    exact kk u _ _ hp (back_w X hw (h u) hb.1 hb.2 hk1 hS1))
variable {y : MethodName} {bytes : ByteArray} {maxL n index : Nat} {ws : List Cond} {rm : Room} {b : Addr} {w w0 : va_W} {mc ms : Nat}
theorem x_Ii {S : Type} {post : S → Prop} {wS : S → va_W} {w' : S → va_W} (X : Cx p s m args meth c cc nL ret Ts own G A) (hw : Wd G A s H locs w) (hC : Cn G l y ws rm [.ref b] w0 mc ms post wS) (hne : Nonempty S) (h : ∀ u, Cut w w0 (wS u) (w' u))
    (cw : CallB R s args own index y bytes maxL none ws rm mc ms 0 ∧ y.name = "<init>" ∧ (Cond.instanceMethod y).before args s = true) (hl : ls.size = nL) (hst : (.ref b :: rest) = st0) (hW : (rest.map fun v => v.category).sum ≤ 8) (hdg : decode cc pc = .ok (.invokespecial index, 3)) (hf : cells + mc ≤ R.cells ∧ slots + ms ≤ R.slots)
    (kk : ∀ (u : S) (H : Heap) (locs : List Loc), post u → Wd G A s H locs (w' u) → W p l e R s m args below meth c H locs (cells + mc) (slots + ms) Q (F0 m (pc + 3) ls rest)) : W p l e R s m args below meth c H locs cells slots Q (F0 m pc ls st0) := by
  subst hst
  exact after_n X hw h hne (va_runI (As := []) (rest := rest) X.1 (hC H.size) cw ⟨Pg.blind, pre_of X hw (h (Classical.choice hne))⟩ rfl rfl hl rfl (lv_room hW) hdg hf) kk
theorem x_IN {S : Type} {post : S → Prop} {wS : S → va_W} {w' : S → va_W} {host : String} (X : Cx p s m args meth c cc nL ret Ts own G A) (hw : Wd G A s H locs w) (hC : Cn G l y ws rm [.ref b] w0 mc ms post wS) (hne : Nonempty S) (h : ∀ u, Cut w w0 (wS u) (w' u))
    (cw : va_CN R s args own index y host bytes maxL none ws rm mc ms 0 ∧ y.name = "<init>" ∧ (Cond.instanceMethod y).before args s = true) (hl : ls.size = nL) (hst : (.ref b :: rest) = st0) (hW : (rest.map fun v => v.category).sum ≤ 8) (hdg : decode cc pc = .ok (.invokespecial index, 3)) (hf : cells + mc ≤ R.cells ∧ slots + ms ≤ R.slots)
    (kk : ∀ (u : S) (H : Heap) (locs : List Loc), post u → Wd G A s H locs (w' u) → W p l e R s m args below meth c H locs (cells + mc) (slots + ms) Q (F0 m (pc + 3) ls rest)) : W p l e R s m args below meth c H locs cells slots Q (F0 m pc ls st0) := by
  subst hst
  exact after_n X hw h hne (va_runIN (As := []) (rest := rest) X.1 (hC H.size) cw ⟨Pg.blind, pre_of X hw (h (Classical.choice hne))⟩ rfl rfl hl rfl (lv_room hW) hdg hf) kk
end NX

def rX0_init : Room := { frames := 1, cells := 6, slots := 88, locals := 12 }
theorem hd_X0_init : yX0_init.cls = RX0 ∧ yX0_init.cls ≠ "java/lang/invoke/MethodHandle" ∧ yX0_init.cls ≠ "java/lang/invoke/VarHandle" ∧ (parseMethodDescriptor yX0_init.desc).map (fun d => d.parameters.length) = some 0 := by decide +kernel
theorem in_X0_init_0 : ∀ w ∈ u_ws RX0 TX0 10, w ∈ wsX0_init := fun w h => (List.mem_cons_of_mem _ (List.mem_append_right _ h))
def new_C : CV := (0, 0, 50, 140, fun _ => 0, fun _ => 0, fun _ => 0, fun _ => 0, fun _ => 0, fun _ => 0)
set_option maxHeartbeats 4000000 in
set_option maxRecDepth 100000 in
theorem m_X0_init {G : GG} {l : Launch} {q : Nat} : Cn G l yX0_init wsX0_init rX0_init [.ref q] (fl [[(q, .inr (0, [.int 0, .int 0, .int 0, .int 0, .null, .null, .null, .null, .null, .null]))]]) 6 88 (fun u : Nat → Nat => u 0 = q) (fun u => fl [cB G u new_C]) := by
  refine Cn.intro cX0_init 1 RX0 (by decide) rfl rfl rfl (Nat.le_of_ble_eq_true rfl) ?_
  intro p e s m below meth c A ls hinit X hw hl
  obtain ⟨⟨hx, hb, hml, hown, hts⟩, hK, hr, hlk, hA⟩ := id X
  have hl : lv_has ls 1 [(0, .ref q)] := hl
  refine lv_aload_n hx hb dX0_init_0 rfl (lv_at hl 0 rfl) ?_
  refine W.objInit hx hb hown (hts _ (List.mem_of_getElem? (i := 1) rfl)) (hts _ (List.mem_of_getElem? (i := 2) rfl)) (hts _ (List.mem_of_getElem? (i := 3) rfl)) rfl (by rw [hml]; exact hl.1) rfl dX0_init_1 (Nat.le_of_ble_eq_true rfl) (Nat.le_of_ble_eq_true rfl) ?_
  refine W.eq (g2 := F0 m 4 ls []) rfl ?_
  refine lv_aload_n hx hb dX0_init_4 rfl (lv_at hl 0 rfl) ?_
  refine lv_iconst (v := 0) hx hb dX0_init_5 (by decide) ?_
  refine x_put (bs' := [[(q, .inr (0, [.int 0, .int 0, .int 0, .int 0, .null, .null, .null, .null, .null, .null]))]]) 0 0 X hw in_X0_init_0 tyX0 tyX0_ok nmX0 rfl rfl rfl 0 (by decide) (List.mem_of_getElem? (i := 4) rfl) rfl rfl rfl rfl (Nat.le_of_ble_eq_true rfl) dX0_init_6 rfl (fun H locs hw => ?_)
  refine lv_aload_n hx hb dX0_init_9 rfl (lv_at hl 0 rfl) ?_
  refine lv_iconst (v := 0) hx hb dX0_init_10 (by decide) ?_
  refine x_put (bs' := [[(q, .inr (0, [.int 0, .int 0, .int 0, .int 0, .null, .null, .null, .null, .null, .null]))]]) 0 0 X hw in_X0_init_0 tyX0 tyX0_ok nmX0 rfl rfl rfl 1 (by decide) (List.mem_of_getElem? (i := 5) rfl) rfl rfl rfl rfl (Nat.le_of_ble_eq_true rfl) dX0_init_11 rfl (fun H locs hw => ?_)
  refine lv_aload_n hx hb dX0_init_14 rfl (lv_at hl 0 rfl) ?_
  refine lv_bipush (v := 50) hx hb dX0_init_15 (by decide) ?_
  refine x_put (bs' := [[(q, .inr (0, [.int 0, .int 0, .int 50, .int 0, .null, .null, .null, .null, .null, .null]))]]) 0 0 X hw in_X0_init_0 tyX0 tyX0_ok nmX0 rfl rfl rfl 2 (by decide) (List.mem_of_getElem? (i := 6) rfl) rfl rfl rfl rfl (Nat.le_of_ble_eq_true rfl) dX0_init_17 rfl (fun H locs hw => ?_)
  refine lv_aload_n hx hb dX0_init_20 rfl (lv_at hl 0 rfl) ?_
  refine lv_sipush (v := 140) hx hb dX0_init_21 (by decide) ?_
  refine x_put (bs' := [[(q, .inr (0, [.int 0, .int 0, .int 50, .int 140, .null, .null, .null, .null, .null, .null]))]]) 0 0 X hw in_X0_init_0 tyX0 tyX0_ok nmX0 rfl rfl rfl 3 (by decide) (List.mem_of_getElem? (i := 7) rfl) rfl rfl rfl rfl (Nat.le_of_ble_eq_true rfl) dX0_init_24 rfl (fun H locs hw => ?_)
  refine lv_aload_n hx hb dX0_init_27 rfl (lv_at hl 0 rfl) ?_
  refine lv_bipush (v := 12) hx hb dX0_init_28 (by decide) ?_
  refine x_newa (N := 12) X hw (List.mem_of_getElem? (i := 8) rfl) (by decide) (by decide) (Nat.le_of_ble_eq_true rfl) (Nat.le_of_ble_eq_true rfl) (Nat.le_of_ble_eq_true rfl) dX0_init_30 (fun q1 H hw => ?_)
  have hw : Wd G A s H _ (fl [[(q, .inr (0, [.int 0, .int 0, .int 50, .int 140, .null, .null, .null, .null, .null, .null]))], [(q1, .inl (G.2.1, 12, .inl (fun _ => 0)))]]) := hw
  refine W.widen (k := 1) (n := 12) (Nat.le_of_ble_eq_true rfl) (Nat.le_of_ble_eq_true rfl) ?_
  refine x_putF (bs' := [[(q, .inr (0, [.int 0, .int 0, .int 50, .int 140, .ref q1, .null, .null, .null, .null, .null]))], [(q1, .inl (G.2.1, 12, .inl (fun _ => 0)))]]) 0 0 X hinit hw in_X0_init_0 tyX0 tyX0_ok nmX0 rfl rfl rfl 4 (by decide) (List.mem_of_getElem? (i := 9) rfl) rfl rfl rfl rfl rfl (Nat.le_of_ble_eq_true rfl) dX0_init_32 rfl (fun H locs hw => ?_)
  refine lv_aload_n hx hb dX0_init_35 rfl (lv_at hl 0 rfl) ?_
  refine lv_bipush (v := 12) hx hb dX0_init_36 (by decide) ?_
  refine x_newa (N := 12) X hw (List.mem_of_getElem? (i := 8) rfl) (by decide) (by decide) (Nat.le_of_ble_eq_true rfl) (Nat.le_of_ble_eq_true rfl) (Nat.le_of_ble_eq_true rfl) dX0_init_38 (fun q2 H hw => ?_)
  have hw : Wd G A s H _ (fl [[(q, .inr (0, [.int 0, .int 0, .int 50, .int 140, .ref q1, .null, .null, .null, .null, .null]))], [(q1, .inl (G.2.1, 12, .inl (fun _ => 0)))], [(q2, .inl (G.2.1, 12, .inl (fun _ => 0)))]]) := hw
  refine W.widen (k := 2) (n := 24) (Nat.le_of_ble_eq_true rfl) (Nat.le_of_ble_eq_true rfl) ?_
  refine x_putF (bs' := [[(q, .inr (0, [.int 0, .int 0, .int 50, .int 140, .ref q1, .ref q2, .null, .null, .null, .null]))], [(q1, .inl (G.2.1, 12, .inl (fun _ => 0)))], [(q2, .inl (G.2.1, 12, .inl (fun _ => 0)))]]) 0 0 X hinit hw in_X0_init_0 tyX0 tyX0_ok nmX0 rfl rfl rfl 5 (by decide) (List.mem_of_getElem? (i := 10) rfl) rfl rfl rfl rfl rfl (Nat.le_of_ble_eq_true rfl) dX0_init_40 rfl (fun H locs hw => ?_)
  refine lv_aload_n hx hb dX0_init_43 rfl (lv_at hl 0 rfl) ?_
  refine lv_bipush (v := 12) hx hb dX0_init_44 (by decide) ?_
  refine x_newa (N := 12) X hw (List.mem_of_getElem? (i := 8) rfl) (by decide) (by decide) (Nat.le_of_ble_eq_true rfl) (Nat.le_of_ble_eq_true rfl) (Nat.le_of_ble_eq_true rfl) dX0_init_46 (fun q3 H hw => ?_)
  have hw : Wd G A s H _ (fl [[(q, .inr (0, [.int 0, .int 0, .int 50, .int 140, .ref q1, .ref q2, .null, .null, .null, .null]))], [(q1, .inl (G.2.1, 12, .inl (fun _ => 0)))], [(q2, .inl (G.2.1, 12, .inl (fun _ => 0)))], [(q3, .inl (G.2.1, 12, .inl (fun _ => 0)))]]) := hw
  refine W.widen (k := 3) (n := 36) (Nat.le_of_ble_eq_true rfl) (Nat.le_of_ble_eq_true rfl) ?_
  refine x_putF (bs' := [[(q, .inr (0, [.int 0, .int 0, .int 50, .int 140, .ref q1, .ref q2, .ref q3, .null, .null, .null]))], [(q1, .inl (G.2.1, 12, .inl (fun _ => 0)))], [(q2, .inl (G.2.1, 12, .inl (fun _ => 0)))], [(q3, .inl (G.2.1, 12, .inl (fun _ => 0)))]]) 0 0 X hinit hw in_X0_init_0 tyX0 tyX0_ok nmX0 rfl rfl rfl 6 (by decide) (List.mem_of_getElem? (i := 11) rfl) rfl rfl rfl rfl rfl (Nat.le_of_ble_eq_true rfl) dX0_init_48 rfl (fun H locs hw => ?_)
  refine lv_aload_n hx hb dX0_init_51 rfl (lv_at hl 0 rfl) ?_
  refine lv_bipush (v := 12) hx hb dX0_init_52 (by decide) ?_
  refine x_newz (N := 12) X hw (List.mem_of_getElem? (i := 12) rfl) (by decide) (by decide) (Nat.le_of_ble_eq_true rfl) (Nat.le_of_ble_eq_true rfl) (Nat.le_of_ble_eq_true rfl) dX0_init_54 (fun q4 H hw => ?_)
  have hw : Wd G A s H _ (fl [[(q, .inr (0, [.int 0, .int 0, .int 50, .int 140, .ref q1, .ref q2, .ref q3, .null, .null, .null]))], [(q1, .inl (G.2.1, 12, .inl (fun _ => 0)))], [(q2, .inl (G.2.1, 12, .inl (fun _ => 0)))], [(q3, .inl (G.2.1, 12, .inl (fun _ => 0)))], [(q4, .inl (G.2.2.1, 12, .inl (fun _ => 0)))]]) := hw
  refine W.widen (k := 4) (n := 48) (Nat.le_of_ble_eq_true rfl) (Nat.le_of_ble_eq_true rfl) ?_
  refine x_putF (bs' := [[(q, .inr (0, [.int 0, .int 0, .int 50, .int 140, .ref q1, .ref q2, .ref q3, .ref q4, .null, .null]))], [(q1, .inl (G.2.1, 12, .inl (fun _ => 0)))], [(q2, .inl (G.2.1, 12, .inl (fun _ => 0)))], [(q3, .inl (G.2.1, 12, .inl (fun _ => 0)))], [(q4, .inl (G.2.2.1, 12, .inl (fun _ => 0)))]]) 0 0 X hinit hw in_X0_init_0 tyX0 tyX0_ok nmX0 rfl rfl rfl 7 (by decide) (List.mem_of_getElem? (i := 13) rfl) rfl rfl rfl rfl rfl (Nat.le_of_ble_eq_true rfl) dX0_init_56 rfl (fun H locs hw => ?_)
  refine lv_aload_n hx hb dX0_init_59 rfl (lv_at hl 0 rfl) ?_
  refine lv_bipush (v := 20) hx hb dX0_init_60 (by decide) ?_
  refine x_newa (N := 20) X hw (List.mem_of_getElem? (i := 8) rfl) (by decide) (by decide) (Nat.le_of_ble_eq_true rfl) (Nat.le_of_ble_eq_true rfl) (Nat.le_of_ble_eq_true rfl) dX0_init_62 (fun q5 H hw => ?_)
  have hw : Wd G A s H _ (fl [[(q, .inr (0, [.int 0, .int 0, .int 50, .int 140, .ref q1, .ref q2, .ref q3, .ref q4, .null, .null]))], [(q1, .inl (G.2.1, 12, .inl (fun _ => 0)))], [(q2, .inl (G.2.1, 12, .inl (fun _ => 0)))], [(q3, .inl (G.2.1, 12, .inl (fun _ => 0)))], [(q4, .inl (G.2.2.1, 12, .inl (fun _ => 0)))], [(q5, .inl (G.2.1, 20, .inl (fun _ => 0)))]]) := hw
  refine W.widen (k := 5) (n := 68) (Nat.le_of_ble_eq_true rfl) (Nat.le_of_ble_eq_true rfl) ?_
  refine x_putF (bs' := [[(q, .inr (0, [.int 0, .int 0, .int 50, .int 140, .ref q1, .ref q2, .ref q3, .ref q4, .ref q5, .null]))], [(q1, .inl (G.2.1, 12, .inl (fun _ => 0)))], [(q2, .inl (G.2.1, 12, .inl (fun _ => 0)))], [(q3, .inl (G.2.1, 12, .inl (fun _ => 0)))], [(q4, .inl (G.2.2.1, 12, .inl (fun _ => 0)))], [(q5, .inl (G.2.1, 20, .inl (fun _ => 0)))]]) 0 0 X hinit hw in_X0_init_0 tyX0 tyX0_ok nmX0 rfl rfl rfl 8 (by decide) (List.mem_of_getElem? (i := 14) rfl) rfl rfl rfl rfl rfl (Nat.le_of_ble_eq_true rfl) dX0_init_64 rfl (fun H locs hw => ?_)
  refine lv_aload_n hx hb dX0_init_67 rfl (lv_at hl 0 rfl) ?_
  refine lv_bipush (v := 20) hx hb dX0_init_68 (by decide) ?_
  refine x_newa (N := 20) X hw (List.mem_of_getElem? (i := 8) rfl) (by decide) (by decide) (Nat.le_of_ble_eq_true rfl) (Nat.le_of_ble_eq_true rfl) (Nat.le_of_ble_eq_true rfl) dX0_init_70 (fun q6 H hw => ?_)
  have hw : Wd G A s H _ (fl [[(q, .inr (0, [.int 0, .int 0, .int 50, .int 140, .ref q1, .ref q2, .ref q3, .ref q4, .ref q5, .null]))], [(q1, .inl (G.2.1, 12, .inl (fun _ => 0)))], [(q2, .inl (G.2.1, 12, .inl (fun _ => 0)))], [(q3, .inl (G.2.1, 12, .inl (fun _ => 0)))], [(q4, .inl (G.2.2.1, 12, .inl (fun _ => 0)))], [(q5, .inl (G.2.1, 20, .inl (fun _ => 0)))], [(q6, .inl (G.2.1, 20, .inl (fun _ => 0)))]]) := hw
  refine W.widen (k := 6) (n := 88) (Nat.le_of_ble_eq_true rfl) (Nat.le_of_ble_eq_true rfl) ?_
  refine x_putF (bs' := [[(q, .inr (0, [.int 0, .int 0, .int 50, .int 140, .ref q1, .ref q2, .ref q3, .ref q4, .ref q5, .ref q6]))], [(q1, .inl (G.2.1, 12, .inl (fun _ => 0)))], [(q2, .inl (G.2.1, 12, .inl (fun _ => 0)))], [(q3, .inl (G.2.1, 12, .inl (fun _ => 0)))], [(q4, .inl (G.2.2.1, 12, .inl (fun _ => 0)))], [(q5, .inl (G.2.1, 20, .inl (fun _ => 0)))], [(q6, .inl (G.2.1, 20, .inl (fun _ => 0)))]]) 0 0 X hinit hw in_X0_init_0 tyX0 tyX0_ok nmX0 rfl rfl rfl 9 (by decide) (List.mem_of_getElem? (i := 15) rfl) rfl rfl rfl rfl rfl (Nat.le_of_ble_eq_true rfl) dX0_init_72 rfl (fun H locs hw => ?_)
  refine x_nret (fun k => [q, q1, q2, q3, q4, q5, q6].getD k 0) X hw rfl rfl dX0_init_75
def rX1_init : Room := { frames := 1, cells := 6, slots := 72, locals := 12 }
theorem hd_X1_init : yX1_init.cls = RX1 ∧ yX1_init.cls ≠ "java/lang/invoke/MethodHandle" ∧ yX1_init.cls ≠ "java/lang/invoke/VarHandle" ∧ (parseMethodDescriptor yX1_init.desc).map (fun d => d.parameters.length) = some 0 := by decide +kernel
theorem in_X1_init_1 : ∀ w ∈ u_ws RX1 TX1 7, w ∈ wsX1_init := fun w h => (List.mem_cons_of_mem _ (List.mem_append_right _ h))
def new_F : FV := (0, fun _ => 0, fun _ => 0, fun _ => 0, fun _ => 0, fun _ => 0, fun _ => 0)
set_option maxHeartbeats 4000000 in
set_option maxRecDepth 100000 in
theorem m_X1_init {G : GG} {l : Launch} {q : Nat} : Cn G l yX1_init wsX1_init rX1_init [.ref q] (fl [[(q, .inr (1, [.int 0, .null, .null, .null, .null, .null, .null]))]]) 6 72 (fun u : Nat → Nat => u 0 = q) (fun u => fl [fB G u new_F]) := by
  refine Cn.intro cX1_init 1 RX1 (by decide) rfl rfl rfl (Nat.le_of_ble_eq_true rfl) ?_
  intro p e s m below meth c A ls hinit X hw hl
  obtain ⟨⟨hx, hb, hml, hown, hts⟩, hK, hr, hlk, hA⟩ := id X
  have hl : lv_has ls 1 [(0, .ref q)] := hl
  refine lv_aload_n hx hb dX1_init_0 rfl (lv_at hl 0 rfl) ?_
  refine W.objInit hx hb hown (hts _ (List.mem_of_getElem? (i := 1) rfl)) (hts _ (List.mem_of_getElem? (i := 2) rfl)) (hts _ (List.mem_of_getElem? (i := 3) rfl)) rfl (by rw [hml]; exact hl.1) rfl dX1_init_1 (Nat.le_of_ble_eq_true rfl) (Nat.le_of_ble_eq_true rfl) ?_
  refine W.eq (g2 := F0 m 4 ls []) rfl ?_
  refine lv_aload_n hx hb dX1_init_4 rfl (lv_at hl 0 rfl) ?_
  refine lv_iconst (v := 0) hx hb dX1_init_5 (by decide) ?_
  refine x_put (bs' := [[(q, .inr (1, [.int 0, .null, .null, .null, .null, .null, .null]))]]) 0 0 X hw in_X1_init_1 tyX1 tyX1_ok nmX1 rfl rfl rfl 0 (by decide) (List.mem_of_getElem? (i := 4) rfl) rfl rfl rfl rfl (Nat.le_of_ble_eq_true rfl) dX1_init_6 rfl (fun H locs hw => ?_)
  refine lv_aload_n hx hb dX1_init_9 rfl (lv_at hl 0 rfl) ?_
  refine lv_bipush (v := 12) hx hb dX1_init_10 (by decide) ?_
  refine x_newa (N := 12) X hw (List.mem_of_getElem? (i := 5) rfl) (by decide) (by decide) (Nat.le_of_ble_eq_true rfl) (Nat.le_of_ble_eq_true rfl) (Nat.le_of_ble_eq_true rfl) dX1_init_12 (fun q1 H hw => ?_)
  have hw : Wd G A s H _ (fl [[(q, .inr (1, [.int 0, .null, .null, .null, .null, .null, .null]))], [(q1, .inl (G.2.1, 12, .inl (fun _ => 0)))]]) := hw
  refine W.widen (k := 1) (n := 12) (Nat.le_of_ble_eq_true rfl) (Nat.le_of_ble_eq_true rfl) ?_
  refine x_putF (bs' := [[(q, .inr (1, [.int 0, .ref q1, .null, .null, .null, .null, .null]))], [(q1, .inl (G.2.1, 12, .inl (fun _ => 0)))]]) 0 0 X hinit hw in_X1_init_1 tyX1 tyX1_ok nmX1 rfl rfl rfl 1 (by decide) (List.mem_of_getElem? (i := 6) rfl) rfl rfl rfl rfl rfl (Nat.le_of_ble_eq_true rfl) dX1_init_14 rfl (fun H locs hw => ?_)
  refine lv_aload_n hx hb dX1_init_17 rfl (lv_at hl 0 rfl) ?_
  refine lv_bipush (v := 12) hx hb dX1_init_18 (by decide) ?_
  refine x_newa (N := 12) X hw (List.mem_of_getElem? (i := 5) rfl) (by decide) (by decide) (Nat.le_of_ble_eq_true rfl) (Nat.le_of_ble_eq_true rfl) (Nat.le_of_ble_eq_true rfl) dX1_init_20 (fun q2 H hw => ?_)
  have hw : Wd G A s H _ (fl [[(q, .inr (1, [.int 0, .ref q1, .null, .null, .null, .null, .null]))], [(q1, .inl (G.2.1, 12, .inl (fun _ => 0)))], [(q2, .inl (G.2.1, 12, .inl (fun _ => 0)))]]) := hw
  refine W.widen (k := 2) (n := 24) (Nat.le_of_ble_eq_true rfl) (Nat.le_of_ble_eq_true rfl) ?_
  refine x_putF (bs' := [[(q, .inr (1, [.int 0, .ref q1, .ref q2, .null, .null, .null, .null]))], [(q1, .inl (G.2.1, 12, .inl (fun _ => 0)))], [(q2, .inl (G.2.1, 12, .inl (fun _ => 0)))]]) 0 0 X hinit hw in_X1_init_1 tyX1 tyX1_ok nmX1 rfl rfl rfl 2 (by decide) (List.mem_of_getElem? (i := 7) rfl) rfl rfl rfl rfl rfl (Nat.le_of_ble_eq_true rfl) dX1_init_22 rfl (fun H locs hw => ?_)
  refine lv_aload_n hx hb dX1_init_25 rfl (lv_at hl 0 rfl) ?_
  refine lv_bipush (v := 12) hx hb dX1_init_26 (by decide) ?_
  refine x_newa (N := 12) X hw (List.mem_of_getElem? (i := 5) rfl) (by decide) (by decide) (Nat.le_of_ble_eq_true rfl) (Nat.le_of_ble_eq_true rfl) (Nat.le_of_ble_eq_true rfl) dX1_init_28 (fun q3 H hw => ?_)
  have hw : Wd G A s H _ (fl [[(q, .inr (1, [.int 0, .ref q1, .ref q2, .null, .null, .null, .null]))], [(q1, .inl (G.2.1, 12, .inl (fun _ => 0)))], [(q2, .inl (G.2.1, 12, .inl (fun _ => 0)))], [(q3, .inl (G.2.1, 12, .inl (fun _ => 0)))]]) := hw
  refine W.widen (k := 3) (n := 36) (Nat.le_of_ble_eq_true rfl) (Nat.le_of_ble_eq_true rfl) ?_
  refine x_putF (bs' := [[(q, .inr (1, [.int 0, .ref q1, .ref q2, .ref q3, .null, .null, .null]))], [(q1, .inl (G.2.1, 12, .inl (fun _ => 0)))], [(q2, .inl (G.2.1, 12, .inl (fun _ => 0)))], [(q3, .inl (G.2.1, 12, .inl (fun _ => 0)))]]) 0 0 X hinit hw in_X1_init_1 tyX1 tyX1_ok nmX1 rfl rfl rfl 3 (by decide) (List.mem_of_getElem? (i := 8) rfl) rfl rfl rfl rfl rfl (Nat.le_of_ble_eq_true rfl) dX1_init_30 rfl (fun H locs hw => ?_)
  refine lv_aload_n hx hb dX1_init_33 rfl (lv_at hl 0 rfl) ?_
  refine lv_bipush (v := 12) hx hb dX1_init_34 (by decide) ?_
  refine x_newa (N := 12) X hw (List.mem_of_getElem? (i := 5) rfl) (by decide) (by decide) (Nat.le_of_ble_eq_true rfl) (Nat.le_of_ble_eq_true rfl) (Nat.le_of_ble_eq_true rfl) dX1_init_36 (fun q4 H hw => ?_)
  have hw : Wd G A s H _ (fl [[(q, .inr (1, [.int 0, .ref q1, .ref q2, .ref q3, .null, .null, .null]))], [(q1, .inl (G.2.1, 12, .inl (fun _ => 0)))], [(q2, .inl (G.2.1, 12, .inl (fun _ => 0)))], [(q3, .inl (G.2.1, 12, .inl (fun _ => 0)))], [(q4, .inl (G.2.1, 12, .inl (fun _ => 0)))]]) := hw
  refine W.widen (k := 4) (n := 48) (Nat.le_of_ble_eq_true rfl) (Nat.le_of_ble_eq_true rfl) ?_
  refine x_putF (bs' := [[(q, .inr (1, [.int 0, .ref q1, .ref q2, .ref q3, .ref q4, .null, .null]))], [(q1, .inl (G.2.1, 12, .inl (fun _ => 0)))], [(q2, .inl (G.2.1, 12, .inl (fun _ => 0)))], [(q3, .inl (G.2.1, 12, .inl (fun _ => 0)))], [(q4, .inl (G.2.1, 12, .inl (fun _ => 0)))]]) 0 0 X hinit hw in_X1_init_1 tyX1 tyX1_ok nmX1 rfl rfl rfl 4 (by decide) (List.mem_of_getElem? (i := 9) rfl) rfl rfl rfl rfl rfl (Nat.le_of_ble_eq_true rfl) dX1_init_38 rfl (fun H locs hw => ?_)
  refine lv_aload_n hx hb dX1_init_41 rfl (lv_at hl 0 rfl) ?_
  refine lv_bipush (v := 12) hx hb dX1_init_42 (by decide) ?_
  refine x_newa (N := 12) X hw (List.mem_of_getElem? (i := 5) rfl) (by decide) (by decide) (Nat.le_of_ble_eq_true rfl) (Nat.le_of_ble_eq_true rfl) (Nat.le_of_ble_eq_true rfl) dX1_init_44 (fun q5 H hw => ?_)
  have hw : Wd G A s H _ (fl [[(q, .inr (1, [.int 0, .ref q1, .ref q2, .ref q3, .ref q4, .null, .null]))], [(q1, .inl (G.2.1, 12, .inl (fun _ => 0)))], [(q2, .inl (G.2.1, 12, .inl (fun _ => 0)))], [(q3, .inl (G.2.1, 12, .inl (fun _ => 0)))], [(q4, .inl (G.2.1, 12, .inl (fun _ => 0)))], [(q5, .inl (G.2.1, 12, .inl (fun _ => 0)))]]) := hw
  refine W.widen (k := 5) (n := 60) (Nat.le_of_ble_eq_true rfl) (Nat.le_of_ble_eq_true rfl) ?_
  refine x_putF (bs' := [[(q, .inr (1, [.int 0, .ref q1, .ref q2, .ref q3, .ref q4, .ref q5, .null]))], [(q1, .inl (G.2.1, 12, .inl (fun _ => 0)))], [(q2, .inl (G.2.1, 12, .inl (fun _ => 0)))], [(q3, .inl (G.2.1, 12, .inl (fun _ => 0)))], [(q4, .inl (G.2.1, 12, .inl (fun _ => 0)))], [(q5, .inl (G.2.1, 12, .inl (fun _ => 0)))]]) 0 0 X hinit hw in_X1_init_1 tyX1 tyX1_ok nmX1 rfl rfl rfl 5 (by decide) (List.mem_of_getElem? (i := 10) rfl) rfl rfl rfl rfl rfl (Nat.le_of_ble_eq_true rfl) dX1_init_46 rfl (fun H locs hw => ?_)
  refine lv_aload_n hx hb dX1_init_49 rfl (lv_at hl 0 rfl) ?_
  refine lv_bipush (v := 12) hx hb dX1_init_50 (by decide) ?_
  refine x_newa (N := 12) X hw (List.mem_of_getElem? (i := 5) rfl) (by decide) (by decide) (Nat.le_of_ble_eq_true rfl) (Nat.le_of_ble_eq_true rfl) (Nat.le_of_ble_eq_true rfl) dX1_init_52 (fun q6 H hw => ?_)
  have hw : Wd G A s H _ (fl [[(q, .inr (1, [.int 0, .ref q1, .ref q2, .ref q3, .ref q4, .ref q5, .null]))], [(q1, .inl (G.2.1, 12, .inl (fun _ => 0)))], [(q2, .inl (G.2.1, 12, .inl (fun _ => 0)))], [(q3, .inl (G.2.1, 12, .inl (fun _ => 0)))], [(q4, .inl (G.2.1, 12, .inl (fun _ => 0)))], [(q5, .inl (G.2.1, 12, .inl (fun _ => 0)))], [(q6, .inl (G.2.1, 12, .inl (fun _ => 0)))]]) := hw
  refine W.widen (k := 6) (n := 72) (Nat.le_of_ble_eq_true rfl) (Nat.le_of_ble_eq_true rfl) ?_
  refine x_putF (bs' := [[(q, .inr (1, [.int 0, .ref q1, .ref q2, .ref q3, .ref q4, .ref q5, .ref q6]))], [(q1, .inl (G.2.1, 12, .inl (fun _ => 0)))], [(q2, .inl (G.2.1, 12, .inl (fun _ => 0)))], [(q3, .inl (G.2.1, 12, .inl (fun _ => 0)))], [(q4, .inl (G.2.1, 12, .inl (fun _ => 0)))], [(q5, .inl (G.2.1, 12, .inl (fun _ => 0)))], [(q6, .inl (G.2.1, 12, .inl (fun _ => 0)))]]) 0 0 X hinit hw in_X1_init_1 tyX1 tyX1_ok nmX1 rfl rfl rfl 6 (by decide) (List.mem_of_getElem? (i := 11) rfl) rfl rfl rfl rfl rfl (Nat.le_of_ble_eq_true rfl) dX1_init_54 rfl (fun H locs hw => ?_)
  refine x_nret (fun k => [q, q1, q2, q3, q4, q5, q6].getD k 0) X hw rfl rfl dX1_init_57
def rX3_init : Room := { frames := 1, cells := 1, slots := 120, locals := 12 }
theorem hd_X3_init : yX3_init.cls = RX3 ∧ yX3_init.cls ≠ "java/lang/invoke/MethodHandle" ∧ yX3_init.cls ≠ "java/lang/invoke/VarHandle" ∧ (parseMethodDescriptor yX3_init.desc).map (fun d => d.parameters.length) = some 0 := by decide +kernel
theorem in_X3_init_3 : ∀ w ∈ u_ws RX3 TX3 5, w ∈ wsX3_init := fun w h => (List.mem_cons_of_mem _ (List.mem_append_right _ h))
def new_T : TV := (fun _ => 0, 0, 0, 0, (-1))
set_option maxHeartbeats 4000000 in
set_option maxRecDepth 100000 in
theorem m_X3_init {G : GG} {l : Launch} {q : Nat} : Cn G l yX3_init wsX3_init rX3_init [.ref q] (fl [[(q, .inr (3, [.null, .int 0, .int 0, .int 0, .int 0]))]]) 1 120 (fun u : Nat → Nat => u 0 = q) (fun u => fl [tB G u new_T]) := by
  refine Cn.intro cX3_init 1 RX3 (by decide) rfl rfl rfl (Nat.le_of_ble_eq_true rfl) ?_
  intro p e s m below meth c A ls hinit X hw hl
  obtain ⟨⟨hx, hb, hml, hown, hts⟩, hK, hr, hlk, hA⟩ := id X
  have hl : lv_has ls 1 [(0, .ref q)] := hl
  refine lv_aload_n hx hb dX3_init_0 rfl (lv_at hl 0 rfl) ?_
  refine W.objInit hx hb hown (hts _ (List.mem_of_getElem? (i := 1) rfl)) (hts _ (List.mem_of_getElem? (i := 2) rfl)) (hts _ (List.mem_of_getElem? (i := 3) rfl)) rfl (by rw [hml]; exact hl.1) rfl dX3_init_1 (Nat.le_of_ble_eq_true rfl) (Nat.le_of_ble_eq_true rfl) ?_
  refine W.eq (g2 := F0 m 4 ls []) rfl ?_
  refine lv_aload_n hx hb dX3_init_4 rfl (lv_at hl 0 rfl) ?_
  refine lv_bipush (v := 120) hx hb dX3_init_5 (by decide) ?_
  refine x_newa (N := 120) X hw (List.mem_of_getElem? (i := 4) rfl) (by decide) (by decide) (Nat.le_of_ble_eq_true rfl) (Nat.le_of_ble_eq_true rfl) (Nat.le_of_ble_eq_true rfl) dX3_init_7 (fun q1 H hw => ?_)
  have hw : Wd G A s H _ (fl [[(q, .inr (3, [.null, .int 0, .int 0, .int 0, .int 0]))], [(q1, .inl (G.2.1, 120, .inl (fun _ => 0)))]]) := hw
  refine W.widen (k := 1) (n := 120) (Nat.le_of_ble_eq_true rfl) (Nat.le_of_ble_eq_true rfl) ?_
  refine x_putF (bs' := [[(q, .inr (3, [.ref q1, .int 0, .int 0, .int 0, .int 0]))], [(q1, .inl (G.2.1, 120, .inl (fun _ => 0)))]]) 0 0 X hinit hw in_X3_init_3 tyX3 tyX3_ok nmX3 rfl rfl rfl 0 (by decide) (List.mem_of_getElem? (i := 5) rfl) rfl rfl rfl rfl rfl (Nat.le_of_ble_eq_true rfl) dX3_init_9 rfl (fun H locs hw => ?_)
  refine lv_aload_n hx hb dX3_init_12 rfl (lv_at hl 0 rfl) ?_
  refine lv_iconst (v := 0) hx hb dX3_init_13 (by decide) ?_
  refine x_put (bs' := [[(q, .inr (3, [.ref q1, .int 0, .int 0, .int 0, .int 0]))], [(q1, .inl (G.2.1, 120, .inl (fun _ => 0)))]]) 0 0 X hw in_X3_init_3 tyX3 tyX3_ok nmX3 rfl rfl rfl 1 (by decide) (List.mem_of_getElem? (i := 6) rfl) rfl rfl rfl rfl (Nat.le_of_ble_eq_true rfl) dX3_init_14 rfl (fun H locs hw => ?_)
  refine lv_aload_n hx hb dX3_init_17 rfl (lv_at hl 0 rfl) ?_
  refine lv_iconst (v := 0) hx hb dX3_init_18 (by decide) ?_
  refine x_put (bs' := [[(q, .inr (3, [.ref q1, .int 0, .int 0, .int 0, .int 0]))], [(q1, .inl (G.2.1, 120, .inl (fun _ => 0)))]]) 0 0 X hw in_X3_init_3 tyX3 tyX3_ok nmX3 rfl rfl rfl 2 (by decide) (List.mem_of_getElem? (i := 7) rfl) rfl rfl rfl rfl (Nat.le_of_ble_eq_true rfl) dX3_init_19 rfl (fun H locs hw => ?_)
  refine lv_aload_n hx hb dX3_init_22 rfl (lv_at hl 0 rfl) ?_
  refine lv_iconst (v := 0) hx hb dX3_init_23 (by decide) ?_
  refine x_put (bs' := [[(q, .inr (3, [.ref q1, .int 0, .int 0, .int 0, .int 0]))], [(q1, .inl (G.2.1, 120, .inl (fun _ => 0)))]]) 0 0 X hw in_X3_init_3 tyX3 tyX3_ok nmX3 rfl rfl rfl 3 (by decide) (List.mem_of_getElem? (i := 8) rfl) rfl rfl rfl rfl (Nat.le_of_ble_eq_true rfl) dX3_init_24 rfl (fun H locs hw => ?_)
  refine lv_aload_n hx hb dX3_init_27 rfl (lv_at hl 0 rfl) ?_
  refine lv_iconst (v := (-1)) hx hb dX3_init_28 (by decide) ?_
  refine x_put (bs' := [[(q, .inr (3, [.ref q1, .int 0, .int 0, .int 0, .int (-1)]))], [(q1, .inl (G.2.1, 120, .inl (fun _ => 0)))]]) 0 0 X hw in_X3_init_3 tyX3 tyX3_ok nmX3 rfl rfl rfl 4 (by decide) (List.mem_of_getElem? (i := 9) rfl) rfl rfl rfl rfl (Nat.le_of_ble_eq_true rfl) dX3_init_29 rfl (fun H locs hw => ?_)
  refine x_nret (fun k => [q, q1].getD k 0) X hw rfl rfl dX3_init_32
def rX2_init : Room := { frames := 2, cells := 36, slots := 495, locals := 32 }
theorem hd_X2_init : yX2_init.cls = RX2 ∧ yX2_init.cls ≠ "java/lang/invoke/MethodHandle" ∧ yX2_init.cls ≠ "java/lang/invoke/VarHandle" ∧ (parseMethodDescriptor yX2_init.desc).map (fun d => d.parameters.length) = some 0 := by decide +kernel
theorem in_X2_init_0 : ∀ w ∈ u_ws RX0 TX0 10, w ∈ wsX2_init := fun w h => (List.mem_cons_of_mem _ (List.mem_append_right _ h))
theorem in_X2_init_2 : ∀ w ∈ u_ws RX2 TX2 2, w ∈ wsX2_init := fun w h => (List.mem_cons_of_mem _ (List.mem_append_left _ (List.mem_append_right _ h)))
def new_H (ad : Nat → Nat → Nat) : HV := (0, fun _ => new_C, ad)
set_option maxHeartbeats 4000000 in
set_option maxRecDepth 100000 in
theorem m_X2_init {G : GG} {l : Launch} {q : Nat} : Cn G l yX2_init wsX2_init rX2_init [.ref q] (fl [[(q, .inr (2, [.null, .int 0]))]]) 36 495 (fun u : (Nat → Nat) × (Nat → Nat → Nat) => u.1 0 = q) (fun u => fl [hB G u.1 (new_H u.2)]) := by
  refine Cn.intro cX2_init 2 RX2 (by decide) rfl rfl rfl (Nat.le_of_ble_eq_true rfl) ?_
  intro p e s m below meth c A ls hinit X hw hl
  obtain ⟨⟨hx, hb, hml, hown, hts⟩, hK, hr, hlk, hA⟩ := id X
  have hl : lv_has ls 2 [(0, .ref q)] := hl
  refine lv_aload_n hx hb dX2_init_0 rfl (lv_at hl 0 rfl) ?_
  refine W.objInit hx hb hown (hts _ (List.mem_of_getElem? (i := 1) rfl)) (hts _ (List.mem_of_getElem? (i := 2) rfl)) (hts _ (List.mem_of_getElem? (i := 3) rfl)) rfl (by rw [hml]; exact hl.1) rfl dX2_init_1 (Nat.le_of_ble_eq_true rfl) (Nat.le_of_ble_eq_true rfl) ?_
  refine W.eq (g2 := F0 m 4 ls []) rfl ?_
  refine lv_aload_n hx hb dX2_init_4 rfl (lv_at hl 0 rfl) ?_
  refine lv_iconst (v := 5) hx hb dX2_init_5 (by decide) ?_
  refine x_newq (N := 5) X hw (List.mem_of_getElem? (i := 4) rfl) (by decide) (by decide) (Nat.le_of_ble_eq_true rfl) (Nat.le_of_ble_eq_true rfl) (Nat.le_of_ble_eq_true rfl) dX2_init_6 (fun q1 H hw => ?_)
  refine W.widen (k := 1) (n := 5) (Nat.le_of_ble_eq_true rfl) (Nat.le_of_ble_eq_true rfl) ?_
  have hw : Wd G A s H _ (fl [[(q, .inr (2, [.null, .int 0]))], [(q1, .inl (G.2.2.2, 5, .inr (.inr (.inr (.inr (fun _ => none))))))]]) := hw
  refine x_putF (bs' := [[(q, .inr (2, [.ref q1, .int 0]))], [(q1, .inl (G.2.2.2, 5, .inr (.inr (.inr (.inr (fun _ => none))))))]]) 0 0 X hinit hw in_X2_init_2 tyX2 tyX2_ok nmX2 rfl rfl rfl 0 (by decide) (List.mem_of_getElem? (i := 5) rfl) rfl rfl rfl rfl rfl (Nat.le_of_ble_eq_true rfl) dX2_init_9 rfl (fun H locs hw => ?_)
  refine lv_aload_n hx hb dX2_init_12 rfl (lv_at hl 0 rfl) ?_
  refine lv_iconst (v := 0) hx hb dX2_init_13 (by decide) ?_
  refine x_put (bs' := [[(q, .inr (2, [.ref q1, .int 0]))], [(q1, .inl (G.2.2.2, 5, .inr (.inr (.inr (.inr (fun _ => none))))))]]) 0 0 X hw in_X2_init_2 tyX2 tyX2_ok nmX2 rfl rfl rfl 1 (by decide) (List.mem_of_getElem? (i := 6) rfl) rfl rfl rfl rfl (Nat.le_of_ble_eq_true rfl) dX2_init_14 rfl (fun H locs hw => ?_)
  refine lv_iconst (v := 0) hx hb dX2_init_17 (by decide) ?_
  refine lv_istore_n (lv' := [(1, .int 0), (0, .ref q)]) hx hb dX2_init_18 rfl hl (by decide) rfl (fun ls hl => ?_)
  refine lv_iload_n hx hb dX2_init_19 rfl (lv_at hl 0 rfl) ?_
  refine lv_aload_n hx hb dX2_init_20 rfl (lv_at hl 1 rfl) ?_
  refine x_get (v := .ref q1) 0 0 X hw in_X2_init_2 rfl rfl rfl 0 (by decide) (List.mem_of_getElem? (i := 5) rfl) rfl rfl dX2_init_21 ?_
  refine x_alen (n := 5) (t0 := 2) 1 0 X hw rfl rfl rfl rfl dX2_init_24 ?_
  refine lv_icmp_ge (tgt := 47) hx hb dX2_init_25 (by decide) (fun k => absurd k (by decide)) (fun _ => ?_)
  refine lv_aload_n hx hb dX2_init_28 rfl (lv_at hl 1 rfl) ?_
  refine x_get (v := .ref q1) 0 0 X hw in_X2_init_2 rfl rfl rfl 0 (by decide) (List.mem_of_getElem? (i := 5) rfl) rfl rfl dX2_init_29 ?_
  refine lv_iload_n hx hb dX2_init_32 rfl (lv_at hl 0 rfl) ?_
  refine x_new (ci := 0) (fs := [.int 0, .int 0, .int 0, .int 0, .null, .null, .null, .null, .null, .null]) X hw in_X2_init_0 tyX0 tyX0_ok (List.mem_of_getElem? (i := 4) rfl) (List.mem_of_getElem? (i := 7) rfl) (List.mem_of_getElem? (i := 8) rfl) rfl (by decide) (Nat.le_of_ble_eq_true rfl) (Nat.le_of_ble_eq_true rfl) dX2_init_33 (fun y0 H hw => ?_)
  refine W.widen (k := 2) (n := 15) (Nat.le_of_ble_eq_true rfl) (Nat.le_of_ble_eq_true rfl) ?_
  have hw : Wd G A s H _ (fl [[(q, .inr (2, [.ref q1, .int 0]))], [(q1, .inl (G.2.2.2, 5, .inr (.inr (.inr (.inr (fun _ => none))))))], [(y0, .inr (0, [.int 0, .int 0, .int 0, .int 0, .null, .null, .null, .null, .null, .null]))]]) := hw
  refine lv_dup hx hb dX2_init_36 rfl ?_
  refine x_IN (w' := fun u => fl [[(q, .inr (2, [.ref q1, .int 0]))], [(q1, .inl (G.2.2.2, 5, .inr (.inr (.inr (.inr (fun _ => none))))))], cB G u new_C]) X hw (m_X0_init (G := G) (l := l) (q := y0)) ⟨fun _ => 0⟩ (fun u => Cut.blocks (bs' := [[(q, .inr (2, [.ref q1, .int 0]))], [(q1, .inl (G.2.2.2, 5, .inr (.inr (.inr (.inr (fun _ => none))))))], cB G u new_C]) [2] [0, 1] [1, 2, 0] [cB G u new_C] rfl rfl rfl rfl rfl) ⟨va_cnB 0 hts gX2_init_X0_init_n21 rfl rfl rfl (hK.2.1 _ (List.mem_of_getElem? (i := 8) rfl)) (hts _ (List.mem_of_getElem? (i := 8) rfl)) hd_X0_init.2 ⟨Nat.le_of_ble_eq_true rfl, Nat.le_of_ble_eq_true rfl⟩, rfl, hts _ (List.mem_of_getElem? (i := 9) rfl)⟩ hl.1 rfl (Nat.le_of_ble_eq_true rfl) dX2_init_37 ⟨Nat.le_of_ble_eq_true rfl, Nat.le_of_ble_eq_true rfl⟩ (fun u0 H locs hu0 hw => ?_)
  refine W.widen (k := 8) (n := 103) (Nat.le_of_ble_eq_true rfl) (Nat.le_of_ble_eq_true rfl) ?_
  rw [← hu0]
  refine x_aast (f := fun _ => none) (k := 0) (v := u0 0) (bs' := [[(q, .inr (2, [.ref q1, .int 0]))], [(q1, .inl (G.2.2.2, 5, .inr (.inr (.inr (.inr (va_up (fun _ => none) 0 (some (u0 0))))))))], cB G u0 new_C]) 1 0 X hw rfl rfl (List.mem_flatten.mpr ⟨cB G u0 new_C, List.mem_of_getElem? (i := 2) rfl, List.mem_cons_self⟩) (vp_in_nI (n := 0) (by decide) (by decide)) (by decide) dX2_init_40 rfl (fun H locs hw => ?_)
  refine lv_iinc (v := 1) (lv' := [(1, .int 1), (0, .ref q)]) hx hb dX2_init_41 hl (k := 0) rfl (by decide) (by decide) rfl (fun ls hl => ?_)
  refine lv_goto (tgt := 19) hx hb dX2_init_44 (by decide) ?_
  refine lv_iload_n hx hb dX2_init_19 rfl (lv_at hl 0 rfl) ?_
  refine lv_aload_n hx hb dX2_init_20 rfl (lv_at hl 1 rfl) ?_
  refine x_get (v := .ref q1) 0 0 X hw in_X2_init_2 rfl rfl rfl 0 (by decide) (List.mem_of_getElem? (i := 5) rfl) rfl rfl dX2_init_21 ?_
  refine x_alen (n := 5) (t0 := 2) 1 0 X hw rfl rfl rfl rfl dX2_init_24 ?_
  refine lv_icmp_ge (tgt := 47) hx hb dX2_init_25 (by decide) (fun k => absurd k (by decide)) (fun _ => ?_)
  refine lv_aload_n hx hb dX2_init_28 rfl (lv_at hl 1 rfl) ?_
  refine x_get (v := .ref q1) 0 0 X hw in_X2_init_2 rfl rfl rfl 0 (by decide) (List.mem_of_getElem? (i := 5) rfl) rfl rfl dX2_init_29 ?_
  refine lv_iload_n hx hb dX2_init_32 rfl (lv_at hl 0 rfl) ?_
  refine x_new (ci := 0) (fs := [.int 0, .int 0, .int 0, .int 0, .null, .null, .null, .null, .null, .null]) X hw in_X2_init_0 tyX0 tyX0_ok (List.mem_of_getElem? (i := 4) rfl) (List.mem_of_getElem? (i := 7) rfl) (List.mem_of_getElem? (i := 8) rfl) rfl (by decide) (Nat.le_of_ble_eq_true rfl) (Nat.le_of_ble_eq_true rfl) dX2_init_33 (fun y1 H hw => ?_)
  refine W.widen (k := 9) (n := 113) (Nat.le_of_ble_eq_true rfl) (Nat.le_of_ble_eq_true rfl) ?_
  have hw : Wd G A s H _ (fl [[(q, .inr (2, [.ref q1, .int 0]))], [(q1, .inl (G.2.2.2, 5, .inr (.inr (.inr (.inr (va_up (fun _ => none) 0 (some (u0 0))))))))], cB G u0 new_C, [(y1, .inr (0, [.int 0, .int 0, .int 0, .int 0, .null, .null, .null, .null, .null, .null]))]]) := hw
  refine lv_dup hx hb dX2_init_36 rfl ?_
  refine x_IN (w' := fun u => fl [[(q, .inr (2, [.ref q1, .int 0]))], [(q1, .inl (G.2.2.2, 5, .inr (.inr (.inr (.inr (va_up (fun _ => none) 0 (some (u0 0))))))))], cB G u0 new_C, cB G u new_C]) X hw (m_X0_init (G := G) (l := l) (q := y1)) ⟨fun _ => 0⟩ (fun u => Cut.blocks (bs' := [[(q, .inr (2, [.ref q1, .int 0]))], [(q1, .inl (G.2.2.2, 5, .inr (.inr (.inr (.inr (va_up (fun _ => none) 0 (some (u0 0))))))))], cB G u0 new_C, cB G u new_C]) [3] [0, 1, 2] [1, 2, 3, 0] [cB G u new_C] rfl rfl rfl rfl rfl) ⟨va_cnB 0 hts gX2_init_X0_init_n21 rfl rfl rfl (hK.2.1 _ (List.mem_of_getElem? (i := 8) rfl)) (hts _ (List.mem_of_getElem? (i := 8) rfl)) hd_X0_init.2 ⟨Nat.le_of_ble_eq_true rfl, Nat.le_of_ble_eq_true rfl⟩, rfl, hts _ (List.mem_of_getElem? (i := 9) rfl)⟩ hl.1 rfl (Nat.le_of_ble_eq_true rfl) dX2_init_37 ⟨Nat.le_of_ble_eq_true rfl, Nat.le_of_ble_eq_true rfl⟩ (fun u1 H locs hu1 hw => ?_)
  refine W.widen (k := 15) (n := 201) (Nat.le_of_ble_eq_true rfl) (Nat.le_of_ble_eq_true rfl) ?_
  rw [← hu1]
  refine x_aast (f := va_up (fun _ => none) 0 (some (u0 0))) (k := 1) (v := u1 0) (bs' := [[(q, .inr (2, [.ref q1, .int 0]))], [(q1, .inl (G.2.2.2, 5, .inr (.inr (.inr (.inr (va_up (va_up (fun _ => none) 0 (some (u0 0))) 1 (some (u1 0))))))))], cB G u0 new_C, cB G u1 new_C]) 1 0 X hw rfl rfl (List.mem_flatten.mpr ⟨cB G u1 new_C, List.mem_of_getElem? (i := 3) rfl, List.mem_cons_self⟩) (vp_in_nI (n := 1) (by decide) (by decide)) (by decide) dX2_init_40 rfl (fun H locs hw => ?_)
  refine lv_iinc (v := 2) (lv' := [(1, .int 2), (0, .ref q)]) hx hb dX2_init_41 hl (k := 0) rfl (by decide) (by decide) rfl (fun ls hl => ?_)
  refine lv_goto (tgt := 19) hx hb dX2_init_44 (by decide) ?_
  refine lv_iload_n hx hb dX2_init_19 rfl (lv_at hl 0 rfl) ?_
  refine lv_aload_n hx hb dX2_init_20 rfl (lv_at hl 1 rfl) ?_
  refine x_get (v := .ref q1) 0 0 X hw in_X2_init_2 rfl rfl rfl 0 (by decide) (List.mem_of_getElem? (i := 5) rfl) rfl rfl dX2_init_21 ?_
  refine x_alen (n := 5) (t0 := 2) 1 0 X hw rfl rfl rfl rfl dX2_init_24 ?_
  refine lv_icmp_ge (tgt := 47) hx hb dX2_init_25 (by decide) (fun k => absurd k (by decide)) (fun _ => ?_)
  refine lv_aload_n hx hb dX2_init_28 rfl (lv_at hl 1 rfl) ?_
  refine x_get (v := .ref q1) 0 0 X hw in_X2_init_2 rfl rfl rfl 0 (by decide) (List.mem_of_getElem? (i := 5) rfl) rfl rfl dX2_init_29 ?_
  refine lv_iload_n hx hb dX2_init_32 rfl (lv_at hl 0 rfl) ?_
  refine x_new (ci := 0) (fs := [.int 0, .int 0, .int 0, .int 0, .null, .null, .null, .null, .null, .null]) X hw in_X2_init_0 tyX0 tyX0_ok (List.mem_of_getElem? (i := 4) rfl) (List.mem_of_getElem? (i := 7) rfl) (List.mem_of_getElem? (i := 8) rfl) rfl (by decide) (Nat.le_of_ble_eq_true rfl) (Nat.le_of_ble_eq_true rfl) dX2_init_33 (fun y2 H hw => ?_)
  refine W.widen (k := 16) (n := 211) (Nat.le_of_ble_eq_true rfl) (Nat.le_of_ble_eq_true rfl) ?_
  have hw : Wd G A s H _ (fl [[(q, .inr (2, [.ref q1, .int 0]))], [(q1, .inl (G.2.2.2, 5, .inr (.inr (.inr (.inr (va_up (va_up (fun _ => none) 0 (some (u0 0))) 1 (some (u1 0))))))))], cB G u0 new_C, cB G u1 new_C, [(y2, .inr (0, [.int 0, .int 0, .int 0, .int 0, .null, .null, .null, .null, .null, .null]))]]) := hw
  refine lv_dup hx hb dX2_init_36 rfl ?_
  refine x_IN (w' := fun u => fl [[(q, .inr (2, [.ref q1, .int 0]))], [(q1, .inl (G.2.2.2, 5, .inr (.inr (.inr (.inr (va_up (va_up (fun _ => none) 0 (some (u0 0))) 1 (some (u1 0))))))))], cB G u0 new_C, cB G u1 new_C, cB G u new_C]) X hw (m_X0_init (G := G) (l := l) (q := y2)) ⟨fun _ => 0⟩ (fun u => Cut.blocks (bs' := [[(q, .inr (2, [.ref q1, .int 0]))], [(q1, .inl (G.2.2.2, 5, .inr (.inr (.inr (.inr (va_up (va_up (fun _ => none) 0 (some (u0 0))) 1 (some (u1 0))))))))], cB G u0 new_C, cB G u1 new_C, cB G u new_C]) [4] [0, 1, 2, 3] [1, 2, 3, 4, 0] [cB G u new_C] rfl rfl rfl rfl rfl) ⟨va_cnB 0 hts gX2_init_X0_init_n21 rfl rfl rfl (hK.2.1 _ (List.mem_of_getElem? (i := 8) rfl)) (hts _ (List.mem_of_getElem? (i := 8) rfl)) hd_X0_init.2 ⟨Nat.le_of_ble_eq_true rfl, Nat.le_of_ble_eq_true rfl⟩, rfl, hts _ (List.mem_of_getElem? (i := 9) rfl)⟩ hl.1 rfl (Nat.le_of_ble_eq_true rfl) dX2_init_37 ⟨Nat.le_of_ble_eq_true rfl, Nat.le_of_ble_eq_true rfl⟩ (fun u2 H locs hu2 hw => ?_)
  refine W.widen (k := 22) (n := 299) (Nat.le_of_ble_eq_true rfl) (Nat.le_of_ble_eq_true rfl) ?_
  rw [← hu2]
  refine x_aast (f := va_up (va_up (fun _ => none) 0 (some (u0 0))) 1 (some (u1 0))) (k := 2) (v := u2 0) (bs' := [[(q, .inr (2, [.ref q1, .int 0]))], [(q1, .inl (G.2.2.2, 5, .inr (.inr (.inr (.inr (va_up (va_up (va_up (fun _ => none) 0 (some (u0 0))) 1 (some (u1 0))) 2 (some (u2 0))))))))], cB G u0 new_C, cB G u1 new_C, cB G u2 new_C]) 1 0 X hw rfl rfl (List.mem_flatten.mpr ⟨cB G u2 new_C, List.mem_of_getElem? (i := 4) rfl, List.mem_cons_self⟩) (vp_in_nI (n := 2) (by decide) (by decide)) (by decide) dX2_init_40 rfl (fun H locs hw => ?_)
  refine lv_iinc (v := 3) (lv' := [(1, .int 3), (0, .ref q)]) hx hb dX2_init_41 hl (k := 0) rfl (by decide) (by decide) rfl (fun ls hl => ?_)
  refine lv_goto (tgt := 19) hx hb dX2_init_44 (by decide) ?_
  refine lv_iload_n hx hb dX2_init_19 rfl (lv_at hl 0 rfl) ?_
  refine lv_aload_n hx hb dX2_init_20 rfl (lv_at hl 1 rfl) ?_
  refine x_get (v := .ref q1) 0 0 X hw in_X2_init_2 rfl rfl rfl 0 (by decide) (List.mem_of_getElem? (i := 5) rfl) rfl rfl dX2_init_21 ?_
  refine x_alen (n := 5) (t0 := 2) 1 0 X hw rfl rfl rfl rfl dX2_init_24 ?_
  refine lv_icmp_ge (tgt := 47) hx hb dX2_init_25 (by decide) (fun k => absurd k (by decide)) (fun _ => ?_)
  refine lv_aload_n hx hb dX2_init_28 rfl (lv_at hl 1 rfl) ?_
  refine x_get (v := .ref q1) 0 0 X hw in_X2_init_2 rfl rfl rfl 0 (by decide) (List.mem_of_getElem? (i := 5) rfl) rfl rfl dX2_init_29 ?_
  refine lv_iload_n hx hb dX2_init_32 rfl (lv_at hl 0 rfl) ?_
  refine x_new (ci := 0) (fs := [.int 0, .int 0, .int 0, .int 0, .null, .null, .null, .null, .null, .null]) X hw in_X2_init_0 tyX0 tyX0_ok (List.mem_of_getElem? (i := 4) rfl) (List.mem_of_getElem? (i := 7) rfl) (List.mem_of_getElem? (i := 8) rfl) rfl (by decide) (Nat.le_of_ble_eq_true rfl) (Nat.le_of_ble_eq_true rfl) dX2_init_33 (fun y3 H hw => ?_)
  refine W.widen (k := 23) (n := 309) (Nat.le_of_ble_eq_true rfl) (Nat.le_of_ble_eq_true rfl) ?_
  have hw : Wd G A s H _ (fl [[(q, .inr (2, [.ref q1, .int 0]))], [(q1, .inl (G.2.2.2, 5, .inr (.inr (.inr (.inr (va_up (va_up (va_up (fun _ => none) 0 (some (u0 0))) 1 (some (u1 0))) 2 (some (u2 0))))))))], cB G u0 new_C, cB G u1 new_C, cB G u2 new_C, [(y3, .inr (0, [.int 0, .int 0, .int 0, .int 0, .null, .null, .null, .null, .null, .null]))]]) := hw
  refine lv_dup hx hb dX2_init_36 rfl ?_
  refine x_IN (w' := fun u => fl [[(q, .inr (2, [.ref q1, .int 0]))], [(q1, .inl (G.2.2.2, 5, .inr (.inr (.inr (.inr (va_up (va_up (va_up (fun _ => none) 0 (some (u0 0))) 1 (some (u1 0))) 2 (some (u2 0))))))))], cB G u0 new_C, cB G u1 new_C, cB G u2 new_C, cB G u new_C]) X hw (m_X0_init (G := G) (l := l) (q := y3)) ⟨fun _ => 0⟩ (fun u => Cut.blocks (bs' := [[(q, .inr (2, [.ref q1, .int 0]))], [(q1, .inl (G.2.2.2, 5, .inr (.inr (.inr (.inr (va_up (va_up (va_up (fun _ => none) 0 (some (u0 0))) 1 (some (u1 0))) 2 (some (u2 0))))))))], cB G u0 new_C, cB G u1 new_C, cB G u2 new_C, cB G u new_C]) [5] [0, 1, 2, 3, 4] [1, 2, 3, 4, 5, 0] [cB G u new_C] rfl rfl rfl rfl rfl) ⟨va_cnB 0 hts gX2_init_X0_init_n21 rfl rfl rfl (hK.2.1 _ (List.mem_of_getElem? (i := 8) rfl)) (hts _ (List.mem_of_getElem? (i := 8) rfl)) hd_X0_init.2 ⟨Nat.le_of_ble_eq_true rfl, Nat.le_of_ble_eq_true rfl⟩, rfl, hts _ (List.mem_of_getElem? (i := 9) rfl)⟩ hl.1 rfl (Nat.le_of_ble_eq_true rfl) dX2_init_37 ⟨Nat.le_of_ble_eq_true rfl, Nat.le_of_ble_eq_true rfl⟩ (fun u3 H locs hu3 hw => ?_)
  refine W.widen (k := 29) (n := 397) (Nat.le_of_ble_eq_true rfl) (Nat.le_of_ble_eq_true rfl) ?_
  rw [← hu3]
  refine x_aast (f := va_up (va_up (va_up (fun _ => none) 0 (some (u0 0))) 1 (some (u1 0))) 2 (some (u2 0))) (k := 3) (v := u3 0) (bs' := [[(q, .inr (2, [.ref q1, .int 0]))], [(q1, .inl (G.2.2.2, 5, .inr (.inr (.inr (.inr (va_up (va_up (va_up (va_up (fun _ => none) 0 (some (u0 0))) 1 (some (u1 0))) 2 (some (u2 0))) 3 (some (u3 0))))))))], cB G u0 new_C, cB G u1 new_C, cB G u2 new_C, cB G u3 new_C]) 1 0 X hw rfl rfl (List.mem_flatten.mpr ⟨cB G u3 new_C, List.mem_of_getElem? (i := 5) rfl, List.mem_cons_self⟩) (vp_in_nI (n := 3) (by decide) (by decide)) (by decide) dX2_init_40 rfl (fun H locs hw => ?_)
  refine lv_iinc (v := 4) (lv' := [(1, .int 4), (0, .ref q)]) hx hb dX2_init_41 hl (k := 0) rfl (by decide) (by decide) rfl (fun ls hl => ?_)
  refine lv_goto (tgt := 19) hx hb dX2_init_44 (by decide) ?_
  refine lv_iload_n hx hb dX2_init_19 rfl (lv_at hl 0 rfl) ?_
  refine lv_aload_n hx hb dX2_init_20 rfl (lv_at hl 1 rfl) ?_
  refine x_get (v := .ref q1) 0 0 X hw in_X2_init_2 rfl rfl rfl 0 (by decide) (List.mem_of_getElem? (i := 5) rfl) rfl rfl dX2_init_21 ?_
  refine x_alen (n := 5) (t0 := 2) 1 0 X hw rfl rfl rfl rfl dX2_init_24 ?_
  refine lv_icmp_ge (tgt := 47) hx hb dX2_init_25 (by decide) (fun k => absurd k (by decide)) (fun _ => ?_)
  refine lv_aload_n hx hb dX2_init_28 rfl (lv_at hl 1 rfl) ?_
  refine x_get (v := .ref q1) 0 0 X hw in_X2_init_2 rfl rfl rfl 0 (by decide) (List.mem_of_getElem? (i := 5) rfl) rfl rfl dX2_init_29 ?_
  refine lv_iload_n hx hb dX2_init_32 rfl (lv_at hl 0 rfl) ?_
  refine x_new (ci := 0) (fs := [.int 0, .int 0, .int 0, .int 0, .null, .null, .null, .null, .null, .null]) X hw in_X2_init_0 tyX0 tyX0_ok (List.mem_of_getElem? (i := 4) rfl) (List.mem_of_getElem? (i := 7) rfl) (List.mem_of_getElem? (i := 8) rfl) rfl (by decide) (Nat.le_of_ble_eq_true rfl) (Nat.le_of_ble_eq_true rfl) dX2_init_33 (fun y4 H hw => ?_)
  refine W.widen (k := 30) (n := 407) (Nat.le_of_ble_eq_true rfl) (Nat.le_of_ble_eq_true rfl) ?_
  have hw : Wd G A s H _ (fl [[(q, .inr (2, [.ref q1, .int 0]))], [(q1, .inl (G.2.2.2, 5, .inr (.inr (.inr (.inr (va_up (va_up (va_up (va_up (fun _ => none) 0 (some (u0 0))) 1 (some (u1 0))) 2 (some (u2 0))) 3 (some (u3 0))))))))], cB G u0 new_C, cB G u1 new_C, cB G u2 new_C, cB G u3 new_C, [(y4, .inr (0, [.int 0, .int 0, .int 0, .int 0, .null, .null, .null, .null, .null, .null]))]]) := hw
  refine lv_dup hx hb dX2_init_36 rfl ?_
  refine x_IN (w' := fun u => fl [[(q, .inr (2, [.ref q1, .int 0]))], [(q1, .inl (G.2.2.2, 5, .inr (.inr (.inr (.inr (va_up (va_up (va_up (va_up (fun _ => none) 0 (some (u0 0))) 1 (some (u1 0))) 2 (some (u2 0))) 3 (some (u3 0))))))))], cB G u0 new_C, cB G u1 new_C, cB G u2 new_C, cB G u3 new_C, cB G u new_C]) X hw (m_X0_init (G := G) (l := l) (q := y4)) ⟨fun _ => 0⟩ (fun u => Cut.blocks (bs' := [[(q, .inr (2, [.ref q1, .int 0]))], [(q1, .inl (G.2.2.2, 5, .inr (.inr (.inr (.inr (va_up (va_up (va_up (va_up (fun _ => none) 0 (some (u0 0))) 1 (some (u1 0))) 2 (some (u2 0))) 3 (some (u3 0))))))))], cB G u0 new_C, cB G u1 new_C, cB G u2 new_C, cB G u3 new_C, cB G u new_C]) [6] [0, 1, 2, 3, 4, 5] [1, 2, 3, 4, 5, 6, 0] [cB G u new_C] rfl rfl rfl rfl rfl) ⟨va_cnB 0 hts gX2_init_X0_init_n21 rfl rfl rfl (hK.2.1 _ (List.mem_of_getElem? (i := 8) rfl)) (hts _ (List.mem_of_getElem? (i := 8) rfl)) hd_X0_init.2 ⟨Nat.le_of_ble_eq_true rfl, Nat.le_of_ble_eq_true rfl⟩, rfl, hts _ (List.mem_of_getElem? (i := 9) rfl)⟩ hl.1 rfl (Nat.le_of_ble_eq_true rfl) dX2_init_37 ⟨Nat.le_of_ble_eq_true rfl, Nat.le_of_ble_eq_true rfl⟩ (fun u4 H locs hu4 hw => ?_)
  refine W.widen (k := 36) (n := 495) (Nat.le_of_ble_eq_true rfl) (Nat.le_of_ble_eq_true rfl) ?_
  rw [← hu4]
  refine x_aast (f := va_up (va_up (va_up (va_up (fun _ => none) 0 (some (u0 0))) 1 (some (u1 0))) 2 (some (u2 0))) 3 (some (u3 0))) (k := 4) (v := u4 0) (bs' := [[(q, .inr (2, [.ref q1, .int 0]))], [(q1, .inl (G.2.2.2, 5, .inr (.inr (.inr (.inr (va_up (va_up (va_up (va_up (va_up (fun _ => none) 0 (some (u0 0))) 1 (some (u1 0))) 2 (some (u2 0))) 3 (some (u3 0))) 4 (some (u4 0))))))))], cB G u0 new_C, cB G u1 new_C, cB G u2 new_C, cB G u3 new_C, cB G u4 new_C]) 1 0 X hw rfl rfl (List.mem_flatten.mpr ⟨cB G u4 new_C, List.mem_of_getElem? (i := 6) rfl, List.mem_cons_self⟩) (vp_in_nI (n := 4) (by decide) (by decide)) (by decide) dX2_init_40 rfl (fun H locs hw => ?_)
  refine lv_iinc (v := 5) (lv' := [(1, .int 5), (0, .ref q)]) hx hb dX2_init_41 hl (k := 0) rfl (by decide) (by decide) rfl (fun ls hl => ?_)
  refine lv_goto (tgt := 19) hx hb dX2_init_44 (by decide) ?_
  refine lv_iload_n hx hb dX2_init_19 rfl (lv_at hl 0 rfl) ?_
  refine lv_aload_n hx hb dX2_init_20 rfl (lv_at hl 1 rfl) ?_
  refine x_get (v := .ref q1) 0 0 X hw in_X2_init_2 rfl rfl rfl 0 (by decide) (List.mem_of_getElem? (i := 5) rfl) rfl rfl dX2_init_21 ?_
  refine x_alen (n := 5) (t0 := 2) 1 0 X hw rfl rfl rfl rfl dX2_init_24 ?_
  refine lv_icmp_ge (tgt := 47) hx hb dX2_init_25 (by decide) (fun _ => ?_) (fun k => absurd (by decide) k)
  have hw := Wd.cell (x' := (5, .inr (.inr (.inr (.inr (fun k => some (([u0, u1, u2, u3, u4].getD k (fun _ => 0)) 0))))))) 1 0 hw rfl rfl rfl rfl
  exact x_nret (fun k => [q, q1].getD k 0, fun k => [u0, u1, u2, u3, u4].getD k (fun _ => 0)) X (w := fl [hh G (fun k => [q, q1].getD k 0) 0 (fun k => some (([u0, u1, u2, u3, u4].getD k (fun _ => 0)) 0)), cB G u0 new_C, cB G u1 new_C, cB G u2 new_C, cB G u3 new_C, cB G u4 new_C]) hw rfl (hB_ex (v := new_H (fun k => [u0, u1, u2, u3, u4].getD k (fun _ => 0))) (bs := [])).symm dX2_init_47
def rX4_init : Room := { frames := 3, cells := 67, slots := 976, locals := 53 }
theorem hd_X4_init : yX4_init.cls = RX4 ∧ yX4_init.cls ≠ "java/lang/invoke/MethodHandle" ∧ yX4_init.cls ≠ "java/lang/invoke/VarHandle" ∧ (parseMethodDescriptor yX4_init.desc).map (fun d => d.parameters.length) = some 0 := by decide +kernel
theorem in_X4_init_0 : ∀ w ∈ u_ws RX0 TX0 10, w ∈ wsX4_init := fun w h => (List.mem_cons_of_mem _ (List.mem_append_left _ (List.mem_append_left _ (List.mem_append_left _ (List.mem_append_left _ (List.mem_append_right _ h))))))
theorem in_X4_init_1 : ∀ w ∈ u_ws RX1 TX1 7, w ∈ wsX4_init := fun w h => (List.mem_cons_of_mem _ (List.mem_append_left _ (List.mem_append_left _ (List.mem_append_right _ h))))
theorem in_X4_init_2 : ∀ w ∈ u_ws RX2 TX2 2, w ∈ wsX4_init := fun w h => (List.mem_cons_of_mem _ (List.mem_append_left _ (List.mem_append_right _ h)))
theorem in_X4_init_3 : ∀ w ∈ u_ws RX3 TX3 5, w ∈ wsX4_init := fun w h => (List.mem_cons_of_mem _ (List.mem_append_right _ h))
theorem in_X4_init_4 : ∀ w ∈ u_ws RX4 TX4 6, w ∈ wsX4_init := fun w h => (List.mem_cons_of_mem _ (List.mem_append_left _ (List.mem_append_left _ (List.mem_append_left _ (List.mem_append_right _ h)))))
abbrev XU : Type := (Nat → Nat) × (Nat → Nat) × (Nat → Nat) × (Nat → Nat) × (Nat → Nat) × (Nat → Nat) × (Nat → Nat → Nat)
/-- a new object: its parts at the addresses u -/
def newX (G : GG) (q : Nat) (u : XU) : List va_W := [xB q u.1 u.2.1 u.2.2.1 u.2.2.2.1 u.2.2.2.2.1 u.2.2.2.2.2.1, cB G u.1 new_C, fB G u.2.1 new_F, hB G u.2.2.1 (new_H u.2.2.2.2.2.2), tB G u.2.2.2.1 new_T, cB G u.2.2.2.2.1 new_C, fB G u.2.2.2.2.2.1 new_F]
set_option maxHeartbeats 4000000 in
set_option maxRecDepth 100000 in
theorem m_X4_init {G : GG} {l : Launch} {q : Nat} : Cn G l yX4_init wsX4_init rX4_init [.ref q] (fl [[(q, .inr (4, [.null, .null, .null, .null, .null, .null]))]]) 67 976 (fun _ : XU => True) (fun u => fl (newX G q u)) := by
  refine Cn.intro cX4_init 1 RX4 (by decide) rfl rfl rfl (Nat.le_of_ble_eq_true rfl) ?_
  intro p e s m below meth c A ls hinit X hw hl
  obtain ⟨⟨hx, hb, hml, hown, hts⟩, hK, hr, hlk, hA⟩ := id X
  have hl : lv_has ls 1 [(0, .ref q)] := hl
  refine lv_aload_n hx hb dX4_init_0 rfl (lv_at hl 0 rfl) ?_
  refine W.objInit hx hb hown (hts _ (List.mem_of_getElem? (i := 1) rfl)) (hts _ (List.mem_of_getElem? (i := 2) rfl)) (hts _ (List.mem_of_getElem? (i := 3) rfl)) rfl (by rw [hml]; exact hl.1) rfl dX4_init_1 (Nat.le_of_ble_eq_true rfl) (Nat.le_of_ble_eq_true rfl) ?_
  refine W.eq (g2 := F0 m 4 ls []) rfl ?_
  refine lv_aload_n hx hb dX4_init_4 rfl (lv_at hl 0 rfl) ?_
  refine x_new (ci := 0) (fs := [.int 0, .int 0, .int 0, .int 0, .null, .null, .null, .null, .null, .null]) X hw in_X4_init_0 tyX0 tyX0_ok (List.mem_of_getElem? (i := 4) rfl) (List.mem_of_getElem? (i := 5) rfl) (List.mem_of_getElem? (i := 6) rfl) rfl (by decide) (Nat.le_of_ble_eq_true rfl) (Nat.le_of_ble_eq_true rfl) dX4_init_5 (fun y0 H hw => ?_)
  refine W.widen (k := 1) (n := 10) (Nat.le_of_ble_eq_true rfl) (Nat.le_of_ble_eq_true rfl) ?_
  have hw : Wd G A s H _ (fl [[(q, .inr (4, [.null, .null, .null, .null, .null, .null]))], [(y0, .inr (0, [.int 0, .int 0, .int 0, .int 0, .null, .null, .null, .null, .null, .null]))]]) := hw
  refine lv_dup hx hb dX4_init_8 rfl ?_
  refine x_IN (w' := fun u => fl [[(q, .inr (4, [.null, .null, .null, .null, .null, .null]))], cB G u new_C]) X hw (m_X0_init (G := G) (l := l) (q := y0)) ⟨fun _ => 0⟩ (fun u => Cut.blocks (bs' := [[(q, .inr (4, [.null, .null, .null, .null, .null, .null]))], cB G u new_C]) [1] [0] [1, 0] [cB G u new_C] rfl rfl rfl rfl rfl) ⟨va_cnB 0 hts gX4_init_X0_init_n9 rfl rfl rfl (hK.2.1 _ (List.mem_of_getElem? (i := 2) rfl)) (hts _ (List.mem_of_getElem? (i := 6) rfl)) hd_X0_init.2 ⟨Nat.le_of_ble_eq_true rfl, Nat.le_of_ble_eq_true rfl⟩, rfl, hts _ (List.mem_of_getElem? (i := 22) rfl)⟩ hl.1 rfl (Nat.le_of_ble_eq_true rfl) dX4_init_9 ⟨Nat.le_of_ble_eq_true rfl, Nat.le_of_ble_eq_true rfl⟩ (fun u0 H locs hu0 hw => ?_)
  refine W.widen (k := 7) (n := 98) (Nat.le_of_ble_eq_true rfl) (Nat.le_of_ble_eq_true rfl) ?_
  have hw : Wd G A s H locs (fl [[(q, .inr (4, [.null, .null, .null, .null, .null, .null]))], cB G u0 new_C]) := hw
  rw [← hu0]
  refine x_putF (bs' := [[(q, .inr (4, [.ref (u0 0), .null, .null, .null, .null, .null]))], cB G u0 new_C]) 0 0 X hinit hw in_X4_init_4 tyX4 tyX4_ok nmX4 rfl rfl rfl 0 (by decide) (List.mem_of_getElem? (i := 7) rfl) rfl rfl rfl rfl rfl (Nat.le_of_ble_eq_true rfl) dX4_init_12 rfl (fun H locs hw => ?_)
  refine lv_aload_n hx hb dX4_init_15 rfl (lv_at hl 0 rfl) ?_
  refine x_new (ci := 1) (fs := [.int 0, .null, .null, .null, .null, .null, .null]) X hw in_X4_init_1 tyX1 tyX1_ok (List.mem_of_getElem? (i := 8) rfl) (List.mem_of_getElem? (i := 9) rfl) (List.mem_of_getElem? (i := 10) rfl) rfl (by decide) (Nat.le_of_ble_eq_true rfl) (Nat.le_of_ble_eq_true rfl) dX4_init_16 (fun y1 H hw => ?_)
  refine W.widen (k := 8) (n := 105) (Nat.le_of_ble_eq_true rfl) (Nat.le_of_ble_eq_true rfl) ?_
  have hw : Wd G A s H _ (fl [[(q, .inr (4, [.ref (u0 0), .null, .null, .null, .null, .null]))], cB G u0 new_C, [(y1, .inr (1, [.int 0, .null, .null, .null, .null, .null, .null]))]]) := hw
  refine lv_dup hx hb dX4_init_19 rfl ?_
  refine x_IN (w' := fun u => fl [[(q, .inr (4, [.ref (u0 0), .null, .null, .null, .null, .null]))], cB G u0 new_C, fB G u new_F]) X hw (m_X1_init (G := G) (l := l) (q := y1)) ⟨fun _ => 0⟩ (fun u => Cut.blocks (bs' := [[(q, .inr (4, [.ref (u0 0), .null, .null, .null, .null, .null]))], cB G u0 new_C, fB G u new_F]) [2] [0, 1] [1, 2, 0] [fB G u new_F] rfl rfl rfl rfl rfl) ⟨va_cnB 0 hts gX4_init_X1_init_n18 rfl rfl rfl (hK.2.1 _ (List.mem_of_getElem? (i := 0) rfl)) (hts _ (List.mem_of_getElem? (i := 10) rfl)) hd_X1_init.2 ⟨Nat.le_of_ble_eq_true rfl, Nat.le_of_ble_eq_true rfl⟩, rfl, hts _ (List.mem_of_getElem? (i := 37) rfl)⟩ hl.1 rfl (Nat.le_of_ble_eq_true rfl) dX4_init_20 ⟨Nat.le_of_ble_eq_true rfl, Nat.le_of_ble_eq_true rfl⟩ (fun u1 H locs hu1 hw => ?_)
  refine W.widen (k := 14) (n := 177) (Nat.le_of_ble_eq_true rfl) (Nat.le_of_ble_eq_true rfl) ?_
  have hw : Wd G A s H locs (fl [[(q, .inr (4, [.ref (u0 0), .null, .null, .null, .null, .null]))], cB G u0 new_C, fB G u1 new_F]) := hw
  rw [← hu1]
  refine x_putF (bs' := [[(q, .inr (4, [.ref (u0 0), .ref (u1 0), .null, .null, .null, .null]))], cB G u0 new_C, fB G u1 new_F]) 0 0 X hinit hw in_X4_init_4 tyX4 tyX4_ok nmX4 rfl rfl rfl 1 (by decide) (List.mem_of_getElem? (i := 11) rfl) rfl rfl rfl rfl rfl (Nat.le_of_ble_eq_true rfl) dX4_init_23 rfl (fun H locs hw => ?_)
  refine lv_aload_n hx hb dX4_init_26 rfl (lv_at hl 0 rfl) ?_
  refine x_new (ci := 2) (fs := [.null, .int 0]) X hw in_X4_init_2 tyX2 tyX2_ok (List.mem_of_getElem? (i := 12) rfl) (List.mem_of_getElem? (i := 13) rfl) (List.mem_of_getElem? (i := 14) rfl) rfl (by decide) (Nat.le_of_ble_eq_true rfl) (Nat.le_of_ble_eq_true rfl) dX4_init_27 (fun y2 H hw => ?_)
  refine W.widen (k := 15) (n := 179) (Nat.le_of_ble_eq_true rfl) (Nat.le_of_ble_eq_true rfl) ?_
  have hw : Wd G A s H _ (fl [[(q, .inr (4, [.ref (u0 0), .ref (u1 0), .null, .null, .null, .null]))], cB G u0 new_C, fB G u1 new_F, [(y2, .inr (2, [.null, .int 0]))]]) := hw
  refine lv_dup hx hb dX4_init_30 rfl ?_
  refine x_Ii (w' := fun u => fl [[(q, .inr (4, [.ref (u0 0), .ref (u1 0), .null, .null, .null, .null]))], cB G u0 new_C, fB G u1 new_F, hB G u.1 (new_H u.2)]) X hw (m_X2_init (G := G) (l := l) (q := y2)) ⟨(fun _ => 0, fun _ _ => 0)⟩ (fun u => Cut.blocks (bs' := [[(q, .inr (4, [.ref (u0 0), .ref (u1 0), .null, .null, .null, .null]))], cB G u0 new_C, fB G u1 new_F, hB G u.1 (new_H u.2)]) [3] [0, 1, 2] [1, 2, 3, 0] [hB G u.1 (new_H u.2)] rfl rfl rfl rfl rfl) (cwI 0 hts gX4_init_X2_init rfl rfl rfl (hts _ (List.mem_of_getElem? (i := 14) rfl)) (hts _ (List.mem_of_getElem? (i := 47) rfl)) (hts _ (List.mem_of_getElem? (i := 48) rfl)) rfl hd_X2_init.2 ⟨Nat.le_of_ble_eq_true rfl, Nat.le_of_ble_eq_true rfl⟩) hl.1 rfl (Nat.le_of_ble_eq_true rfl) dX4_init_31 ⟨Nat.le_of_ble_eq_true rfl, Nat.le_of_ble_eq_true rfl⟩ (fun u2 H locs hu2 hw => ?_)
  refine W.widen (k := 51) (n := 674) (Nat.le_of_ble_eq_true rfl) (Nat.le_of_ble_eq_true rfl) ?_
  have hw : Wd G A s H locs (fl [[(q, .inr (4, [.ref (u0 0), .ref (u1 0), .null, .null, .null, .null]))], cB G u0 new_C, fB G u1 new_F, hB G u2.1 (new_H u2.2)]) := hw
  rw [← hu2]
  refine x_putF (bs' := [[(q, .inr (4, [.ref (u0 0), .ref (u1 0), .ref (u2.1 0), .null, .null, .null]))], cB G u0 new_C, fB G u1 new_F, hB G u2.1 (new_H u2.2)]) 0 0 X hinit hw in_X4_init_4 tyX4 tyX4_ok nmX4 rfl rfl rfl 2 (by decide) (List.mem_of_getElem? (i := 15) rfl) rfl rfl rfl rfl rfl (Nat.le_of_ble_eq_true rfl) dX4_init_34 rfl (fun H locs hw => ?_)
  refine lv_aload_n hx hb dX4_init_37 rfl (lv_at hl 0 rfl) ?_
  refine x_new (ci := 3) (fs := [.null, .int 0, .int 0, .int 0, .int 0]) X hw in_X4_init_3 tyX3 tyX3_ok (List.mem_of_getElem? (i := 16) rfl) (List.mem_of_getElem? (i := 17) rfl) (List.mem_of_getElem? (i := 18) rfl) rfl (by decide) (Nat.le_of_ble_eq_true rfl) (Nat.le_of_ble_eq_true rfl) dX4_init_38 (fun y3 H hw => ?_)
  refine W.widen (k := 52) (n := 679) (Nat.le_of_ble_eq_true rfl) (Nat.le_of_ble_eq_true rfl) ?_
  have hw : Wd G A s H _ (fl [[(q, .inr (4, [.ref (u0 0), .ref (u1 0), .ref (u2.1 0), .null, .null, .null]))], cB G u0 new_C, fB G u1 new_F, hB G u2.1 (new_H u2.2), [(y3, .inr (3, [.null, .int 0, .int 0, .int 0, .int 0]))]]) := hw
  refine lv_dup hx hb dX4_init_41 rfl ?_
  refine x_IN (w' := fun u => fl [[(q, .inr (4, [.ref (u0 0), .ref (u1 0), .ref (u2.1 0), .null, .null, .null]))], cB G u0 new_C, fB G u1 new_F, hB G u2.1 (new_H u2.2), tB G u new_T]) X hw (m_X3_init (G := G) (l := l) (q := y3)) ⟨fun _ => 0⟩ (fun u => Cut.blocks (bs' := [[(q, .inr (4, [.ref (u0 0), .ref (u1 0), .ref (u2.1 0), .null, .null, .null]))], cB G u0 new_C, fB G u1 new_F, hB G u2.1 (new_H u2.2), tB G u new_T]) [4] [0, 1, 2, 3] [1, 2, 3, 4, 0] [tB G u new_T] rfl rfl rfl rfl rfl) ⟨va_cnB 0 hts gX4_init_X3_init_n32 rfl rfl rfl (hK.2.1 _ (List.mem_of_getElem? (i := 1) rfl)) (hts _ (List.mem_of_getElem? (i := 18) rfl)) hd_X3_init.2 ⟨Nat.le_of_ble_eq_true rfl, Nat.le_of_ble_eq_true rfl⟩, rfl, hts _ (List.mem_of_getElem? (i := 54) rfl)⟩ hl.1 rfl (Nat.le_of_ble_eq_true rfl) dX4_init_42 ⟨Nat.le_of_ble_eq_true rfl, Nat.le_of_ble_eq_true rfl⟩ (fun u3 H locs hu3 hw => ?_)
  refine W.widen (k := 53) (n := 799) (Nat.le_of_ble_eq_true rfl) (Nat.le_of_ble_eq_true rfl) ?_
  have hw : Wd G A s H locs (fl [[(q, .inr (4, [.ref (u0 0), .ref (u1 0), .ref (u2.1 0), .null, .null, .null]))], cB G u0 new_C, fB G u1 new_F, hB G u2.1 (new_H u2.2), tB G u3 new_T]) := hw
  rw [← hu3]
  refine x_putF (bs' := [[(q, .inr (4, [.ref (u0 0), .ref (u1 0), .ref (u2.1 0), .ref (u3 0), .null, .null]))], cB G u0 new_C, fB G u1 new_F, hB G u2.1 (new_H u2.2), tB G u3 new_T]) 0 0 X hinit hw in_X4_init_4 tyX4 tyX4_ok nmX4 rfl rfl rfl 3 (by decide) (List.mem_of_getElem? (i := 19) rfl) rfl rfl rfl rfl rfl (Nat.le_of_ble_eq_true rfl) dX4_init_45 rfl (fun H locs hw => ?_)
  refine lv_aload_n hx hb dX4_init_48 rfl (lv_at hl 0 rfl) ?_
  refine x_new (ci := 0) (fs := [.int 0, .int 0, .int 0, .int 0, .null, .null, .null, .null, .null, .null]) X hw in_X4_init_0 tyX0 tyX0_ok (List.mem_of_getElem? (i := 4) rfl) (List.mem_of_getElem? (i := 5) rfl) (List.mem_of_getElem? (i := 6) rfl) rfl (by decide) (Nat.le_of_ble_eq_true rfl) (Nat.le_of_ble_eq_true rfl) dX4_init_49 (fun y4 H hw => ?_)
  refine W.widen (k := 54) (n := 809) (Nat.le_of_ble_eq_true rfl) (Nat.le_of_ble_eq_true rfl) ?_
  have hw : Wd G A s H _ (fl [[(q, .inr (4, [.ref (u0 0), .ref (u1 0), .ref (u2.1 0), .ref (u3 0), .null, .null]))], cB G u0 new_C, fB G u1 new_F, hB G u2.1 (new_H u2.2), tB G u3 new_T, [(y4, .inr (0, [.int 0, .int 0, .int 0, .int 0, .null, .null, .null, .null, .null, .null]))]]) := hw
  refine lv_dup hx hb dX4_init_52 rfl ?_
  refine x_IN (w' := fun u => fl [[(q, .inr (4, [.ref (u0 0), .ref (u1 0), .ref (u2.1 0), .ref (u3 0), .null, .null]))], cB G u0 new_C, fB G u1 new_F, hB G u2.1 (new_H u2.2), tB G u3 new_T, cB G u new_C]) X hw (m_X0_init (G := G) (l := l) (q := y4)) ⟨fun _ => 0⟩ (fun u => Cut.blocks (bs' := [[(q, .inr (4, [.ref (u0 0), .ref (u1 0), .ref (u2.1 0), .ref (u3 0), .null, .null]))], cB G u0 new_C, fB G u1 new_F, hB G u2.1 (new_H u2.2), tB G u3 new_T, cB G u new_C]) [5] [0, 1, 2, 3, 4] [1, 2, 3, 4, 5, 0] [cB G u new_C] rfl rfl rfl rfl rfl) ⟨va_cnB 0 hts gX4_init_X0_init_n9 rfl rfl rfl (hK.2.1 _ (List.mem_of_getElem? (i := 2) rfl)) (hts _ (List.mem_of_getElem? (i := 6) rfl)) hd_X0_init.2 ⟨Nat.le_of_ble_eq_true rfl, Nat.le_of_ble_eq_true rfl⟩, rfl, hts _ (List.mem_of_getElem? (i := 22) rfl)⟩ hl.1 rfl (Nat.le_of_ble_eq_true rfl) dX4_init_53 ⟨Nat.le_of_ble_eq_true rfl, Nat.le_of_ble_eq_true rfl⟩ (fun u4 H locs hu4 hw => ?_)
  refine W.widen (k := 60) (n := 897) (Nat.le_of_ble_eq_true rfl) (Nat.le_of_ble_eq_true rfl) ?_
  have hw : Wd G A s H locs (fl [[(q, .inr (4, [.ref (u0 0), .ref (u1 0), .ref (u2.1 0), .ref (u3 0), .null, .null]))], cB G u0 new_C, fB G u1 new_F, hB G u2.1 (new_H u2.2), tB G u3 new_T, cB G u4 new_C]) := hw
  rw [← hu4]
  refine x_putF (bs' := [[(q, .inr (4, [.ref (u0 0), .ref (u1 0), .ref (u2.1 0), .ref (u3 0), .ref (u4 0), .null]))], cB G u0 new_C, fB G u1 new_F, hB G u2.1 (new_H u2.2), tB G u3 new_T, cB G u4 new_C]) 0 0 X hinit hw in_X4_init_4 tyX4 tyX4_ok nmX4 rfl rfl rfl 4 (by decide) (List.mem_of_getElem? (i := 20) rfl) rfl rfl rfl rfl rfl (Nat.le_of_ble_eq_true rfl) dX4_init_56 rfl (fun H locs hw => ?_)
  refine lv_aload_n hx hb dX4_init_59 rfl (lv_at hl 0 rfl) ?_
  refine x_new (ci := 1) (fs := [.int 0, .null, .null, .null, .null, .null, .null]) X hw in_X4_init_1 tyX1 tyX1_ok (List.mem_of_getElem? (i := 8) rfl) (List.mem_of_getElem? (i := 9) rfl) (List.mem_of_getElem? (i := 10) rfl) rfl (by decide) (Nat.le_of_ble_eq_true rfl) (Nat.le_of_ble_eq_true rfl) dX4_init_60 (fun y5 H hw => ?_)
  refine W.widen (k := 61) (n := 904) (Nat.le_of_ble_eq_true rfl) (Nat.le_of_ble_eq_true rfl) ?_
  have hw : Wd G A s H _ (fl [[(q, .inr (4, [.ref (u0 0), .ref (u1 0), .ref (u2.1 0), .ref (u3 0), .ref (u4 0), .null]))], cB G u0 new_C, fB G u1 new_F, hB G u2.1 (new_H u2.2), tB G u3 new_T, cB G u4 new_C, [(y5, .inr (1, [.int 0, .null, .null, .null, .null, .null, .null]))]]) := hw
  refine lv_dup hx hb dX4_init_63 rfl ?_
  refine x_IN (w' := fun u => fl [[(q, .inr (4, [.ref (u0 0), .ref (u1 0), .ref (u2.1 0), .ref (u3 0), .ref (u4 0), .null]))], cB G u0 new_C, fB G u1 new_F, hB G u2.1 (new_H u2.2), tB G u3 new_T, cB G u4 new_C, fB G u new_F]) X hw (m_X1_init (G := G) (l := l) (q := y5)) ⟨fun _ => 0⟩ (fun u => Cut.blocks (bs' := [[(q, .inr (4, [.ref (u0 0), .ref (u1 0), .ref (u2.1 0), .ref (u3 0), .ref (u4 0), .null]))], cB G u0 new_C, fB G u1 new_F, hB G u2.1 (new_H u2.2), tB G u3 new_T, cB G u4 new_C, fB G u new_F]) [6] [0, 1, 2, 3, 4, 5] [1, 2, 3, 4, 5, 6, 0] [fB G u new_F] rfl rfl rfl rfl rfl) ⟨va_cnB 0 hts gX4_init_X1_init_n18 rfl rfl rfl (hK.2.1 _ (List.mem_of_getElem? (i := 0) rfl)) (hts _ (List.mem_of_getElem? (i := 10) rfl)) hd_X1_init.2 ⟨Nat.le_of_ble_eq_true rfl, Nat.le_of_ble_eq_true rfl⟩, rfl, hts _ (List.mem_of_getElem? (i := 37) rfl)⟩ hl.1 rfl (Nat.le_of_ble_eq_true rfl) dX4_init_64 ⟨Nat.le_of_ble_eq_true rfl, Nat.le_of_ble_eq_true rfl⟩ (fun u5 H locs hu5 hw => ?_)
  refine W.widen (k := 67) (n := 976) (Nat.le_of_ble_eq_true rfl) (Nat.le_of_ble_eq_true rfl) ?_
  have hw : Wd G A s H locs (fl [[(q, .inr (4, [.ref (u0 0), .ref (u1 0), .ref (u2.1 0), .ref (u3 0), .ref (u4 0), .null]))], cB G u0 new_C, fB G u1 new_F, hB G u2.1 (new_H u2.2), tB G u3 new_T, cB G u4 new_C, fB G u5 new_F]) := hw
  rw [← hu5]
  refine x_putF (bs' := [[(q, .inr (4, [.ref (u0 0), .ref (u1 0), .ref (u2.1 0), .ref (u3 0), .ref (u4 0), .ref (u5 0)]))], cB G u0 new_C, fB G u1 new_F, hB G u2.1 (new_H u2.2), tB G u3 new_T, cB G u4 new_C, fB G u5 new_F]) 0 0 X hinit hw in_X4_init_4 tyX4 tyX4_ok nmX4 rfl rfl rfl 5 (by decide) (List.mem_of_getElem? (i := 21) rfl) rfl rfl rfl rfl rfl (Nat.le_of_ble_eq_true rfl) dX4_init_67 rfl (fun H locs hw => ?_)
  exact x_nret (u0, u1, u2.1, u3, u4, u5, u2.2) X hw trivial rfl dX4_init_70
