/-! ===== the history: its five states, in an order that turns ===== -/
section HX
variable {p : Program} {l : Launch} {e : Env} {R : Room} {s : State} {m : MethodId} {args : Array Value} {below : List Frame} {meth : Method} {c : Code} {H : Heap} {locs : List Loc} {cells slots : Nat} {Q : State → Prop}
variable {cc : ByteArray} {nL : Nat} {ret : Option FieldType} {Ts : List Cond} {own : String} {G : GG} {A : Nat → Prop} {pc : Nat} {ls : Array Slot} {st0 rest : List Value}
/-- a call that answers a reference or null -/
abbrev Qx (G : GG) (A : Nat → Prop) (v : Value) (w1 : va_W) : Array Value → State → Outcome → State → Prop := fun _ st oc t => (oc = .returned (some v) ∧ va_P G.1 vwCl w1 t.heap ∧ va_D A w1) ∧ va_F A st t
def Cr (G : GG) (l : Launch) (y : MethodName) (ws : List Cond) (rm : Room) (av : List Value) (w0 : va_W) (v : Value) (w1 : va_W) : Prop := ∀ sz : Nat, Met l y ws rm (Pg G av w0 sz) (Qx G (va_A w0 sz) v w1) 0 0 (va_A w0 sz)
theorem after_x {w w0 w1 w' : va_W} {a : Array Value} {v : Value} (X : Cx p s m args meth c cc nL ret Ts own G A) (hw : Wd G A s H locs w) (h : Cut w w0 w1 w')
    (hr : va_Run p l e R s m args below meth c H locs cells slots 0 0 (F0 m pc ls st0) rest (Qx G (va_A w0 H.size) v w1 a) (va_A w0 H.size))
    (kk : ∀ (H : Heap) (locs : List Loc), Wd G A s H locs w' → W p l e R s m args below meth c H locs cells slots Q (F0 m (pc + 3) ls (v :: rest))) : W p l e R s m args below meth c H locs cells slots Q (F0 m pc ls st0) := by
  intro T hT X0
  obtain ⟨v', st₀, t, T', L, h0, X', hL, e1, e2, ⟨⟨hv, hp1, hp2⟩, hz, hk⟩, st⟩ := hr T hT X0
  cases hv
  rw [h0] at hz hk
  have hS := hw.2.2
  obtain ⟨t2, a1, b1⟩ := kk T'.heap (locs ++ L) (back_w X hw h (by rw [e1]; exact hp1) hp2 (fun q h1 h2 => by rw [e1]; exact hk q h1 h2)
    ⟨Nat.le_trans hS.1 (by rw [e1]; exact hz), fun q h1 h2 => by rw [e1, hk q (Nat.lt_of_lt_of_le h1 hS.1) (fun z => h2 (free_of X hw h q z))]; exact hS.2.1 q h1 h2, fun q hq => by
      rcases List.mem_append.mp hq with h | h9
      · exact hS.2.2 q h
      · exact free_of X hw h _ (hL q h9)⟩) T' rfl X'
  exact ⟨t2, st t2 a1, b1⟩
theorem recvM {w : va_W} {b : Addr} {ci : Nat} {q : vw_C} {fs : List Value} (X : Cx p s m args meth c cc nL ret Ts own G A) (hw : Wd G A s H locs w) (he : (b, .inr (ci, fs)) ∈ w) (hc : vwCl[ci]? = some q) : ∃ cellB : Cell, H[b]? = some cellB ∧ cellB.vm.isStatics = false ∧ s.vm.findClass q.1 = some cellB.cls := by
  obtain ⟨k, h1⟩ := List.getElem?_of_mem he
  exact va_recv X.2.1.1 hw.1 hc h1
variable {y : MethodName} {bytes : ByteArray} {maxL n index : Nat} {ry : Option FieldType} {ws : List Cond} {rm : Room} {b : Addr} {As : List Value} {w w0 w1 w' : va_W}
theorem x_Vx {ci : Nat} {q : vw_C} {fs : List Value} {v : Value} (X : Cx p s m args meth c cc nL ret Ts own G A) (hw : Wd G A s H locs w) (hC : Cr G l y ws rm (.ref b :: As) w0 v w1) (h : Cut w w0 w1 w') (he : (b, .inr (ci, fs)) ∈ w) (hc : vwCl[ci]? = some q)
    (cw : CallW R s args own q.1 index y bytes maxL ry ws rm 0 0 n) (hn : As.length = n) (hl : ls.size = nL) (hst : (As.reverse ++ .ref b :: rest) = st0) (hW : (rest.map fun v => v.category).sum ≤ 8) (hdg : decode cc pc = .ok (.invokevirtual index, 3)) (hf : cells ≤ R.cells ∧ slots ≤ R.slots)
    (kk : ∀ (H : Heap) (locs : List Loc), Wd G A s H locs w' → W p l e R s m args below meth c H locs cells slots Q (F0 m (pc + 3) ls (v :: rest))) : W p l e R s m args below meth c H locs cells slots Q (F0 m pc ls st0) := by
  subst hst
  exact after_x X hw h (va_runV (As := As) (rest := rest) X.1 (hC H.size) cw ⟨Pg.blind, recvM X hw he hc, pre_of X hw h⟩ rfl hn hl rfl (lv_room hW) hdg ⟨hf.1, hf.2⟩) kk
theorem x_VvM {ci : Nat} {q : vw_C} {fs : List Value} (X : Cx p s m args meth c cc nL ret Ts own G A) (hw : Wd G A s H locs w) (hC : Cv G l y ws rm (.ref b :: As) w0 w1) (h : Cut w w0 w1 w') (he : (b, .inr (ci, fs)) ∈ w) (hc : vwCl[ci]? = some q)
    (cw : CallW R s args own q.1 index y bytes maxL ry ws rm 0 0 n) (hn : As.length = n) (hl : ls.size = nL) (hst : (As.reverse ++ .ref b :: rest) = st0) (hW : (rest.map fun v => v.category).sum ≤ 8) (hdg : decode cc pc = .ok (.invokevirtual index, 3)) (hf : cells ≤ R.cells ∧ slots ≤ R.slots)
    (kk : ∀ (H : Heap) (locs : List Loc), Wd G A s H locs w' → W p l e R s m args below meth c H locs cells slots Q (F0 m (pc + 3) ls rest)) : W p l e R s m args below meth c H locs cells slots Q (F0 m pc ls st0) := by
  subst hst
  exact after_v X hw h (va_runV (As := As) (rest := rest) X.1 (hC H.size) cw ⟨Pg.blind, recvM X hw he hc, pre_of X hw h⟩ rfl hn hl rfl (lv_room hW) hdg ⟨hf.1, hf.2⟩) kk
theorem x_aret {v : Value} {cn : String} {w w1 : va_W} (X : Cx p s m args meth c cc nL (some (.object cn)) Ts own G A) (hw : Wd G A s H locs w) (he : w = w1) (hv : v = .null ∨ ∃ a, v = .ref a) (hdg : decode cc pc = .ok (.areturn, 1)) : W p l e R s m args below meth c H locs 0 0 (MQ below (Qx G A v w1) args s 0 0 A) (F0 m pc ls [v]) := by
  subst he
  have hlk := X.2.2.2.1
  exact W.aret X.1.1 X.1.2.1 X.2.2.1 (Or.inl ⟨_, rfl⟩) hv (fun t ht hW => ⟨⟨rfl, by rw [ht]; exact hw.1, hw.2.1⟩, hw.2.2.F ht⟩) hw.2.2.2.2 hdg
theorem x_aald {a nA k r : Nat} {f : Nat → Option Nat} {x : Int32} {bs : List va_W} {blk : va_W} (j i : Nat) (X : Cx p s m args meth c cc nL ret Ts own G A) (hw : Wd G A s H locs (fl bs)) (hj : bs[j]? = some blk) (ha : blk[i]? = some (a, .inl (G.2.2.2, nA, .inr (.inr (.inr (.inr f)))))) (hin : vp_in x nA) (hk : x.toNatClampNeg = k) (hf : f k = some r) (hdg : decode cc pc = .ok (.aaload, 1))
    (kk : W p l e R s m args below meth c H locs cells slots Q (F0 m (pc + 1) ls (.ref r :: rest))) : W p l e R s m args below meth c H locs cells slots Q (F0 m pc ls (.int x :: .ref a :: rest)) := by
  obtain ⟨q0, h1, -⟩ := fl_at (q' := (a, .inl (G.2.2.2, nA, .inr (.inr (.inr (.inr f)))))) hj ha
  refine va_aldq (C := "CastingFeeder$Casting") X.1.1 X.1.2.1 X.2.1.1 hw.1 q0 2 h1 rfl hin hdg ?_
  rw [hk, hf]
  exact kk
theorem x_aast {a nA v k : Nat} {f : Nat → Option Nat} {x : Int32} {bs bs' : List va_W} {blk : va_W} {fs : List Value} (j i : Nat) (X : Cx p s m args meth c cc nL ret Ts own G A) (hw : Wd G A s H locs (fl bs)) (hj : bs[j]? = some blk) (ha : blk[i]? = some (a, .inl (G.2.2.2, nA, .inr (.inr (.inr (.inr f)))))) (hv : (v, .inr (0, fs)) ∈ fl bs) (hin : vp_in x nA) (hk : x.toNatClampNeg = k) (hdg : decode cc pc = .ok (.aastore, 1)) (hw' : bs.set j (blk.set i (a, .inl (G.2.2.2, nA, .inr (.inr (.inr (.inr (va_up f k (some v)))))))) = bs')
    (kk : ∀ (H : Heap) (locs : List Loc), Wd G A s H locs (fl bs') → W p l e R s m args below meth c H locs cells slots Q (F0 m (pc + 1) ls rest)) : W p l e R s m args below meth c H locs cells slots Q (F0 m pc ls (.ref v :: .int x :: .ref a :: rest)) := by
  subst hw'
  subst hk
  obtain ⟨q0, h1, h2⟩ := fl_at (q' := (a, .inl (G.2.2.2, nA, .inr (.inr (.inr (.inr (va_up f x.toNatClampNeg (some v)))))))) hj ha
  obtain ⟨q1, h3⟩ := List.getElem?_of_mem hv
  rw [← h2] at kk
  exact va_astq X.1.1 X.1.2.1 X.2.1.1 hw.1 hw.2.1 hw.2.2 q0 2 q1 0 h1 rfl h3 rfl hin hdg (fun H1 locs1 a b c => kk H1 locs1 ⟨a, b, c⟩)
end HX
theorem Cr.intro {G : GG} {l : Launch} {y : MethodName} {ws : List Cond} {rm : Room} {av : List Value} {w0 : va_W} {v : Value} {w1 : va_W} (cc : ByteArray) (maxL : Nat) (ret : Option FieldType) (own : String) {ws' : List Cond} (hy : plainName y.cls = true) (hw : ws = Cond.code y cc maxL ret :: ws') (hown : y.cls = own) (hlen : (lg_sl av).length ≤ maxL)
    (body : ∀ (p : Program) (e : Env) (s : State) (m : MethodId) (below : List Frame) (meth : Method) (c : Code) (A : Nat → Prop) (ls : Array Slot), Cx p s m av.toArray meth c cc maxL ret ws own G A → Wd G A s s.heap [] w0 → lv_has ls maxL (lv_args 0 av) → W p l e rm s m av.toArray below meth c s.heap [] 0 0 (MQ below (Qx G A v w1) av.toArray s 0 0 A) (F0 m 0 ls [])) : Cr G l y ws rm av w0 v w1 := by
  intro sz
  refine Met.ofW (cc := cc) (maxL := maxL) (ret := ret) hy hw ?_
  intro p e s m args below meth c s₁ B hml hv
  obtain ⟨rfl, hsz, hP, hK, hD0⟩ := hv
  subst hsz
  have hts := atoms_spec (ws := ws) B.pre
  have hl := lv_entry av (n := maxL) hlen
  rw [lg_entry_eq]
  exact body p e s m below meth c (va_A w0 s.heap.size) _ ⟨⟨B.exec, B.bytes, hml, hown ▸ findClass_of_methodNamed B.named, hts⟩, hK, B.returns, B.notSynchronized, fun q h => Or.inr h⟩ ⟨hP, hD0.self, va_S.rf⟩ hl
/-- the history's own two cells -/
def hh (G : GG) (a : Nat → Nat) (si : Int32) (f : Nat → Option Nat) : va_W := [(a 0, .inr (2, [.ref (a 1), .int si])), (a 1, .inl (G.2.2.2, 5, .inr (.inr (.inr (.inr f)))))]
theorem hB_ex {G : GG} {a : Nat → Nat} {v : HV} {bs : List va_W} : fl (hB G a v :: bs) = fl (hh G a (H_si v) (fun k => some (H_ad v k 0)) :: cB G (H_ad v 0) (H_st v 0) :: cB G (H_ad v 1) (H_st v 1) :: cB G (H_ad v 2) (H_st v 2) :: cB G (H_ad v 3) (H_st v 3) :: cB G (H_ad v 4) (H_st v 4) :: bs) := by
  simp [fl, hB, hh, List.append_assoc]
/-- a state's block, for whoever calls it -/
theorem cutH {G : GG} {a : Nat → Nat} {si : Int32} {st : Nat → CV} {ad : Nat → Nat → Nat} {b : Nat → Nat} {x x' : CV} {v' : CV} {k : Nat} (hk : k < 5) : Cut (fl [hB G a (si, st, ad), cB G b x]) (fl [cB G (ad k) (st k), cB G b x]) (fl [cB G (ad k) v', cB G b x']) (fl [hB G a (si, va_up st k v', ad), cB G b x']) := by
  rw [hB_ex, hB_ex]
  match k, hk with
  | 0, _ => exact Cut.blocks [1, 6] [0, 2, 3, 4, 5] [2, 0, 3, 4, 5, 6, 1] [cB G (ad 0) v', cB G b x'] rfl rfl rfl rfl rfl
  | 1, _ => exact Cut.blocks [2, 6] [0, 1, 3, 4, 5] [2, 3, 0, 4, 5, 6, 1] [cB G (ad 1) v', cB G b x'] rfl rfl rfl rfl rfl
  | 2, _ => exact Cut.blocks [3, 6] [0, 1, 2, 4, 5] [2, 3, 4, 0, 5, 6, 1] [cB G (ad 2) v', cB G b x'] rfl rfl rfl rfl rfl
  | 3, _ => exact Cut.blocks [4, 6] [0, 1, 2, 3, 5] [2, 3, 4, 5, 0, 6, 1] [cB G (ad 3) v', cB G b x'] rfl rfl rfl rfl rfl
  | 4, _ => exact Cut.blocks [5, 6] [0, 1, 2, 3, 4] [2, 3, 4, 5, 6, 0, 1] [cB G (ad 4) v', cB G b x'] rfl rfl rfl rfl rfl
theorem cutH2 {G : GG} {a : Nat → Nat} {si : Int32} {st : Nat → CV} {ad : Nat → Nat → Nat} {b : Nat → Nat} {x x' : CV} {k : Nat} (hk : k < 5) : Cut (fl [hB G a (si, st, ad), cB G b x]) (fl [cB G b x, cB G (ad k) (st k)]) (fl [cB G b x', cB G (ad k) (st k)]) (fl [hB G a (si, st, ad), cB G b x']) := by
  rw [hB_ex, hB_ex]
  match k, hk with
  | 0, _ => exact Cut.blocks [6, 1] [0, 2, 3, 4, 5] [2, 1, 3, 4, 5, 6, 0] [cB G b x', cB G (ad 0) (st 0)] rfl rfl rfl rfl rfl
  | 1, _ => exact Cut.blocks [6, 2] [0, 1, 3, 4, 5] [2, 3, 1, 4, 5, 6, 0] [cB G b x', cB G (ad 1) (st 1)] rfl rfl rfl rfl rfl
  | 2, _ => exact Cut.blocks [6, 3] [0, 1, 2, 4, 5] [2, 3, 4, 1, 5, 6, 0] [cB G b x', cB G (ad 2) (st 2)] rfl rfl rfl rfl rfl
  | 3, _ => exact Cut.blocks [6, 4] [0, 1, 2, 3, 5] [2, 3, 4, 5, 1, 6, 0] [cB G b x', cB G (ad 3) (st 3)] rfl rfl rfl rfl rfl
  | 4, _ => exact Cut.blocks [6, 5] [0, 1, 2, 3, 4] [2, 3, 4, 5, 6, 1, 0] [cB G b x', cB G (ad 4) (st 4)] rfl rfl rfl rfl rfl
theorem memH {G : GG} {a : Nat → Nat} {si : Int32} {st : Nat → CV} {ad : Nat → Nat → Nat} {bs : List va_W} {k : Nat} (hk : k < 5) : ∃ fs, (ad k 0, (.inr (0, fs) : va_E)) ∈ fl (hB G a (si, st, ad) :: bs) := by
  rw [hB_ex]
  refine ⟨[.int (C_se (st k)), .int (C_jo (st k)), .int (C_sh (st k)), .int (C_pi (st k)), .ref (ad k 1), .ref (ad k 2), .ref (ad k 3), .ref (ad k 4), .ref (ad k 5), .ref (ad k 6)], ?_⟩
  refine List.mem_flatten.mpr ⟨cB G (ad k) (st k), ?_, List.mem_cons_self⟩
  match k, hk with
  | 0, _ => exact List.mem_of_getElem? (i := 1) rfl
  | 1, _ => exact List.mem_of_getElem? (i := 2) rfl
  | 2, _ => exact List.mem_of_getElem? (i := 3) rfl
  | 3, _ => exact List.mem_of_getElem? (i := 4) rfl
  | 4, _ => exact List.mem_of_getElem? (i := 5) rfl
/-- one place on, the first one to the end -/
def rot {α : Type} (f : Nat → α) : Nat → α := fun k => if k < 4 then f (k + 1) else if k = 4 then f 0 else f k
def f_X2_dropOldest (g : HV) : Option HV := some (H_si g - 1, rot (H_st g), rot (H_ad g))
def g_at (g : HV) (x : Int32) : Value := if x < 0 then .null else if nI 5 ≤ x then .null else .ref (H_ad g x.toNatClampNeg 0)
noncomputable def f_X2_keep_b16 (g : HV) (v : CV) : Option HV := br (H_si g < 0) (some g) (br (nI 5 ≤ H_si g) (some g) (bd (f_X0_copyFrom (H_st g (H_si g).toNatClampNeg) v) fun v1 => some (H_si g + 1, va_up (H_st g) (H_si g).toNatClampNeg v1, H_ad g)))
noncomputable def f_X2_keep (g : HV) (v : CV) : Option HV := br (H_si g < nI 5) (f_X2_keep_b16 g v) (bd (f_X2_dropOldest g) fun g1 => f_X2_keep_b16 g1 v)
noncomputable def f_X2_restore (g : HV) (v : CV) : Option (HV × CV) := nm (H_si g - 1) fun x => br (x < 0) (some (g, v)) (br (nI 5 ≤ x) (some (g, v)) (bd (f_X0_copyFrom v (H_st g x.toNatClampNeg)) fun v1 => some ((x, H_st g, H_ad g), v1)))
def rX2_isEmpty : Room := { frames := 0, cells := 0, slots := 0, locals := 0 }
theorem hd_X2_isEmpty : yX2_isEmpty.cls = RX2 ∧ yX2_isEmpty.cls ≠ "java/lang/invoke/MethodHandle" ∧ yX2_isEmpty.cls ≠ "java/lang/invoke/VarHandle" ∧ (parseMethodDescriptor yX2_isEmpty.desc).map (fun d => d.parameters.length) = some 0 := by decide +kernel
theorem in_X2_isEmpty_2 : ∀ w ∈ u_ws RX2 TX2 2, w ∈ wsX2_isEmpty := fun w h => (List.mem_cons_of_mem _ (List.mem_append_right _ h))
noncomputable def f_X2_isEmpty  (g : HV)  : Option (Int32) :=
  br (0 < (H_si g))
    (some (0))
    (some (1))
set_option maxHeartbeats 4000000 in
set_option maxRecDepth 100000 in
theorem m_X2_isEmpty {G : GG} {l : Launch} {d : Nat → Nat} {g : HV}  {r : Int32}  (h : f_X2_isEmpty g = some (r)) : Ci G l yX2_isEmpty wsX2_isEmpty rX2_isEmpty [.ref (d 0)] (fl [hB G d g]) r (fl [hB G d g]) := by
  refine Ci.intro cX2_isEmpty 1 (some .boolean) RX2 (by decide) rfl rfl (Nat.le_of_ble_eq_true rfl) ?_
  intro p e s m below meth c A ls X hw hl
  obtain ⟨⟨hx, hb, hml, hown, hts⟩, hK, hr, hlk, hA⟩ := id X
  unfold f_X2_isEmpty at h
  have hl : lv_has ls 1 [(0, .ref (d 0))] := hl
  refine lv_aload_n hx hb dX2_isEmpty_0 rfl (lv_at hl 0 rfl) ?_
  refine x_get (v := .int (H_si g)) 0 0 X hw in_X2_isEmpty_2 rfl rfl rfl 1 (by decide) (List.mem_of_getElem? (i := 1) rfl) rfl rfl dX2_isEmpty_1 ?_
  refine lv_if_gt (tgt := 11) hx hb dX2_isEmpty_4 (by decide) (fun k_1 => ?_) (fun k_1 => ?_)
  · have h := br_yes h k_1
    refine lv_iconst (v := 0) hx hb dX2_isEmpty_11 (by decide) ?_
    cases h
    exact x_iret X (narz (Or.inl rfl)) hw rfl rfl dX2_isEmpty_12
  · have h := br_no h k_1
    refine lv_iconst (v := 1) hx hb dX2_isEmpty_7 (by decide) ?_
    refine lv_goto (tgt := 12) hx hb dX2_isEmpty_8 (by decide) ?_
    cases h
    exact x_iret X (narz (Or.inr rfl)) hw rfl rfl dX2_isEmpty_12

theorem in_5 {x : Int32} (h0 : ¬ x < 0) (h5 : ¬ nI 5 ≤ x) : vp_in x 5 := by
  have h1 : x < nI 5 := Int32.not_le.mp h5
  refine vp_in_iff.mpr ⟨?_, ?_⟩
  · rw [Int32.lt_iff_toInt_lt, Int32.toInt_zero] at h0
    omega
  · rw [Int32.lt_iff_toInt_lt, nI_toInt (by decide)] at h1
    exact h1
theorem lt_5 {x : Int32} (h0 : ¬ x < 0) (h5 : ¬ nI 5 ≤ x) : x.toNatClampNeg < 5 := Nat.not_le.mp fun q => in_5 h0 h5 (Or.inr q)
def rX2_stateAt : Room := { frames := 0, cells := 0, slots := 0, locals := 0 }
theorem hd_X2_stateAt : yX2_stateAt.cls = RX2 ∧ yX2_stateAt.cls ≠ "java/lang/invoke/MethodHandle" ∧ yX2_stateAt.cls ≠ "java/lang/invoke/VarHandle" ∧ (parseMethodDescriptor yX2_stateAt.desc).map (fun d => d.parameters.length) = some 1 := by decide +kernel
theorem in_X2_stateAt_2 : ∀ w ∈ u_ws RX2 TX2 2, w ∈ wsX2_stateAt := fun w h => (List.mem_cons_of_mem _ (List.mem_append_right _ h))
set_option maxHeartbeats 4000000 in
set_option maxRecDepth 100000 in
theorem m_X2_stateAt {G : GG} {l : Launch} {d : Nat → Nat} {g : HV} {x1 : Int32} : Cr G l yX2_stateAt wsX2_stateAt rX2_stateAt [.ref (d 0), .int x1] (fl [hB G d g]) (g_at g x1) (fl [hB G d g]) := by
  refine Cr.intro cX2_stateAt 2 (some (.object "CastingFeeder$Casting")) RX2 (by decide) rfl rfl (Nat.le_of_ble_eq_true rfl) ?_
  intro p e s m below meth c A ls X hw hl
  obtain ⟨⟨hx, hb, hml, hown, hts⟩, hK, hr, hlk, hA⟩ := id X
  have hl : lv_has ls 2 [(0, .ref (d 0)), (1, .int x1)] := hl
  refine lv_iload_n hx hb dX2_stateAt_0 rfl (lv_at hl 1 rfl) ?_
  refine lv_if_lt (tgt := 22) hx hb dX2_stateAt_1 (by decide) (fun k_1 => ?_) (fun k_1 => ?_)
  · refine lv_null hx hb dX2_stateAt_22 ?_
    rw [show g_at g x1 = .null from by unfold g_at; rw [if_pos k_1]]
    exact x_aret X hw rfl (Or.inl rfl) dX2_stateAt_23
  · refine lv_iload_n hx hb dX2_stateAt_4 rfl (lv_at hl 1 rfl) ?_
    refine lv_aload_n hx hb dX2_stateAt_5 rfl (lv_at hl 0 rfl) ?_
    refine x_get (v := .ref (d 1)) 0 0 X hw in_X2_stateAt_2 rfl rfl rfl 0 (by decide) (List.mem_of_getElem? (i := 1) rfl) rfl rfl dX2_stateAt_6 ?_
    refine x_alen (n := 5) (t0 := 2) 0 1 X hw rfl rfl rfl rfl dX2_stateAt_9 ?_
    refine lv_icmp_ge (tgt := 22) hx hb dX2_stateAt_10 (by decide) (fun k_2 => ?_) (fun k_2 => ?_)
    · refine lv_null hx hb dX2_stateAt_22 ?_
      rw [show g_at g x1 = .null from by unfold g_at; rw [if_neg k_1, if_pos k_2]]
      exact x_aret X hw rfl (Or.inl rfl) dX2_stateAt_23
    · refine lv_aload_n hx hb dX2_stateAt_13 rfl (lv_at hl 0 rfl) ?_
      refine x_get (v := .ref (d 1)) 0 0 X hw in_X2_stateAt_2 rfl rfl rfl 0 (by decide) (List.mem_of_getElem? (i := 1) rfl) rfl rfl dX2_stateAt_14 ?_
      refine lv_iload_n hx hb dX2_stateAt_17 rfl (lv_at hl 1 rfl) ?_
      refine x_aald (f := fun k => some (H_ad g k 0)) (k := x1.toNatClampNeg) (r := H_ad g x1.toNatClampNeg 0) 0 1 X hw rfl rfl (in_5 k_1 k_2) rfl rfl dX2_stateAt_18 ?_
      refine lv_goto (tgt := 23) hx hb dX2_stateAt_19 (by decide) ?_
      rw [show g_at g x1 = .ref (H_ad g x1.toNatClampNeg 0) from by unfold g_at; rw [if_neg k_1, if_neg k_2]]
      exact x_aret X hw rfl (Or.inr ⟨_, rfl⟩) dX2_stateAt_23
def rX2_dropOldest : Room := { frames := 0, cells := 0, slots := 0, locals := 0 }
theorem hd_X2_dropOldest : yX2_dropOldest.cls = RX2 ∧ yX2_dropOldest.cls ≠ "java/lang/invoke/MethodHandle" ∧ yX2_dropOldest.cls ≠ "java/lang/invoke/VarHandle" ∧ (parseMethodDescriptor yX2_dropOldest.desc).map (fun d => d.parameters.length) = some 0 := by decide +kernel
theorem in_X2_dropOldest_2 : ∀ w ∈ u_ws RX2 TX2 2, w ∈ wsX2_dropOldest := fun w h => (List.mem_cons_of_mem _ (List.mem_append_right _ h))
set_option maxHeartbeats 4000000 in
set_option maxRecDepth 100000 in
theorem m_X2_dropOldest {G : GG} {l : Launch} {d : Nat → Nat} {g zg : HV} (h : f_X2_dropOldest g = some zg) : Cv G l yX2_dropOldest wsX2_dropOldest rX2_dropOldest [.ref (d 0)] (fl [hB G d g]) (fl [hB G d zg]) := by
  refine Cv.intro cX2_dropOldest 3 none RX2 (by decide) rfl rfl (Nat.le_of_ble_eq_true rfl) ?_
  intro p e s m below meth c A ls X hw hl
  obtain ⟨⟨hx, hb, hml, hown, hts⟩, hK, hr, hlk, hA⟩ := id X
  unfold f_X2_dropOldest at h
  cases h
  rw [hB_ex] at hw
  have hl : lv_has ls 3 [(0, .ref (d 0))] := hl
  generalize hF0 : (fun k => some (H_ad g k 0) : Nat → Option Nat) = F0_ at hw
  refine lv_aload_n hx hb dX2_dropOldest_0 rfl (lv_at hl 0 rfl) ?_
  refine x_get (v := .ref (d 1)) 0 0 X hw in_X2_dropOldest_2 rfl rfl rfl 0 (by decide) (List.mem_of_getElem? (i := 1) rfl) rfl rfl dX2_dropOldest_1 ?_
  refine lv_iconst (v := 0) hx hb dX2_dropOldest_4 (by decide) ?_
  refine x_aald (f := F0_) (k := 0) (r := H_ad g 0 0) 0 1 X hw rfl rfl (vp_in_nI (n := 0) (by decide) (by decide)) (by decide) (by subst hF0; rfl) dX2_dropOldest_5 ?_
  refine lv_astore_n (lv' := [(1, .ref (H_ad g 0 0)), (0, .ref (d 0))]) hx hb dX2_dropOldest_6 rfl hl (by decide) rfl (fun ls hl => ?_)
  refine lv_iconst (v := 0) hx hb dX2_dropOldest_7 (by decide) ?_
  refine lv_istore_n (lv' := [(2, .int 0), (1, .ref (H_ad g 0 0)), (0, .ref (d 0))]) hx hb dX2_dropOldest_8 rfl hl (by decide) rfl (fun ls hl => ?_)
  refine lv_iload_n hx hb dX2_dropOldest_9 rfl (lv_at hl 0 rfl) ?_
  refine lv_iconst (v := 1) hx hb dX2_dropOldest_10 (by decide) ?_
  refine t_iadd hx hb dX2_dropOldest_11 (v := 1) (by decide) ?_
  refine lv_aload_n hx hb dX2_dropOldest_12 rfl (lv_at hl 2 rfl) ?_
  refine x_get (v := .ref (d 1)) 0 0 X hw in_X2_dropOldest_2 rfl rfl rfl 0 (by decide) (List.mem_of_getElem? (i := 1) rfl) rfl rfl dX2_dropOldest_13 ?_
  refine x_alen (n := 5) (t0 := 2) 0 1 X hw rfl rfl rfl rfl dX2_dropOldest_16 ?_
  refine lv_icmp_ge (tgt := 40) hx hb dX2_dropOldest_17 (by decide) (fun k => absurd k (by decide)) (fun _ => ?_)
  refine lv_aload_n hx hb dX2_dropOldest_20 rfl (lv_at hl 2 rfl) ?_
  refine x_get (v := .ref (d 1)) 0 0 X hw in_X2_dropOldest_2 rfl rfl rfl 0 (by decide) (List.mem_of_getElem? (i := 1) rfl) rfl rfl dX2_dropOldest_21 ?_
  refine lv_iload_n hx hb dX2_dropOldest_24 rfl (lv_at hl 0 rfl) ?_
  refine lv_aload_n hx hb dX2_dropOldest_25 rfl (lv_at hl 2 rfl) ?_
  refine x_get (v := .ref (d 1)) 0 0 X hw in_X2_dropOldest_2 rfl rfl rfl 0 (by decide) (List.mem_of_getElem? (i := 1) rfl) rfl rfl dX2_dropOldest_26 ?_
  refine lv_iload_n hx hb dX2_dropOldest_29 rfl (lv_at hl 0 rfl) ?_
  refine lv_iconst (v := 1) hx hb dX2_dropOldest_30 (by decide) ?_
  refine t_iadd hx hb dX2_dropOldest_31 (v := 1) (by decide) ?_
  refine x_aald (f := F0_) (k := 1) (r := H_ad g 1 0) 0 1 X hw rfl rfl (vp_in_nI (n := 1) (by decide) (by decide)) (by decide) (by subst hF0; rfl) dX2_dropOldest_32 ?_
  refine x_aast (f := F0_) (k := 0) (v := H_ad g 1 0) (bs' := [hh G d (H_si g) (va_up (F0_) 0 (some (H_ad g 1 0))), cB G (H_ad g 0) (H_st g 0), cB G (H_ad g 1) (H_st g 1), cB G (H_ad g 2) (H_st g 2), cB G (H_ad g 3) (H_st g 3), cB G (H_ad g 4) (H_st g 4)]) 0 1 X hw rfl rfl (List.mem_flatten.mpr ⟨cB G (H_ad g 1) (H_st g 1), List.mem_of_getElem? (i := 2) rfl, List.mem_cons_self⟩) (vp_in_nI (n := 0) (by decide) (by decide)) (by decide) dX2_dropOldest_33 rfl (fun H locs hw => ?_)
  refine lv_iinc (v := 1) (lv' := [(2, .int 1), (1, .ref (H_ad g 0 0)), (0, .ref (d 0))]) hx hb dX2_dropOldest_34 hl (k := 0) rfl (by decide) (by decide) rfl (fun ls hl => ?_)
  refine lv_goto (tgt := 9) hx hb dX2_dropOldest_37 (by decide) ?_
  refine lv_iload_n hx hb dX2_dropOldest_9 rfl (lv_at hl 0 rfl) ?_
  refine lv_iconst (v := 1) hx hb dX2_dropOldest_10 (by decide) ?_
  refine t_iadd hx hb dX2_dropOldest_11 (v := 2) (by decide) ?_
  refine lv_aload_n hx hb dX2_dropOldest_12 rfl (lv_at hl 2 rfl) ?_
  refine x_get (v := .ref (d 1)) 0 0 X hw in_X2_dropOldest_2 rfl rfl rfl 0 (by decide) (List.mem_of_getElem? (i := 1) rfl) rfl rfl dX2_dropOldest_13 ?_
  refine x_alen (n := 5) (t0 := 2) 0 1 X hw rfl rfl rfl rfl dX2_dropOldest_16 ?_
  refine lv_icmp_ge (tgt := 40) hx hb dX2_dropOldest_17 (by decide) (fun k => absurd k (by decide)) (fun _ => ?_)
  refine lv_aload_n hx hb dX2_dropOldest_20 rfl (lv_at hl 2 rfl) ?_
  refine x_get (v := .ref (d 1)) 0 0 X hw in_X2_dropOldest_2 rfl rfl rfl 0 (by decide) (List.mem_of_getElem? (i := 1) rfl) rfl rfl dX2_dropOldest_21 ?_
  refine lv_iload_n hx hb dX2_dropOldest_24 rfl (lv_at hl 0 rfl) ?_
  refine lv_aload_n hx hb dX2_dropOldest_25 rfl (lv_at hl 2 rfl) ?_
  refine x_get (v := .ref (d 1)) 0 0 X hw in_X2_dropOldest_2 rfl rfl rfl 0 (by decide) (List.mem_of_getElem? (i := 1) rfl) rfl rfl dX2_dropOldest_26 ?_
  refine lv_iload_n hx hb dX2_dropOldest_29 rfl (lv_at hl 0 rfl) ?_
  refine lv_iconst (v := 1) hx hb dX2_dropOldest_30 (by decide) ?_
  refine t_iadd hx hb dX2_dropOldest_31 (v := 2) (by decide) ?_
  refine x_aald (f := (va_up (F0_) 0 (some (H_ad g 1 0)))) (k := 2) (r := H_ad g 2 0) 0 1 X hw rfl rfl (vp_in_nI (n := 2) (by decide) (by decide)) (by decide) (by subst hF0; rfl) dX2_dropOldest_32 ?_
  refine x_aast (f := (va_up (F0_) 0 (some (H_ad g 1 0)))) (k := 1) (v := H_ad g 2 0) (bs' := [hh G d (H_si g) (va_up ((va_up (F0_) 0 (some (H_ad g 1 0)))) 1 (some (H_ad g 2 0))), cB G (H_ad g 0) (H_st g 0), cB G (H_ad g 1) (H_st g 1), cB G (H_ad g 2) (H_st g 2), cB G (H_ad g 3) (H_st g 3), cB G (H_ad g 4) (H_st g 4)]) 0 1 X hw rfl rfl (List.mem_flatten.mpr ⟨cB G (H_ad g 2) (H_st g 2), List.mem_of_getElem? (i := 3) rfl, List.mem_cons_self⟩) (vp_in_nI (n := 1) (by decide) (by decide)) (by decide) dX2_dropOldest_33 rfl (fun H locs hw => ?_)
  refine lv_iinc (v := 2) (lv' := [(2, .int 2), (1, .ref (H_ad g 0 0)), (0, .ref (d 0))]) hx hb dX2_dropOldest_34 hl (k := 0) rfl (by decide) (by decide) rfl (fun ls hl => ?_)
  refine lv_goto (tgt := 9) hx hb dX2_dropOldest_37 (by decide) ?_
  refine lv_iload_n hx hb dX2_dropOldest_9 rfl (lv_at hl 0 rfl) ?_
  refine lv_iconst (v := 1) hx hb dX2_dropOldest_10 (by decide) ?_
  refine t_iadd hx hb dX2_dropOldest_11 (v := 3) (by decide) ?_
  refine lv_aload_n hx hb dX2_dropOldest_12 rfl (lv_at hl 2 rfl) ?_
  refine x_get (v := .ref (d 1)) 0 0 X hw in_X2_dropOldest_2 rfl rfl rfl 0 (by decide) (List.mem_of_getElem? (i := 1) rfl) rfl rfl dX2_dropOldest_13 ?_
  refine x_alen (n := 5) (t0 := 2) 0 1 X hw rfl rfl rfl rfl dX2_dropOldest_16 ?_
  refine lv_icmp_ge (tgt := 40) hx hb dX2_dropOldest_17 (by decide) (fun k => absurd k (by decide)) (fun _ => ?_)
  refine lv_aload_n hx hb dX2_dropOldest_20 rfl (lv_at hl 2 rfl) ?_
  refine x_get (v := .ref (d 1)) 0 0 X hw in_X2_dropOldest_2 rfl rfl rfl 0 (by decide) (List.mem_of_getElem? (i := 1) rfl) rfl rfl dX2_dropOldest_21 ?_
  refine lv_iload_n hx hb dX2_dropOldest_24 rfl (lv_at hl 0 rfl) ?_
  refine lv_aload_n hx hb dX2_dropOldest_25 rfl (lv_at hl 2 rfl) ?_
  refine x_get (v := .ref (d 1)) 0 0 X hw in_X2_dropOldest_2 rfl rfl rfl 0 (by decide) (List.mem_of_getElem? (i := 1) rfl) rfl rfl dX2_dropOldest_26 ?_
  refine lv_iload_n hx hb dX2_dropOldest_29 rfl (lv_at hl 0 rfl) ?_
  refine lv_iconst (v := 1) hx hb dX2_dropOldest_30 (by decide) ?_
  refine t_iadd hx hb dX2_dropOldest_31 (v := 3) (by decide) ?_
  refine x_aald (f := (va_up ((va_up (F0_) 0 (some (H_ad g 1 0)))) 1 (some (H_ad g 2 0)))) (k := 3) (r := H_ad g 3 0) 0 1 X hw rfl rfl (vp_in_nI (n := 3) (by decide) (by decide)) (by decide) (by subst hF0; rfl) dX2_dropOldest_32 ?_
  refine x_aast (f := (va_up ((va_up (F0_) 0 (some (H_ad g 1 0)))) 1 (some (H_ad g 2 0)))) (k := 2) (v := H_ad g 3 0) (bs' := [hh G d (H_si g) (va_up ((va_up ((va_up (F0_) 0 (some (H_ad g 1 0)))) 1 (some (H_ad g 2 0)))) 2 (some (H_ad g 3 0))), cB G (H_ad g 0) (H_st g 0), cB G (H_ad g 1) (H_st g 1), cB G (H_ad g 2) (H_st g 2), cB G (H_ad g 3) (H_st g 3), cB G (H_ad g 4) (H_st g 4)]) 0 1 X hw rfl rfl (List.mem_flatten.mpr ⟨cB G (H_ad g 3) (H_st g 3), List.mem_of_getElem? (i := 4) rfl, List.mem_cons_self⟩) (vp_in_nI (n := 2) (by decide) (by decide)) (by decide) dX2_dropOldest_33 rfl (fun H locs hw => ?_)
  refine lv_iinc (v := 3) (lv' := [(2, .int 3), (1, .ref (H_ad g 0 0)), (0, .ref (d 0))]) hx hb dX2_dropOldest_34 hl (k := 0) rfl (by decide) (by decide) rfl (fun ls hl => ?_)
  refine lv_goto (tgt := 9) hx hb dX2_dropOldest_37 (by decide) ?_
  refine lv_iload_n hx hb dX2_dropOldest_9 rfl (lv_at hl 0 rfl) ?_
  refine lv_iconst (v := 1) hx hb dX2_dropOldest_10 (by decide) ?_
  refine t_iadd hx hb dX2_dropOldest_11 (v := 4) (by decide) ?_
  refine lv_aload_n hx hb dX2_dropOldest_12 rfl (lv_at hl 2 rfl) ?_
  refine x_get (v := .ref (d 1)) 0 0 X hw in_X2_dropOldest_2 rfl rfl rfl 0 (by decide) (List.mem_of_getElem? (i := 1) rfl) rfl rfl dX2_dropOldest_13 ?_
  refine x_alen (n := 5) (t0 := 2) 0 1 X hw rfl rfl rfl rfl dX2_dropOldest_16 ?_
  refine lv_icmp_ge (tgt := 40) hx hb dX2_dropOldest_17 (by decide) (fun k => absurd k (by decide)) (fun _ => ?_)
  refine lv_aload_n hx hb dX2_dropOldest_20 rfl (lv_at hl 2 rfl) ?_
  refine x_get (v := .ref (d 1)) 0 0 X hw in_X2_dropOldest_2 rfl rfl rfl 0 (by decide) (List.mem_of_getElem? (i := 1) rfl) rfl rfl dX2_dropOldest_21 ?_
  refine lv_iload_n hx hb dX2_dropOldest_24 rfl (lv_at hl 0 rfl) ?_
  refine lv_aload_n hx hb dX2_dropOldest_25 rfl (lv_at hl 2 rfl) ?_
  refine x_get (v := .ref (d 1)) 0 0 X hw in_X2_dropOldest_2 rfl rfl rfl 0 (by decide) (List.mem_of_getElem? (i := 1) rfl) rfl rfl dX2_dropOldest_26 ?_
  refine lv_iload_n hx hb dX2_dropOldest_29 rfl (lv_at hl 0 rfl) ?_
  refine lv_iconst (v := 1) hx hb dX2_dropOldest_30 (by decide) ?_
  refine t_iadd hx hb dX2_dropOldest_31 (v := 4) (by decide) ?_
  refine x_aald (f := (va_up ((va_up ((va_up (F0_) 0 (some (H_ad g 1 0)))) 1 (some (H_ad g 2 0)))) 2 (some (H_ad g 3 0)))) (k := 4) (r := H_ad g 4 0) 0 1 X hw rfl rfl (vp_in_nI (n := 4) (by decide) (by decide)) (by decide) (by subst hF0; rfl) dX2_dropOldest_32 ?_
  refine x_aast (f := (va_up ((va_up ((va_up (F0_) 0 (some (H_ad g 1 0)))) 1 (some (H_ad g 2 0)))) 2 (some (H_ad g 3 0)))) (k := 3) (v := H_ad g 4 0) (bs' := [hh G d (H_si g) (va_up ((va_up ((va_up ((va_up (F0_) 0 (some (H_ad g 1 0)))) 1 (some (H_ad g 2 0)))) 2 (some (H_ad g 3 0)))) 3 (some (H_ad g 4 0))), cB G (H_ad g 0) (H_st g 0), cB G (H_ad g 1) (H_st g 1), cB G (H_ad g 2) (H_st g 2), cB G (H_ad g 3) (H_st g 3), cB G (H_ad g 4) (H_st g 4)]) 0 1 X hw rfl rfl (List.mem_flatten.mpr ⟨cB G (H_ad g 4) (H_st g 4), List.mem_of_getElem? (i := 5) rfl, List.mem_cons_self⟩) (vp_in_nI (n := 3) (by decide) (by decide)) (by decide) dX2_dropOldest_33 rfl (fun H locs hw => ?_)
  refine lv_iinc (v := 4) (lv' := [(2, .int 4), (1, .ref (H_ad g 0 0)), (0, .ref (d 0))]) hx hb dX2_dropOldest_34 hl (k := 0) rfl (by decide) (by decide) rfl (fun ls hl => ?_)
  refine lv_goto (tgt := 9) hx hb dX2_dropOldest_37 (by decide) ?_
  refine lv_iload_n hx hb dX2_dropOldest_9 rfl (lv_at hl 0 rfl) ?_
  refine lv_iconst (v := 1) hx hb dX2_dropOldest_10 (by decide) ?_
  refine t_iadd hx hb dX2_dropOldest_11 (v := 5) (by decide) ?_
  refine lv_aload_n hx hb dX2_dropOldest_12 rfl (lv_at hl 2 rfl) ?_
  refine x_get (v := .ref (d 1)) 0 0 X hw in_X2_dropOldest_2 rfl rfl rfl 0 (by decide) (List.mem_of_getElem? (i := 1) rfl) rfl rfl dX2_dropOldest_13 ?_
  refine x_alen (n := 5) (t0 := 2) 0 1 X hw rfl rfl rfl rfl dX2_dropOldest_16 ?_
  refine lv_icmp_ge (tgt := 40) hx hb dX2_dropOldest_17 (by decide) (fun _ => ?_) (fun k => absurd (by decide) k)
  refine lv_aload_n hx hb dX2_dropOldest_40 rfl (lv_at hl 2 rfl) ?_
  refine x_get (v := .ref (d 1)) 0 0 X hw in_X2_dropOldest_2 rfl rfl rfl 0 (by decide) (List.mem_of_getElem? (i := 1) rfl) rfl rfl dX2_dropOldest_41 ?_
  refine lv_aload_n hx hb dX2_dropOldest_44 rfl (lv_at hl 2 rfl) ?_
  refine x_get (v := .ref (d 1)) 0 0 X hw in_X2_dropOldest_2 rfl rfl rfl 0 (by decide) (List.mem_of_getElem? (i := 1) rfl) rfl rfl dX2_dropOldest_45 ?_
  refine x_alen (n := 5) (t0 := 2) 0 1 X hw rfl rfl rfl rfl dX2_dropOldest_48 ?_
  refine lv_iconst (v := 1) hx hb dX2_dropOldest_49 (by decide) ?_
  refine t_isub hx hb dX2_dropOldest_50 (v := 4) (by decide) ?_
  refine lv_aload_n hx hb dX2_dropOldest_51 rfl (lv_at hl 1 rfl) ?_
  refine x_aast (f := (va_up ((va_up ((va_up ((va_up (F0_) 0 (some (H_ad g 1 0)))) 1 (some (H_ad g 2 0)))) 2 (some (H_ad g 3 0)))) 3 (some (H_ad g 4 0)))) (k := 4) (v := H_ad g 0 0) (bs' := [hh G d (H_si g) (va_up ((va_up ((va_up ((va_up ((va_up (F0_) 0 (some (H_ad g 1 0)))) 1 (some (H_ad g 2 0)))) 2 (some (H_ad g 3 0)))) 3 (some (H_ad g 4 0)))) 4 (some (H_ad g 0 0))), cB G (H_ad g 0) (H_st g 0), cB G (H_ad g 1) (H_st g 1), cB G (H_ad g 2) (H_st g 2), cB G (H_ad g 3) (H_st g 3), cB G (H_ad g 4) (H_st g 4)]) 0 1 X hw rfl rfl (List.mem_flatten.mpr ⟨cB G (H_ad g 0) (H_st g 0), List.mem_of_getElem? (i := 1) rfl, List.mem_cons_self⟩) (vp_in_nI (n := 4) (by decide) (by decide)) (by decide) dX2_dropOldest_52 rfl (fun H locs hw => ?_)
  refine lv_aload_n hx hb dX2_dropOldest_53 rfl (lv_at hl 2 rfl) ?_
  refine lv_dup hx hb dX2_dropOldest_54 rfl ?_
  refine x_get (v := .int (H_si g)) 0 0 X hw in_X2_dropOldest_2 rfl rfl rfl 1 (by decide) (List.mem_of_getElem? (i := 2) rfl) rfl rfl dX2_dropOldest_55 ?_
  refine lv_iconst (v := 1) hx hb dX2_dropOldest_58 (by decide) ?_
  refine lv_isub hx hb dX2_dropOldest_59 ?_
  refine x_put (bs' := [hh G d (H_si g - 1) (va_up ((va_up ((va_up ((va_up ((va_up (F0_) 0 (some (H_ad g 1 0)))) 1 (some (H_ad g 2 0)))) 2 (some (H_ad g 3 0)))) 3 (some (H_ad g 4 0)))) 4 (some (H_ad g 0 0))), cB G (H_ad g 0) (H_st g 0), cB G (H_ad g 1) (H_st g 1), cB G (H_ad g 2) (H_st g 2), cB G (H_ad g 3) (H_st g 3), cB G (H_ad g 4) (H_st g 4)]) 0 0 X hw in_X2_dropOldest_2 tyX2 tyX2_ok nmX2 rfl rfl rfl 1 (by decide) (List.mem_of_getElem? (i := 2) rfl) rfl rfl rfl rfl (Nat.le_of_ble_eq_true rfl) dX2_dropOldest_60 rfl (fun H locs hw => ?_)
  have hF : va_up ((va_up ((va_up ((va_up ((va_up (F0_) 0 (some (H_ad g 1 0)))) 1 (some (H_ad g 2 0)))) 2 (some (H_ad g 3 0)))) 3 (some (H_ad g 4 0)))) 4 (some (H_ad g 0 0)) = fun k => some (rot (H_ad g) k 0) := by
    rw [← hF0]
    funext k
    match k with
    | 0 => rfl
    | 1 => rfl
    | 2 => rfl
    | 3 => rfl
    | 4 => rfl
    | k + 5 =>
      have e : rot (H_ad g) (k + 5) = H_ad g (k + 5) := by unfold rot; rw [if_neg (by omega), if_neg (by omega)]
      rw [e]
      simp [va_up]
  rw [hF] at hw
  have hw := hw.to (w := fl [hh G d (H_si g - 1) (fun k => some (rot (H_ad g) k 0)), cB G (H_ad g 1) (H_st g 1), cB G (H_ad g 2) (H_st g 2), cB G (H_ad g 3) (H_st g 3), cB G (H_ad g 4) (H_st g 4), cB G (H_ad g 0) (H_st g 0)]) [0, 2, 3, 4, 5, 1] (n := 6) rfl rfl rfl
  exact x_vret X hw (hB_ex (v := (H_si g - 1, rot (H_st g), rot (H_ad g))) (bs := [])).symm dX2_dropOldest_63
def rX2_keep : Room := { frames := 1, cells := 0, slots := 0, locals := 22 }
theorem hd_X2_keep : yX2_keep.cls = RX2 ∧ yX2_keep.cls ≠ "java/lang/invoke/MethodHandle" ∧ yX2_keep.cls ≠ "java/lang/invoke/VarHandle" ∧ (parseMethodDescriptor yX2_keep.desc).map (fun d => d.parameters.length) = some 1 := by decide +kernel
theorem in_X2_keep_0 : ∀ w ∈ u_ws RX0 TX0 10, w ∈ wsX2_keep := fun w h => (List.mem_cons_of_mem _ (List.mem_append_right _ h))
theorem in_X2_keep_2 : ∀ w ∈ u_ws RX2 TX2 2, w ∈ wsX2_keep := fun w h => (List.mem_cons_of_mem _ (List.mem_append_left _ (List.mem_append_right _ h)))
set_option maxHeartbeats 4000000 in
set_option maxRecDepth 100000 in
theorem w_X2_keep_b16 {G : GG} {l : Launch} {p : Program} {e : Env} {s : State} {m : MethodId} {args : Array Value} {below : List Frame} {meth : Method} {c : Code} {A : Nat → Prop} {d a : Nat → Nat} {zg : HV} {v : CV} (X : Cx p s m args meth c cX2_keep 3 none wsX2_keep RX2 G A) (g : HV) (H : Heap) (locs : List Loc) (ls : Array Slot) (h : f_X2_keep_b16 g v = some zg) (hw : Wd G A s H locs (fl [hB G d g, cB G a v])) (hl : lv_has ls 3 [(0, .ref (d 0)), (1, .ref (a 0))]) : W p l e rX2_keep s m args below meth c H locs 0 0 (MQ below (Qv G A (fl [hB G d zg, cB G a v])) args s 0 0 A) (F0 m 16 ls []) := by
  obtain ⟨⟨hx, hb, hml, hown, hts⟩, hK, hr, hlk, hA⟩ := id X
  obtain ⟨si, st, ad⟩ := g
  unfold f_X2_keep_b16 at h
  refine lv_aload_n hx hb dX2_keep_16 rfl (lv_at hl 0 rfl) ?_
  refine lv_aload_n hx hb dX2_keep_17 rfl (lv_at hl 0 rfl) ?_
  refine x_get (v := .int si) 0 0 X hw in_X2_keep_2 rfl rfl rfl 1 (by decide) (List.mem_of_getElem? (i := 1) rfl) rfl rfl dX2_keep_18 ?_
  refine x_Vx (As := [.int si]) (w' := fl [hB G d (si, st, ad), cB G a v]) X hw (m_X2_stateAt (G := G) (l := l) (d := d) (g := (si, st, ad)) (x1 := si)) (Cut.blocks (bs' := [hB G d (si, st, ad), cB G a v]) [0] [1] [0, 1] [hB G d (si, st, ad)] rfl rfl rfl rfl rfl) (List.mem_flatten.mpr ⟨hB G d (si, st, ad), List.mem_cons_self, List.mem_cons_self⟩) rfl (cwV 1 hts gX2_keep_X2_stateAt rfl rfl rfl hd_X2_stateAt ⟨Nat.le_of_ble_eq_true rfl, Nat.le_of_ble_eq_true rfl⟩) rfl hl.1 rfl (Nat.le_of_ble_eq_true rfl) dX2_keep_21 ⟨Nat.le_of_ble_eq_true rfl, Nat.le_of_ble_eq_true rfl⟩ (fun H locs hw => ?_)
  by_cases k_1 : si < 0
  · have h := br_yes h k_1
    cases h
    rw [show g_at (si, st, ad) si = .null from by unfold g_at; rw [if_pos k_1]]
    refine lv_astore_nN (lv' := [(2, .null), (0, .ref (d 0)), (1, .ref (a 0))]) hx hb dX2_keep_24 rfl hl (by decide) rfl (fun ls hl => ?_)
    refine lv_aload_nN hx hb dX2_keep_25 rfl (lv_at hl 0 rfl) ?_
    refine lv_ifnullN (tgt := 44) hx hb dX2_keep_26 (by decide) ?_
    exact x_vret X hw rfl dX2_keep_44
  · have h := br_no h k_1
    by_cases k_2 : nI 5 ≤ si
    · have h := br_yes h k_2
      cases h
      rw [show g_at (si, st, ad) si = .null from by unfold g_at; rw [if_neg k_1, if_pos k_2]]
      refine lv_astore_nN (lv' := [(2, .null), (0, .ref (d 0)), (1, .ref (a 0))]) hx hb dX2_keep_24 rfl hl (by decide) rfl (fun ls hl => ?_)
      refine lv_aload_nN hx hb dX2_keep_25 rfl (lv_at hl 0 rfl) ?_
      refine lv_ifnullN (tgt := 44) hx hb dX2_keep_26 (by decide) ?_
      exact x_vret X hw rfl dX2_keep_44
    · have h := br_no h k_2
      obtain ⟨v1, h1, h⟩ := bd_ok h
      cases h
      rw [show g_at (si, st, ad) si = .ref (ad si.toNatClampNeg 0) from by unfold g_at; rw [if_neg k_1, if_neg k_2]; rfl]
      refine lv_astore_n (lv' := [(2, .ref (ad si.toNatClampNeg 0)), (0, .ref (d 0)), (1, .ref (a 0))]) hx hb dX2_keep_24 rfl hl (by decide) rfl (fun ls hl => ?_)
      refine lv_aload_n hx hb dX2_keep_25 rfl (lv_at hl 0 rfl) ?_
      refine lv_ifnull hx hb dX2_keep_26 ?_
      refine lv_aload_n hx hb dX2_keep_29 rfl (lv_at hl 0 rfl) ?_
      refine lv_aload_n hx hb dX2_keep_30 rfl (lv_at hl 2 rfl) ?_
      obtain ⟨fs, hfs⟩ := memH (G := G) (a := d) (si := si) (st := st) (ad := ad) (bs := [cB G a v]) (lt_5 k_1 k_2)
      refine x_VvM (As := [.ref (a 0)]) (w' := fl [hB G d (si, va_up st si.toNatClampNeg v1, ad), cB G a v]) X hw (m_X0_copyFrom (G := G) (l := l) (a := ad si.toNatClampNeg) (a1 := a) h1) (cutH (lt_5 k_1 k_2)) hfs rfl (cwV 1 hts gX2_keep_X0_copyFrom rfl rfl rfl hd_X0_copyFrom ⟨Nat.le_of_ble_eq_true rfl, Nat.le_of_ble_eq_true rfl⟩) rfl hl.1 rfl (Nat.le_of_ble_eq_true rfl) dX2_keep_31 ⟨Nat.le_of_ble_eq_true rfl, Nat.le_of_ble_eq_true rfl⟩ (fun H locs hw => ?_)
      refine lv_aload_n hx hb dX2_keep_34 rfl (lv_at hl 1 rfl) ?_
      refine lv_dup hx hb dX2_keep_35 rfl ?_
      refine x_get (v := .int si) 0 0 X hw in_X2_keep_2 rfl rfl rfl 1 (by decide) (List.mem_of_getElem? (i := 1) rfl) rfl rfl dX2_keep_36 ?_
      refine lv_iconst (v := 1) hx hb dX2_keep_39 (by decide) ?_
      refine lv_iadd hx hb dX2_keep_40 ?_
      refine x_put (bs' := [hB G d (si + 1, va_up st si.toNatClampNeg v1, ad), cB G a v]) 0 0 X hw in_X2_keep_2 tyX2 tyX2_ok nmX2 rfl rfl rfl 1 (by decide) (List.mem_of_getElem? (i := 1) rfl) rfl rfl rfl rfl (Nat.le_of_ble_eq_true rfl) dX2_keep_41 rfl (fun H locs hw => ?_)
      exact x_vret X hw rfl dX2_keep_44
set_option maxHeartbeats 4000000 in
set_option maxRecDepth 100000 in
theorem m_X2_keep {G : GG} {l : Launch} {d a : Nat → Nat} {g zg : HV} {v : CV} (h : f_X2_keep g v = some zg) : Cv G l yX2_keep wsX2_keep rX2_keep [.ref (d 0), .ref (a 0)] (fl [hB G d g, cB G a v]) (fl [hB G d zg, cB G a v]) := by
  refine Cv.intro cX2_keep 3 none RX2 (by decide) rfl rfl (Nat.le_of_ble_eq_true rfl) ?_
  intro p e s m below meth c A ls X hw hl
  obtain ⟨⟨hx, hb, hml, hown, hts⟩, hK, hr, hlk, hA⟩ := id X
  unfold f_X2_keep at h
  have hl : lv_has ls 3 [(0, .ref (d 0)), (1, .ref (a 0))] := hl
  refine lv_aload_n hx hb dX2_keep_0 rfl (lv_at hl 0 rfl) ?_
  refine x_get (v := .int (H_si g)) 0 0 X hw in_X2_keep_2 rfl rfl rfl 1 (by decide) (List.mem_of_getElem? (i := 1) rfl) rfl rfl dX2_keep_1 ?_
  refine lv_aload_n hx hb dX2_keep_4 rfl (lv_at hl 0 rfl) ?_
  refine x_get (v := .ref (d 1)) 0 0 X hw in_X2_keep_2 rfl rfl rfl 0 (by decide) (List.mem_of_getElem? (i := 2) rfl) rfl rfl dX2_keep_5 ?_
  refine x_alen (n := 5) (t0 := 2) 0 1 X hw rfl rfl rfl rfl dX2_keep_8 ?_
  refine lv_icmp_lt (tgt := 16) hx hb dX2_keep_9 (by decide) (fun k_1 => ?_) (fun k_1 => ?_)
  · have h := br_yes h k_1
    exact w_X2_keep_b16 X g _ _ _ h hw hl
  · have h := br_no h k_1
    obtain ⟨g1, h1, h⟩ := bd_ok h
    refine lv_aload_n hx hb dX2_keep_12 rfl (lv_at hl 0 rfl) ?_
    refine x_Vv (As := []) (w' := fl [hB G d g1, cB G a v]) X hw (m_X2_dropOldest (G := G) (l := l) (d := d) h1) (Cut.blocks (bs' := [hB G d g1, cB G a v]) [0] [1] [0, 1] [hB G d g1] rfl rfl rfl rfl rfl) 0 0 rfl rfl rfl (cwV 0 hts gX2_keep_X2_dropOldest rfl rfl rfl hd_X2_dropOldest ⟨Nat.le_of_ble_eq_true rfl, Nat.le_of_ble_eq_true rfl⟩) rfl hl.1 rfl (Nat.le_of_ble_eq_true rfl) dX2_keep_13 ⟨Nat.le_of_ble_eq_true rfl, Nat.le_of_ble_eq_true rfl⟩ (fun H locs hw => ?_)
    exact w_X2_keep_b16 X g1 _ _ _ h hw hl
def rX2_restore : Room := { frames := 1, cells := 0, slots := 0, locals := 22 }
theorem hd_X2_restore : yX2_restore.cls = RX2 ∧ yX2_restore.cls ≠ "java/lang/invoke/MethodHandle" ∧ yX2_restore.cls ≠ "java/lang/invoke/VarHandle" ∧ (parseMethodDescriptor yX2_restore.desc).map (fun d => d.parameters.length) = some 1 := by decide +kernel
theorem in_X2_restore_0 : ∀ w ∈ u_ws RX0 TX0 10, w ∈ wsX2_restore := fun w h => (List.mem_cons_of_mem _ (List.mem_append_right _ h))
theorem in_X2_restore_2 : ∀ w ∈ u_ws RX2 TX2 2, w ∈ wsX2_restore := fun w h => (List.mem_cons_of_mem _ (List.mem_append_left _ (List.mem_append_right _ h)))
set_option maxHeartbeats 4000000 in
set_option maxRecDepth 100000 in
theorem m_X2_restore {G : GG} {l : Launch} {d a : Nat → Nat} {g zg : HV} {v zv : CV} (h : f_X2_restore g v = some (zg, zv)) : Cv G l yX2_restore wsX2_restore rX2_restore [.ref (d 0), .ref (a 0)] (fl [hB G d g, cB G a v]) (fl [hB G d zg, cB G a zv]) := by
  refine Cv.intro cX2_restore 3 none RX2 (by decide) rfl rfl (Nat.le_of_ble_eq_true rfl) ?_
  intro p e s m below meth c A ls X hw hl
  obtain ⟨⟨hx, hb, hml, hown, hts⟩, hK, hr, hlk, hA⟩ := id X
  obtain ⟨si, st, ad⟩ := g
  unfold f_X2_restore at h
  obtain ⟨x, ex, h⟩ := nm_ok h
  have ex : x = si - 1 := ex
  have hl : lv_has ls 3 [(0, .ref (d 0)), (1, .ref (a 0))] := hl
  refine lv_aload_n hx hb dX2_restore_0 rfl (lv_at hl 0 rfl) ?_
  refine lv_aload_n hx hb dX2_restore_1 rfl (lv_at hl 0 rfl) ?_
  refine x_get (v := .int si) 0 0 X hw in_X2_restore_2 rfl rfl rfl 1 (by decide) (List.mem_of_getElem? (i := 1) rfl) rfl rfl dX2_restore_2 ?_
  refine lv_iconst (v := 1) hx hb dX2_restore_5 (by decide) ?_
  refine t_isub hx hb dX2_restore_6 (v := x) ex.symm ?_
  refine x_Vx (As := [.int x]) (w' := fl [hB G d (si, st, ad), cB G a v]) X hw (m_X2_stateAt (G := G) (l := l) (d := d) (g := (si, st, ad)) (x1 := x)) (Cut.blocks (bs' := [hB G d (si, st, ad), cB G a v]) [0] [1] [0, 1] [hB G d (si, st, ad)] rfl rfl rfl rfl rfl) (List.mem_flatten.mpr ⟨hB G d (si, st, ad), List.mem_cons_self, List.mem_cons_self⟩) rfl (cwV 1 hts gX2_restore_X2_stateAt rfl rfl rfl hd_X2_stateAt ⟨Nat.le_of_ble_eq_true rfl, Nat.le_of_ble_eq_true rfl⟩) rfl hl.1 rfl (Nat.le_of_ble_eq_true rfl) dX2_restore_7 ⟨Nat.le_of_ble_eq_true rfl, Nat.le_of_ble_eq_true rfl⟩ (fun H locs hw => ?_)
  by_cases k_1 : x < 0
  · have h := br_yes h k_1
    cases h
    rw [show g_at (si, st, ad) x = .null from by unfold g_at; rw [if_pos k_1]]
    refine lv_astore_nN (lv' := [(2, .null), (0, .ref (d 0)), (1, .ref (a 0))]) hx hb dX2_restore_10 rfl hl (by decide) rfl (fun ls hl => ?_)
    refine lv_aload_nN hx hb dX2_restore_11 rfl (lv_at hl 0 rfl) ?_
    refine lv_ifnullN (tgt := 30) hx hb dX2_restore_12 (by decide) ?_
    exact x_vret X hw rfl dX2_restore_30
  · have h := br_no h k_1
    by_cases k_2 : nI 5 ≤ x
    · have h := br_yes h k_2
      cases h
      rw [show g_at (si, st, ad) x = .null from by unfold g_at; rw [if_neg k_1, if_pos k_2]]
      refine lv_astore_nN (lv' := [(2, .null), (0, .ref (d 0)), (1, .ref (a 0))]) hx hb dX2_restore_10 rfl hl (by decide) rfl (fun ls hl => ?_)
      refine lv_aload_nN hx hb dX2_restore_11 rfl (lv_at hl 0 rfl) ?_
      refine lv_ifnullN (tgt := 30) hx hb dX2_restore_12 (by decide) ?_
      exact x_vret X hw rfl dX2_restore_30
    · have h := br_no h k_2
      obtain ⟨v1, h1, h⟩ := bd_ok h
      cases h
      rw [show g_at (si, st, ad) x = .ref (ad x.toNatClampNeg 0) from by unfold g_at; rw [if_neg k_1, if_neg k_2]; rfl]
      refine lv_astore_n (lv' := [(2, .ref (ad x.toNatClampNeg 0)), (0, .ref (d 0)), (1, .ref (a 0))]) hx hb dX2_restore_10 rfl hl (by decide) rfl (fun ls hl => ?_)
      refine lv_aload_n hx hb dX2_restore_11 rfl (lv_at hl 0 rfl) ?_
      refine lv_ifnull hx hb dX2_restore_12 ?_
      refine lv_aload_n hx hb dX2_restore_15 rfl (lv_at hl 2 rfl) ?_
      refine lv_aload_n hx hb dX2_restore_16 rfl (lv_at hl 0 rfl) ?_
      refine x_Vv (As := [.ref (ad x.toNatClampNeg 0)]) (w' := fl [hB G d (si, st, ad), cB G a zv]) X hw (m_X0_copyFrom (G := G) (l := l) (a := a) (a1 := ad x.toNatClampNeg) h1) (cutH2 (lt_5 k_1 k_2)) 1 0 rfl rfl rfl (cwV 1 hts gX2_restore_X0_copyFrom rfl rfl rfl hd_X0_copyFrom ⟨Nat.le_of_ble_eq_true rfl, Nat.le_of_ble_eq_true rfl⟩) rfl hl.1 rfl (Nat.le_of_ble_eq_true rfl) dX2_restore_17 ⟨Nat.le_of_ble_eq_true rfl, Nat.le_of_ble_eq_true rfl⟩ (fun H locs hw => ?_)
      refine lv_aload_n hx hb dX2_restore_20 rfl (lv_at hl 1 rfl) ?_
      refine lv_dup hx hb dX2_restore_21 rfl ?_
      refine x_get (v := .int si) 0 0 X hw in_X2_restore_2 rfl rfl rfl 1 (by decide) (List.mem_of_getElem? (i := 1) rfl) rfl rfl dX2_restore_22 ?_
      refine lv_iconst (v := 1) hx hb dX2_restore_25 (by decide) ?_
      refine t_isub hx hb dX2_restore_26 (v := x) ex.symm ?_
      refine x_put (bs' := [hB G d (x, st, ad), cB G a zv]) 0 0 X hw in_X2_restore_2 tyX2 tyX2_ok nmX2 rfl rfl rfl 1 (by decide) (List.mem_of_getElem? (i := 1) rfl) rfl rfl rfl rfl (Nat.le_of_ble_eq_true rfl) dX2_restore_27 rfl (fun H locs hw => ?_)
      exact x_vret X hw rfl dX2_restore_30
