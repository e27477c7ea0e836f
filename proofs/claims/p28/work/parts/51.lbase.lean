/-! ===== 51: the law's own small methods ===== -/
theorem cut8 {bs : List va_W} {w0 w1 : va_W} {bs' : List va_W} (n : Nat) (is js ks : List Nat) (cs' : List va_W) (hn : bs.length = n) (h1 : List.isPerm (is ++ js) (List.range n) = true) (h2 : fl (pk_ bs is) = w0) (h3 : fl cs' = w1) (hn2 : (cs' ++ pk_ bs js).length = n) (h4 : List.isPerm ks (List.range n) = true) (h5 : pk_ (cs' ++ pk_ bs js) ks = bs') : Cut (fl bs) w0 w1 (fl bs') :=
  Cut.blocks is js ks cs' (by rw [hn]; exact h1) h2 h3 (by rw [hn2]; exact h4) h5
def bd6 {α β1 β2 β3 β4 β5 β6 : Type} (x : Option (β1 × β2 × β3 × β4 × β5 × β6)) (k : β1 → β2 → β3 → β4 → β5 → β6 → Option α) : Option α := x.bind fun q => k q.1 q.2.1 q.2.2.1 q.2.2.2.1 q.2.2.2.2.1 q.2.2.2.2.2
theorem bd6_ok {α β1 β2 β3 β4 β5 β6 : Type} {x : Option (β1 × β2 × β3 × β4 × β5 × β6)} {k : β1 → β2 → β3 → β4 → β5 → β6 → Option α} {r : α} (h : bd6 x k = some r) : ∃ y1 y2 y3 y4 y5 y6, x = some (y1, y2, y3, y4, y5, y6) ∧ k y1 y2 y3 y4 y5 y6 = some r := by
  cases x with
  | none => cases h
  | some y => exact ⟨y.1, y.2.1, y.2.2.1, y.2.2.2.1, y.2.2.2.2.1, y.2.2.2.2.2, rfl, h⟩
theorem bd4_s {α β1 β2 β3 β4 : Type} {a : β1} {b : β2} {c : β3} {d : β4} {k : β1 → β2 → β3 → β4 → Option α} : bd4 (some (a, b, c, d)) k = k a b c d := rfl
theorem bd6_s {α β1 β2 β3 β4 β5 β6 : Type} {a : β1} {b : β2} {c : β3} {d : β4} {e : β5} {f : β6} {k : β1 → β2 → β3 → β4 → β5 → β6 → Option α} : bd6 (some (a, b, c, d, e, f)) k = k a b c d e f := rfl
/-- a cell of the script, or a number in its place -/
def cellV (L : Nat) (xs : Nat → Int32) (k : Int32) : Int32 := if nI L ≤ k then 7919 * (k + 3) * (k + 11) else xs k.toNatClampNeg
def rL_cell : Room := { frames := 0, cells := 0, slots := 0, locals := 0 }
theorem hd_L_cell : yL_cell.cls = RL ∧ yL_cell.cls ≠ "java/lang/invoke/MethodHandle" ∧ yL_cell.cls ≠ "java/lang/invoke/VarHandle" ∧ (parseMethodDescriptor yL_cell.desc).map (fun d => d.parameters.length) = some 2 := by decide +kernel
def Px (G : GG) (av : List Value) (b L : Nat) (xs : Nat → Int32) (sz : Nat) : Array Value → State → Prop := va_Pc av (fun U => U.heap.size = sz ∧ KK G U ∧ va_X b L xs U U.heap ∧ b < sz)
theorem Px.blind {G : GG} {av : List Value} {b L : Nat} {xs : Nat → Int32} {sz : Nat} : FrameBlind (Px G av b L xs sz) := fun a U g mk q => by
  obtain ⟨q0, q1, qK, qX, qb⟩ := q
  exact ⟨q0, q1, qK.calling, va_X.moved (u := U) (U := U.calling g mk a) (Vm.Alike.refl U.vm) qX, qb⟩
set_option maxHeartbeats 4000000 in
theorem m_L_cell {G : GG} {l : Launch} {b L : Nat} {xs : Nat → Int32} {k : Int32} (hL : L < 2 ^ 31) (hk : ¬ k < 0) (sz : Nat) : Met l yL_cell wsL_cell rL_cell (Px G [.ref b, .int k] b L xs sz) (Qi G (va_A [] sz) (cellV L xs k) []) 0 0 (va_A [] sz) := by
  refine Met.ofW (cc := cL_cell) (maxL := 2) (ret := some .int) (by decide) rfl ?_
  intro p e s m args below meth c s₁ B hml hv
  obtain ⟨rfl, hsz, hK, hX, hbl⟩ := hv
  subst hsz
  have hts := atoms_spec (ws := wsL_cell) B.pre
  have hl := lv_entry ([.ref b, .int k] : List Value) (n := 2) (Nat.le_of_ble_eq_true rfl)
  rw [lg_entry_eq]
  generalize (lg_sl ([.ref b, .int k] : List Value) ++ List.replicate (2 - (lg_sl ([.ref b, .int k] : List Value)).length) Slot.unset).toArray = ls at hl ⊢
  have X : Cx p s m ([.ref b, .int k] : List Value).toArray meth c cL_cell 2 (some .int) wsL_cell RL G (va_A [] s.heap.size) := ⟨⟨B.exec, B.bytes, hml, (show yL_cell.cls = RL from rfl) ▸ findClass_of_methodNamed B.named, hts⟩, hK, B.returns, B.notSynchronized, fun q h => Or.inr h⟩
  have hw : Wd G (va_A [] s.heap.size) s s.heap [] (fl []) := ⟨fun k q h => by simp at h, ⟨fun i j p q h => by simp at h, fun k q h => by simp at h⟩, va_S.rf⟩
  have hbA : ¬ va_A [] s.heap.size b := by
    rintro (⟨k, e, h⟩ | h)
    · simp at h
    · omega
  obtain ⟨⟨hx, hb, hml, hown, hts⟩, hK, hr, hlk, hA⟩ := id X
  have hl : lv_has ls 2 [(0, .ref b), (1, .int k)] := hl
  refine lv_iload_n hx hb dL_cell_0 rfl (lv_at hl 1 rfl) ?_
  refine lv_aload_n hx hb dL_cell_1 rfl (lv_at hl 0 rfl) ?_
  refine va_slen hx hb hX hbl hbA hw.2.2 dL_cell_2 ?_
  refine lv_icmp_ge (tgt := 12) hx hb dL_cell_3 (by decide) (fun q => ?_) (fun q => ?_)
  · have e : cellV L xs k = 7919 * (k + 3) * (k + 11) := if_pos q
    rw [e]
    refine lv_sipush (v := 7919) hx hb dL_cell_12 (by decide) ?_
    refine lv_iload_n hx hb dL_cell_15 rfl (lv_at hl 1 rfl) ?_
    refine lv_iconst (v := 3) hx hb dL_cell_16 (by decide) ?_
    refine lv_iadd hx hb dL_cell_17 ?_
    refine lv_imul hx hb dL_cell_18 ?_
    refine lv_iload_n hx hb dL_cell_19 rfl (lv_at hl 1 rfl) ?_
    refine lv_bipush (v := 11) hx hb dL_cell_20 (by decide) ?_
    refine lv_iadd hx hb dL_cell_22 ?_
    refine lv_imul hx hb dL_cell_23 ?_
    exact x_iret X (vp_nar_int _) hw rfl rfl dL_cell_24
  · have e : cellV L xs k = xs k.toNatClampNeg := if_neg q
    rw [e]
    obtain ⟨j, hj, rfl⟩ := nI_of hk
    have hin : vp_in (nI j) L := vp_in_nI (Nat.not_le.mp (fun z => q ((nI_leI (by omega) hj).mpr z))) (by omega)
    refine lv_aload_n hx hb dL_cell_6 rfl (lv_at hl 0 rfl) ?_
    refine lv_iload_n hx hb dL_cell_7 rfl (lv_at hl 1 rfl) ?_
    refine va_sld hx hb hX hbl hbA hw.2.2 hin dL_cell_8 ?_
    refine lv_goto (tgt := 24) hx hb dL_cell_9 (by decide) ?_
    exact x_iret X (vp_nar_int _) hw rfl rfl dL_cell_24
