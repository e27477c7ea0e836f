def rX5_in : Room := { frames := 0, cells := 0, slots := 0, locals := 0 }
theorem hd_X5_in : yX5_in.cls = RX5 ∧ yX5_in.cls ≠ "java/lang/invoke/MethodHandle" ∧ yX5_in.cls ≠ "java/lang/invoke/VarHandle" ∧ (parseMethodDescriptor yX5_in.desc).map (fun d => d.parameters.length) = some 3 := by decide +kernel
noncomputable def f_X5_in   (x0 : Int32) (x1 : Int32) (x2 : Int32) : Option (Int32) :=
  br (x0 < x1)
    (some (0))
    (br (x2 < x0)
       (some (0))
       (some (1)))
set_option maxHeartbeats 4000000 in
set_option maxRecDepth 100000 in
theorem m_X5_in {G : GG} {l : Launch}   {x0 : Int32} {x1 : Int32} {x2 : Int32} {r : Int32}  (h : f_X5_in x0 x1 x2 = some (r)) : Ci G l yX5_in wsX5_in rX5_in [.int x0, .int x1, .int x2] (fl []) r (fl []) := by
  refine Ci.intro cX5_in 3 (some .boolean) RX5 (by decide) rfl rfl (Nat.le_of_ble_eq_true rfl) ?_
  intro p e s m below meth c A ls X hw hl
  obtain ⟨⟨hx, hb, hml, hown, hts⟩, hK, hr, hlk, hA⟩ := id X
  unfold f_X5_in at h
  have hl : lv_has ls 3 [(0, .int x0), (1, .int x1), (2, .int x2)] := hl
  refine lv_iload_n hx hb dX5_in_0 rfl (lv_at hl 0 rfl) ?_
  refine lv_iload_n hx hb dX5_in_1 rfl (lv_at hl 1 rfl) ?_
  refine lv_icmp_lt (tgt := 14) hx hb dX5_in_2 (by decide) (fun k_1 => ?_) (fun k_1 => ?_)
  · have h := br_yes h k_1
    refine lv_iconst (v := 0) hx hb dX5_in_14 (by decide) ?_
    cases h
    exact x_iret X (narz (Or.inl rfl)) hw rfl rfl dX5_in_15
  · have h := br_no h k_1
    refine lv_iload_n hx hb dX5_in_5 rfl (lv_at hl 0 rfl) ?_
    refine lv_iload_n hx hb dX5_in_6 rfl (lv_at hl 2 rfl) ?_
    refine lv_icmp_gt (tgt := 14) hx hb dX5_in_7 (by decide) (fun k_2 => ?_) (fun k_2 => ?_)
    · have h := br_yes h k_2
      refine lv_iconst (v := 0) hx hb dX5_in_14 (by decide) ?_
      cases h
      exact x_iret X (narz (Or.inl rfl)) hw rfl rfl dX5_in_15
    · have h := br_no h k_2
      refine lv_iconst (v := 1) hx hb dX5_in_10 (by decide) ?_
      refine lv_goto (tgt := 15) hx hb dX5_in_11 (by decide) ?_
      cases h
      exact x_iret X (narz (Or.inr rfl)) hw rfl rfl dX5_in_15

def rX5_copies : Room := { frames := 0, cells := 0, slots := 0, locals := 0 }
theorem hd_X5_copies : yX5_copies.cls = RX5 ∧ yX5_copies.cls ≠ "java/lang/invoke/MethodHandle" ∧ yX5_copies.cls ≠ "java/lang/invoke/VarHandle" ∧ (parseMethodDescriptor yX5_copies.desc).map (fun d => d.parameters.length) = some 2 := by decide +kernel
theorem in_X5_copies_5 : ∀ w ∈ u_ws RX5 TX5 12, w ∈ wsX5_copies := fun w h => (List.mem_cons_of_mem _ (List.mem_append_right _ h))
noncomputable def f_X5_copies_b2  (x1 : Int32) (x2 : Int32) : Nat → MV → Int32 → Option (MV)
  | 0 => fun _ _ => none
  | n + 1 => fun v x3 =>
    br (92 ≤ x3)
      (some (v))
      (nm (((92 * x1) + x3) : Int32) fun t_2 =>
       ck (vp_in t_2 644) <|
       nm (((M_ro v) t_2.toNatClampNeg) : Int32) fun t_4 =>
       nm (((92 * x2) + x3) : Int32) fun t_5 =>
       ck (vp_in t_5 644) <|
       nm (upd (M_ro v) t_5.toNatClampNeg t_4) fun g_7 =>
       nm (x3 + 1 : Int32) fun t_8 =>
       f_X5_copies_b2 x1 x2 n (g_7, (M_sa v), (M_od v), (M_st v), (M_ne v), (M_fd v), (M_tx v), (M_le v), (M_at v), (M_nu v), (M_it v), (M_h v)) t_8)
set_option maxHeartbeats 4000000 in
set_option maxRecDepth 100000 in
theorem w_X5_copies_b2 {G : GG} {l : Launch} {p : Program} {e : Env} {s : State} {m : MethodId} {args : Array Value} {below : List Frame} {meth : Method} {c : Code} {A : Nat → Prop} {o : Nat → Nat} {x1 : Int32} {x2 : Int32} {zv : MV}   (X : Cx p s m args meth c cX5_copies 4 none wsX5_copies RX5 G A)  :
    ∀ (n : Nat) (v : MV) (x3 : Int32) (H : Heap) (locs : List Loc) (ls : Array Slot), f_X5_copies_b2 x1 x2 n v x3 = some (zv) → Wd G A s H locs (fl [mB G o v]) → lv_has ls 4 [(0, .ref (o 0)), (1, .int x1), (2, .int x2), (3, .int x3)] → W p l e rX5_copies s m args below meth c H locs 0 0 (MQ below (Qv G A (fl [mB G o zv])) args s 0 0 A) (F0 m 2 ls []) := by
  obtain ⟨⟨hx, hb, hml, hown, hts⟩, hK, hr, hlk, hA⟩ := id X
  intro n
  induction n with
  | zero =>
    intro v x3 H locs ls h
    rw [f_X5_copies_b2] at h
    cases h
  | succ n ih =>
    intro v x3 H locs ls h hw hl
    rw [f_X5_copies_b2] at h
    refine lv_iload_n hx hb dX5_copies_2 rfl (lv_at hl 3 rfl) ?_
    refine lv_bipush (v := 92) hx hb dX5_copies_3 (by decide) ?_
    refine lv_icmp_ge (tgt := 36) hx hb dX5_copies_5 (by decide) (fun k_1 => ?_) (fun k_1 => ?_)
    · have h := br_yes h k_1
      cases h
      exact x_vret X hw rfl dX5_copies_36
    · have h := br_no h k_1
      refine lv_aload_n hx hb dX5_copies_8 rfl (lv_at hl 0 rfl) ?_
      refine x_get (v := .ref (o 1)) 0 0 X hw in_X5_copies_5 rfl rfl rfl 0 (by decide) (List.mem_of_getElem? (i := 1) rfl) rfl rfl dX5_copies_9 ?_
      refine lv_bipush (v := 92) hx hb dX5_copies_12 (by decide) ?_
      refine lv_iload_n hx hb dX5_copies_14 rfl (lv_at hl 2 rfl) ?_
      refine lv_imul hx hb dX5_copies_15 ?_
      refine lv_iload_n hx hb dX5_copies_16 rfl (lv_at hl 3 rfl) ?_
      refine lv_iadd hx hb dX5_copies_17 ?_
      refine lv_aload_n hx hb dX5_copies_18 rfl (lv_at hl 0 rfl) ?_
      refine x_get (v := .ref (o 1)) 0 0 X hw in_X5_copies_5 rfl rfl rfl 0 (by decide) (List.mem_of_getElem? (i := 1) rfl) rfl rfl dX5_copies_19 ?_
      refine lv_bipush (v := 92) hx hb dX5_copies_22 (by decide) ?_
      refine lv_iload_n hx hb dX5_copies_24 rfl (lv_at hl 1 rfl) ?_
      refine lv_imul hx hb dX5_copies_25 ?_
      refine lv_iload_n hx hb dX5_copies_26 rfl (lv_at hl 3 rfl) ?_
      refine lv_iadd hx hb dX5_copies_27 ?_
      obtain ⟨t_2, et_2, h⟩ := nm_ok h
      rw [← et_2]
      obtain ⟨k_3, h⟩ := ck_ok h
      refine x_iald (f := (M_ro v)) 0 1 X hw rfl rfl k_3 dX5_copies_28 ?_
      obtain ⟨t_4, et_4, h⟩ := nm_ok h
      rw [← et_4]
      obtain ⟨t_5, et_5, h⟩ := nm_ok h
      rw [← et_5]
      obtain ⟨k_6, h⟩ := ck_ok h
      obtain ⟨g_7, eg_7, h⟩ := nm_ok h
      refine x_iast (f := (M_ro v)) (bs' := [mB G o (g_7, (M_sa v), (M_od v), (M_st v), (M_ne v), (M_fd v), (M_tx v), (M_le v), (M_at v), (M_nu v), (M_it v), (M_h v))]) 0 1 X hw rfl rfl k_6 dX5_copies_29 (by rw [eg_7]; rfl) (fun H locs hw => ?_)
      obtain ⟨t_8, et_8, h⟩ := nm_ok h
      refine lv_iinc (v := t_8) (lv' := [(3, .int t_8), (0, .ref (o 0)), (1, .int x1), (2, .int x2)]) hx hb dX5_copies_30 hl (k := 3) rfl (by rw [et_8]; rfl) (by decide) rfl (fun ls hl => ?_)
      refine lv_goto (tgt := 2) hx hb dX5_copies_33 (by decide) ?_
      exact ih (g_7, (M_sa v), (M_od v), (M_st v), (M_ne v), (M_fd v), (M_tx v), (M_le v), (M_at v), (M_nu v), (M_it v), (M_h v)) t_8 _ _ _ h hw (lv_sub hl [1, 2, 3, 0] rfl)
noncomputable def f_X5_copies  (v : MV) (x1 : Int32) (x2 : Int32) : Option (MV) :=
  f_X5_copies_b2 x1 x2 FU v 0
set_option maxHeartbeats 4000000 in
set_option maxRecDepth 100000 in
theorem m_X5_copies {G : GG} {l : Launch} {o : Nat → Nat} {v : MV} {x1 : Int32} {x2 : Int32} {zv : MV} (h : f_X5_copies v x1 x2 = some (zv)) : Cv G l yX5_copies wsX5_copies rX5_copies [.ref (o 0), .int x1, .int x2] (fl [mB G o v]) (fl [mB G o zv]) := by
  refine Cv.intro cX5_copies 4 none RX5 (by decide) rfl rfl (Nat.le_of_ble_eq_true rfl) ?_
  intro p e s m below meth c A ls X hw hl
  obtain ⟨⟨hx, hb, hml, hown, hts⟩, hK, hr, hlk, hA⟩ := id X
  unfold f_X5_copies at h
  have hl : lv_has ls 4 [(0, .ref (o 0)), (1, .int x1), (2, .int x2)] := hl
  refine lv_iconst (v := 0) hx hb dX5_copies_0 (by decide) ?_
  refine lv_istore_n (lv' := [(3, .int 0), (0, .ref (o 0)), (1, .int x1), (2, .int x2)]) hx hb dX5_copies_1 rfl hl (by decide) rfl (fun ls hl => ?_)
  exact w_X5_copies_b2 X FU v 0 _ _ _ h hw (lv_sub hl [1, 2, 3, 0] rfl)

def rX5_saves : Room := { frames := 1, cells := 0, slots := 0, locals := 23 }
theorem hd_X5_saves : yX5_saves.cls = RX5 ∧ yX5_saves.cls ≠ "java/lang/invoke/MethodHandle" ∧ yX5_saves.cls ≠ "java/lang/invoke/VarHandle" ∧ (parseMethodDescriptor yX5_saves.desc).map (fun d => d.parameters.length) = some 0 := by decide +kernel
theorem in_X5_saves_5 : ∀ w ∈ u_ws RX5 TX5 12, w ∈ wsX5_saves := fun w h => (List.mem_cons_of_mem _ (List.mem_append_right _ h))
noncomputable def f_X5_saves_b29  (v : MV) : Option (MV) :=
  br ((M_sa v) = 5)
    (nm (((M_sa v) - 1) : Int32) fun t_6 =>
     nm ((t_6 + 1) : Int32) fun t_7 =>
     bd (f_X5_copies ((M_ro v), t_7, (M_od v), (M_st v), (M_ne v), (M_fd v), (M_tx v), (M_le v), (M_at v), (M_nu v), (M_it v), (M_h v)) 0 t_7) fun v_8 =>
     some (v_8))
    (nm (((M_sa v) - 0) : Int32) fun t_2 =>
     nm ((t_2 + 1) : Int32) fun t_3 =>
     bd (f_X5_copies ((M_ro v), t_3, (M_od v), (M_st v), (M_ne v), (M_fd v), (M_tx v), (M_le v), (M_at v), (M_nu v), (M_it v), (M_h v)) 0 t_3) fun v_4 =>
     some (v_4))
set_option maxHeartbeats 4000000 in
set_option maxRecDepth 100000 in
theorem w_X5_saves_b29 {G : GG} {l : Launch} {p : Program} {e : Env} {s : State} {m : MethodId} {args : Array Value} {below : List Frame} {meth : Method} {c : Code} {A : Nat → Prop} {o : Nat → Nat}  {zv : MV}   (X : Cx p s m args meth c cX5_saves 2 none wsX5_saves RX5 G A)  :
    ∀ (v : MV) (H : Heap) (locs : List Loc) (ls : Array Slot), f_X5_saves_b29 v = some (zv) → Wd G A s H locs (fl [mB G o v]) → lv_has ls 2 [(0, .ref (o 0))] → W p l e rX5_saves s m args below meth c H locs 0 0 (MQ below (Qv G A (fl [mB G o zv])) args s 0 0 A) (F0 m 29 ls []) := by
  obtain ⟨⟨hx, hb, hml, hown, hts⟩, hK, hr, hlk, hA⟩ := id X
  intro v H locs ls h hw hl
  unfold f_X5_saves_b29 at h
  refine lv_aload_n hx hb dX5_saves_29 rfl (lv_at hl 0 rfl) ?_
  refine lv_dup hx hb dX5_saves_30 rfl ?_
  refine x_get (v := .int (M_sa v)) 0 0 X hw in_X5_saves_5 rfl rfl rfl 1 (by decide) (List.mem_of_getElem? (i := 1) rfl) rfl rfl dX5_saves_31 ?_
  refine lv_aload_n hx hb dX5_saves_34 rfl (lv_at hl 0 rfl) ?_
  refine x_get (v := .int (M_sa v)) 0 0 X hw in_X5_saves_5 rfl rfl rfl 1 (by decide) (List.mem_of_getElem? (i := 1) rfl) rfl rfl dX5_saves_35 ?_
  refine lv_iconst (v := 5) hx hb dX5_saves_38 (by decide) ?_
  refine lv_icmp_ne (tgt := 46) hx hb dX5_saves_39 (by decide) (fun k_1 => ?_) (fun k_1 => ?_)
  · have h := br_no h k_1
    refine lv_iconst (v := 0) hx hb dX5_saves_46 (by decide) ?_
    refine lv_isub hx hb dX5_saves_47 ?_
    obtain ⟨t_2, et_2, h⟩ := nm_ok h
    refine x_put (bs' := [mB G o ((M_ro v), t_2, (M_od v), (M_st v), (M_ne v), (M_fd v), (M_tx v), (M_le v), (M_at v), (M_nu v), (M_it v), (M_h v))]) 0 0 X hw in_X5_saves_5 tyX5 tyX5_ok nmX5 rfl rfl rfl 1 (by decide) (List.mem_of_getElem? (i := 1) rfl) rfl rfl rfl rfl (Nat.le_of_ble_eq_true rfl) dX5_saves_48 (by rw [et_2]; rfl) (fun H locs hw => ?_)
    refine lv_aload_n hx hb dX5_saves_51 rfl (lv_at hl 0 rfl) ?_
    refine lv_dup hx hb dX5_saves_52 rfl ?_
    refine x_get (v := .int t_2) 0 0 X hw in_X5_saves_5 rfl rfl rfl 1 (by decide) (List.mem_of_getElem? (i := 1) rfl) rfl rfl dX5_saves_53 ?_
    refine lv_iconst (v := 1) hx hb dX5_saves_56 (by decide) ?_
    refine lv_iadd hx hb dX5_saves_57 ?_
    obtain ⟨t_3, et_3, h⟩ := nm_ok h
    refine x_put (bs' := [mB G o ((M_ro v), t_3, (M_od v), (M_st v), (M_ne v), (M_fd v), (M_tx v), (M_le v), (M_at v), (M_nu v), (M_it v), (M_h v))]) 0 0 X hw in_X5_saves_5 tyX5 tyX5_ok nmX5 rfl rfl rfl 1 (by decide) (List.mem_of_getElem? (i := 1) rfl) rfl rfl rfl rfl (Nat.le_of_ble_eq_true rfl) dX5_saves_58 (by rw [et_3]; rfl) (fun H locs hw => ?_)
    refine lv_aload_n hx hb dX5_saves_61 rfl (lv_at hl 0 rfl) ?_
    refine lv_iconst (v := 0) hx hb dX5_saves_62 (by decide) ?_
    refine lv_aload_n hx hb dX5_saves_63 rfl (lv_at hl 0 rfl) ?_
    refine x_get (v := .int t_3) 0 0 X hw in_X5_saves_5 rfl rfl rfl 1 (by decide) (List.mem_of_getElem? (i := 1) rfl) rfl rfl dX5_saves_64 ?_
    obtain ⟨v_4, c_5, h⟩ := bd_ok h
    refine x_Vv (As := [.int 0, .int t_3]) (w' := fl [mB G o v_4]) X hw (m_X5_copies (G := G) (l := l) (o := o) c_5) Cut.all 0 0 rfl rfl rfl (cwV 2 hts gX5_saves_X5_copies rfl rfl rfl hd_X5_copies ⟨Nat.le_of_ble_eq_true rfl, Nat.le_of_ble_eq_true rfl⟩) rfl hl.1 rfl (Nat.le_of_ble_eq_true rfl) dX5_saves_67 ⟨Nat.le_of_ble_eq_true rfl, Nat.le_of_ble_eq_true rfl⟩ (fun H locs hw => ?_)
    cases h
    exact x_vret X hw rfl dX5_saves_70
  · have h := br_yes h k_1
    refine lv_iconst (v := 1) hx hb dX5_saves_42 (by decide) ?_
    refine lv_goto (tgt := 47) hx hb dX5_saves_43 (by decide) ?_
    refine lv_isub hx hb dX5_saves_47 ?_
    obtain ⟨t_6, et_6, h⟩ := nm_ok h
    refine x_put (bs' := [mB G o ((M_ro v), t_6, (M_od v), (M_st v), (M_ne v), (M_fd v), (M_tx v), (M_le v), (M_at v), (M_nu v), (M_it v), (M_h v))]) 0 0 X hw in_X5_saves_5 tyX5 tyX5_ok nmX5 rfl rfl rfl 1 (by decide) (List.mem_of_getElem? (i := 1) rfl) rfl rfl rfl rfl (Nat.le_of_ble_eq_true rfl) dX5_saves_48 (by rw [et_6]; rfl) (fun H locs hw => ?_)
    refine lv_aload_n hx hb dX5_saves_51 rfl (lv_at hl 0 rfl) ?_
    refine lv_dup hx hb dX5_saves_52 rfl ?_
    refine x_get (v := .int t_6) 0 0 X hw in_X5_saves_5 rfl rfl rfl 1 (by decide) (List.mem_of_getElem? (i := 1) rfl) rfl rfl dX5_saves_53 ?_
    refine lv_iconst (v := 1) hx hb dX5_saves_56 (by decide) ?_
    refine lv_iadd hx hb dX5_saves_57 ?_
    obtain ⟨t_7, et_7, h⟩ := nm_ok h
    refine x_put (bs' := [mB G o ((M_ro v), t_7, (M_od v), (M_st v), (M_ne v), (M_fd v), (M_tx v), (M_le v), (M_at v), (M_nu v), (M_it v), (M_h v))]) 0 0 X hw in_X5_saves_5 tyX5 tyX5_ok nmX5 rfl rfl rfl 1 (by decide) (List.mem_of_getElem? (i := 1) rfl) rfl rfl rfl rfl (Nat.le_of_ble_eq_true rfl) dX5_saves_58 (by rw [et_7]; rfl) (fun H locs hw => ?_)
    refine lv_aload_n hx hb dX5_saves_61 rfl (lv_at hl 0 rfl) ?_
    refine lv_iconst (v := 0) hx hb dX5_saves_62 (by decide) ?_
    refine lv_aload_n hx hb dX5_saves_63 rfl (lv_at hl 0 rfl) ?_
    refine x_get (v := .int t_7) 0 0 X hw in_X5_saves_5 rfl rfl rfl 1 (by decide) (List.mem_of_getElem? (i := 1) rfl) rfl rfl dX5_saves_64 ?_
    obtain ⟨v_8, c_9, h⟩ := bd_ok h
    refine x_Vv (As := [.int 0, .int t_7]) (w' := fl [mB G o v_8]) X hw (m_X5_copies (G := G) (l := l) (o := o) c_9) Cut.all 0 0 rfl rfl rfl (cwV 2 hts gX5_saves_X5_copies rfl rfl rfl hd_X5_copies ⟨Nat.le_of_ble_eq_true rfl, Nat.le_of_ble_eq_true rfl⟩) rfl hl.1 rfl (Nat.le_of_ble_eq_true rfl) dX5_saves_67 ⟨Nat.le_of_ble_eq_true rfl, Nat.le_of_ble_eq_true rfl⟩ (fun H locs hw => ?_)
    cases h
    exact x_vret X hw rfl dX5_saves_70
noncomputable def f_X5_saves_b2   : Nat → MV → Int32 → Option (MV)
  | 0 => fun _ _ => none
  | n + 1 => fun v x1 =>
    br (5 ≤ x1)
      (f_X5_saves_b29 v)
      (br ((M_sa v) = 5)
         (bd (f_X5_copies v (x1 + 1) x1) fun v_3 =>
          nm (x1 + 1 : Int32) fun t_5 =>
          f_X5_saves_b2 n v_3 t_5)
         (f_X5_saves_b29 v))
set_option maxHeartbeats 4000000 in
set_option maxRecDepth 100000 in
theorem w_X5_saves_b2 {G : GG} {l : Launch} {p : Program} {e : Env} {s : State} {m : MethodId} {args : Array Value} {below : List Frame} {meth : Method} {c : Code} {A : Nat → Prop} {o : Nat → Nat}  {zv : MV}   (X : Cx p s m args meth c cX5_saves 2 none wsX5_saves RX5 G A)  :
    ∀ (n : Nat) (v : MV) (x1 : Int32) (H : Heap) (locs : List Loc) (ls : Array Slot), f_X5_saves_b2 n v x1 = some (zv) → Wd G A s H locs (fl [mB G o v]) → lv_has ls 2 [(0, .ref (o 0)), (1, .int x1)] → W p l e rX5_saves s m args below meth c H locs 0 0 (MQ below (Qv G A (fl [mB G o zv])) args s 0 0 A) (F0 m 2 ls []) := by
  obtain ⟨⟨hx, hb, hml, hown, hts⟩, hK, hr, hlk, hA⟩ := id X
  intro n
  induction n with
  | zero =>
    intro v x1 H locs ls h
    rw [f_X5_saves_b2] at h
    cases h
  | succ n ih =>
    intro v x1 H locs ls h hw hl
    rw [f_X5_saves_b2] at h
    refine lv_iload_n hx hb dX5_saves_2 rfl (lv_at hl 1 rfl) ?_
    refine lv_iconst (v := 5) hx hb dX5_saves_3 (by decide) ?_
    refine lv_icmp_ge (tgt := 29) hx hb dX5_saves_4 (by decide) (fun k_1 => ?_) (fun k_1 => ?_)
    · have h := br_yes h k_1
      exact w_X5_saves_b29 X v _ _ _ h hw (lv_sub hl [0] rfl)
    · have h := br_no h k_1
      refine lv_aload_n hx hb dX5_saves_7 rfl (lv_at hl 0 rfl) ?_
      refine x_get (v := .int (M_sa v)) 0 0 X hw in_X5_saves_5 rfl rfl rfl 1 (by decide) (List.mem_of_getElem? (i := 1) rfl) rfl rfl dX5_saves_8 ?_
      refine lv_iconst (v := 5) hx hb dX5_saves_11 (by decide) ?_
      refine lv_icmp_ne (tgt := 29) hx hb dX5_saves_12 (by decide) (fun k_2 => ?_) (fun k_2 => ?_)
      · have h := br_no h k_2
        exact w_X5_saves_b29 X v _ _ _ h hw (lv_sub hl [0] rfl)
      · have h := br_yes h k_2
        refine lv_aload_n hx hb dX5_saves_15 rfl (lv_at hl 0 rfl) ?_
        refine lv_iload_n hx hb dX5_saves_16 rfl (lv_at hl 1 rfl) ?_
        refine lv_iconst (v := 1) hx hb dX5_saves_17 (by decide) ?_
        refine lv_iadd hx hb dX5_saves_18 ?_
        refine lv_iload_n hx hb dX5_saves_19 rfl (lv_at hl 1 rfl) ?_
        obtain ⟨v_3, c_4, h⟩ := bd_ok h
        refine x_Vv (As := [.int (x1 + 1), .int x1]) (w' := fl [mB G o v_3]) X hw (m_X5_copies (G := G) (l := l) (o := o) c_4) Cut.all 0 0 rfl rfl rfl (cwV 2 hts gX5_saves_X5_copies rfl rfl rfl hd_X5_copies ⟨Nat.le_of_ble_eq_true rfl, Nat.le_of_ble_eq_true rfl⟩) rfl hl.1 rfl (Nat.le_of_ble_eq_true rfl) dX5_saves_20 ⟨Nat.le_of_ble_eq_true rfl, Nat.le_of_ble_eq_true rfl⟩ (fun H locs hw => ?_)
        obtain ⟨t_5, et_5, h⟩ := nm_ok h
        refine lv_iinc (v := t_5) (lv' := [(1, .int t_5), (0, .ref (o 0))]) hx hb dX5_saves_23 hl (k := 1) rfl (by rw [et_5]; rfl) (by decide) rfl (fun ls hl => ?_)
        refine lv_goto (tgt := 2) hx hb dX5_saves_26 (by decide) ?_
        exact ih v_3 t_5 _ _ _ h hw (lv_sub hl [1, 0] rfl)
noncomputable def f_X5_saves  (v : MV)  : Option (MV) :=
  f_X5_saves_b2 FU v 1
set_option maxHeartbeats 4000000 in
set_option maxRecDepth 100000 in
theorem m_X5_saves {G : GG} {l : Launch} {o : Nat → Nat} {v : MV}  {zv : MV} (h : f_X5_saves v = some (zv)) : Cv G l yX5_saves wsX5_saves rX5_saves [.ref (o 0)] (fl [mB G o v]) (fl [mB G o zv]) := by
  refine Cv.intro cX5_saves 2 none RX5 (by decide) rfl rfl (Nat.le_of_ble_eq_true rfl) ?_
  intro p e s m below meth c A ls X hw hl
  obtain ⟨⟨hx, hb, hml, hown, hts⟩, hK, hr, hlk, hA⟩ := id X
  unfold f_X5_saves at h
  have hl : lv_has ls 2 [(0, .ref (o 0))] := hl
  refine lv_iconst (v := 1) hx hb dX5_saves_0 (by decide) ?_
  refine lv_istore_n (lv' := [(1, .int 1), (0, .ref (o 0))]) hx hb dX5_saves_1 rfl hl (by decide) rfl (fun ls hl => ?_)
  exact w_X5_saves_b2 X FU v 1 _ _ _ h hw (lv_sub hl [1, 0] rfl)

def rX5_of : Room := { frames := 0, cells := 0, slots := 0, locals := 0 }
theorem hd_X5_of : yX5_of.cls = RX5 ∧ yX5_of.cls ≠ "java/lang/invoke/MethodHandle" ∧ yX5_of.cls ≠ "java/lang/invoke/VarHandle" ∧ (parseMethodDescriptor yX5_of.desc).map (fun d => d.parameters.length) = some 2 := by decide +kernel
theorem in_X5_of_5 : ∀ w ∈ u_ws RX5 TX5 12, w ∈ wsX5_of := fun w h => (List.mem_cons_of_mem _ (List.mem_append_right _ h))
noncomputable def f_X5_of  (v : MV) (x1 : Int32) (x2 : Int32) : Option (Int32) :=
  nm (((4 + (4 * x1)) + x2) : Int32) fun t_1 =>
  ck (vp_in t_1 644) <|
  some (((M_ro v) t_1.toNatClampNeg))
set_option maxHeartbeats 4000000 in
set_option maxRecDepth 100000 in
theorem m_X5_of {G : GG} {l : Launch} {o : Nat → Nat} {v : MV} {x1 : Int32} {x2 : Int32} {r : Int32}  (h : f_X5_of v x1 x2 = some (r)) : Ci G l yX5_of wsX5_of rX5_of [.ref (o 0), .int x1, .int x2] (fl [mB G o v]) r (fl [mB G o v]) := by
  refine Ci.intro cX5_of 3 (some .int) RX5 (by decide) rfl rfl (Nat.le_of_ble_eq_true rfl) ?_
  intro p e s m below meth c A ls X hw hl
  obtain ⟨⟨hx, hb, hml, hown, hts⟩, hK, hr, hlk, hA⟩ := id X
  unfold f_X5_of at h
  have hl : lv_has ls 3 [(0, .ref (o 0)), (1, .int x1), (2, .int x2)] := hl
  refine lv_aload_n hx hb dX5_of_0 rfl (lv_at hl 0 rfl) ?_
  refine x_get (v := .ref (o 1)) 0 0 X hw in_X5_of_5 rfl rfl rfl 0 (by decide) (List.mem_of_getElem? (i := 1) rfl) rfl rfl dX5_of_1 ?_
  refine lv_iconst (v := 4) hx hb dX5_of_4 (by decide) ?_
  refine lv_iconst (v := 4) hx hb dX5_of_5 (by decide) ?_
  refine lv_iload_n hx hb dX5_of_6 rfl (lv_at hl 1 rfl) ?_
  refine lv_imul hx hb dX5_of_7 ?_
  refine lv_iadd hx hb dX5_of_8 ?_
  refine lv_iload_n hx hb dX5_of_9 rfl (lv_at hl 2 rfl) ?_
  refine lv_iadd hx hb dX5_of_10 ?_
  obtain ⟨t_1, et_1, h⟩ := nm_ok h
  rw [← et_1]
  obtain ⟨k_2, h⟩ := ck_ok h
  refine x_iald (f := (M_ro v)) 0 1 X hw rfl rfl k_2 dX5_of_11 ?_
  cases h
  exact x_iret X (vp_nar_int _) hw rfl rfl dX5_of_12

def rX5_isSection : Room := { frames := 1, cells := 0, slots := 0, locals := 22 }
theorem hd_X5_isSection : yX5_isSection.cls = RX5 ∧ yX5_isSection.cls ≠ "java/lang/invoke/MethodHandle" ∧ yX5_isSection.cls ≠ "java/lang/invoke/VarHandle" ∧ (parseMethodDescriptor yX5_isSection.desc).map (fun d => d.parameters.length) = some 1 := by decide +kernel
theorem in_X5_isSection_5 : ∀ w ∈ u_ws RX5 TX5 12, w ∈ wsX5_isSection := fun w h => (List.mem_cons_of_mem _ (List.mem_append_right _ h))
noncomputable def f_X5_isSection  (v : MV) (x1 : Int32) : Option (Int32) :=
  ck (vp_in 0 644) <|
  bd (f_X5_in x1 0 (((M_ro v) (0 : Int32).toNatClampNeg) - 1)) fun r_2 =>
  ck (r_2 = 0 ∨ r_2 = 1) <|
  some (r_2)
set_option maxHeartbeats 4000000 in
set_option maxRecDepth 100000 in
theorem m_X5_isSection {G : GG} {l : Launch} {o : Nat → Nat} {v : MV} {x1 : Int32} {r : Int32}  (h : f_X5_isSection v x1 = some (r)) : Ci G l yX5_isSection wsX5_isSection rX5_isSection [.ref (o 0), .int x1] (fl [mB G o v]) r (fl [mB G o v]) := by
  refine Ci.intro cX5_isSection 2 (some .boolean) RX5 (by decide) rfl rfl (Nat.le_of_ble_eq_true rfl) ?_
  intro p e s m below meth c A ls X hw hl
  obtain ⟨⟨hx, hb, hml, hown, hts⟩, hK, hr, hlk, hA⟩ := id X
  unfold f_X5_isSection at h
  have hl : lv_has ls 2 [(0, .ref (o 0)), (1, .int x1)] := hl
  refine lv_iload_n hx hb dX5_isSection_0 rfl (lv_at hl 1 rfl) ?_
  refine lv_iconst (v := 0) hx hb dX5_isSection_1 (by decide) ?_
  refine lv_aload_n hx hb dX5_isSection_2 rfl (lv_at hl 0 rfl) ?_
  refine x_get (v := .ref (o 1)) 0 0 X hw in_X5_isSection_5 rfl rfl rfl 0 (by decide) (List.mem_of_getElem? (i := 1) rfl) rfl rfl dX5_isSection_3 ?_
  refine lv_iconst (v := 0) hx hb dX5_isSection_6 (by decide) ?_
  obtain ⟨k_1, h⟩ := ck_ok h
  refine x_iald (f := (M_ro v)) 0 1 X hw rfl rfl k_1 dX5_isSection_7 ?_
  refine lv_iconst (v := 1) hx hb dX5_isSection_8 (by decide) ?_
  refine lv_isub hx hb dX5_isSection_9 ?_
  obtain ⟨r_2, c_3, h⟩ := bd_ok h
  refine x_Si (As := [.int x1, .int 0, .int (((M_ro v) (0 : Int32).toNatClampNeg) - 1)]) (w' := fl [mB G o v]) X hw (m_X5_in (G := G) (l := l) c_3) Cut.nil (va_cwS 3 hts gX5_isSection_X5_in rfl rfl rfl hd_X5_in.2 ⟨Nat.le_of_ble_eq_true rfl, Nat.le_of_ble_eq_true rfl⟩) rfl hl.1 rfl (Nat.le_of_ble_eq_true rfl) dX5_isSection_10 ⟨Nat.le_of_ble_eq_true rfl, Nat.le_of_ble_eq_true rfl⟩ (fun H locs hw => ?_)
  obtain ⟨k_4, h⟩ := ck_ok h
  cases h
  exact x_iret X (narz k_4) hw rfl rfl dX5_isSection_13

def rX5_isJoint : Room := { frames := 1, cells := 0, slots := 0, locals := 22 }
theorem hd_X5_isJoint : yX5_isJoint.cls = RX5 ∧ yX5_isJoint.cls ≠ "java/lang/invoke/MethodHandle" ∧ yX5_isJoint.cls ≠ "java/lang/invoke/VarHandle" ∧ (parseMethodDescriptor yX5_isJoint.desc).map (fun d => d.parameters.length) = some 1 := by decide +kernel
theorem in_X5_isJoint_5 : ∀ w ∈ u_ws RX5 TX5 12, w ∈ wsX5_isJoint := fun w h => (List.mem_cons_of_mem _ (List.mem_append_right _ h))
noncomputable def f_X5_isJoint  (v : MV) (x1 : Int32) : Option (Int32) :=
  ck (vp_in 1 644) <|
  bd (f_X5_in x1 0 (((M_ro v) (1 : Int32).toNatClampNeg) - 1)) fun r_2 =>
  ck (r_2 = 0 ∨ r_2 = 1) <|
  some (r_2)
set_option maxHeartbeats 4000000 in
set_option maxRecDepth 100000 in
theorem m_X5_isJoint {G : GG} {l : Launch} {o : Nat → Nat} {v : MV} {x1 : Int32} {r : Int32}  (h : f_X5_isJoint v x1 = some (r)) : Ci G l yX5_isJoint wsX5_isJoint rX5_isJoint [.ref (o 0), .int x1] (fl [mB G o v]) r (fl [mB G o v]) := by
  refine Ci.intro cX5_isJoint 2 (some .boolean) RX5 (by decide) rfl rfl (Nat.le_of_ble_eq_true rfl) ?_
  intro p e s m below meth c A ls X hw hl
  obtain ⟨⟨hx, hb, hml, hown, hts⟩, hK, hr, hlk, hA⟩ := id X
  unfold f_X5_isJoint at h
  have hl : lv_has ls 2 [(0, .ref (o 0)), (1, .int x1)] := hl
  refine lv_iload_n hx hb dX5_isJoint_0 rfl (lv_at hl 1 rfl) ?_
  refine lv_iconst (v := 0) hx hb dX5_isJoint_1 (by decide) ?_
  refine lv_aload_n hx hb dX5_isJoint_2 rfl (lv_at hl 0 rfl) ?_
  refine x_get (v := .ref (o 1)) 0 0 X hw in_X5_isJoint_5 rfl rfl rfl 0 (by decide) (List.mem_of_getElem? (i := 1) rfl) rfl rfl dX5_isJoint_3 ?_
  refine lv_iconst (v := 1) hx hb dX5_isJoint_6 (by decide) ?_
  obtain ⟨k_1, h⟩ := ck_ok h
  refine x_iald (f := (M_ro v)) 0 1 X hw rfl rfl k_1 dX5_isJoint_7 ?_
  refine lv_iconst (v := 1) hx hb dX5_isJoint_8 (by decide) ?_
  refine lv_isub hx hb dX5_isJoint_9 ?_
  obtain ⟨r_2, c_3, h⟩ := bd_ok h
  refine x_Si (As := [.int x1, .int 0, .int (((M_ro v) (1 : Int32).toNatClampNeg) - 1)]) (w' := fl [mB G o v]) X hw (m_X5_in (G := G) (l := l) c_3) Cut.nil (va_cwS 3 hts gX5_isJoint_X5_in rfl rfl rfl hd_X5_in.2 ⟨Nat.le_of_ble_eq_true rfl, Nat.le_of_ble_eq_true rfl⟩) rfl hl.1 rfl (Nat.le_of_ble_eq_true rfl) dX5_isJoint_10 ⟨Nat.le_of_ble_eq_true rfl, Nat.le_of_ble_eq_true rfl⟩ (fun H locs hw => ?_)
  obtain ⟨k_4, h⟩ := ck_ok h
  cases h
  exact x_iret X (narz k_4) hw rfl rfl dX5_isJoint_13

def rX5_areNeighbours : Room := { frames := 0, cells := 0, slots := 0, locals := 0 }
theorem hd_X5_areNeighbours : yX5_areNeighbours.cls = RX5 ∧ yX5_areNeighbours.cls ≠ "java/lang/invoke/MethodHandle" ∧ yX5_areNeighbours.cls ≠ "java/lang/invoke/VarHandle" ∧ (parseMethodDescriptor yX5_areNeighbours.desc).map (fun d => d.parameters.length) = some 2 := by decide +kernel
theorem in_X5_areNeighbours_5 : ∀ w ∈ u_ws RX5 TX5 12, w ∈ wsX5_areNeighbours := fun w h => (List.mem_cons_of_mem _ (List.mem_append_right _ h))
noncomputable def f_X5_areNeighbours_b74  (k5 : Int32 → Int32 → Option (Int32)) (v : MV) (x1 : Int32) (x2 : Int32) (x4 : Int32) : Option (Int32) :=
  nm (x4 + 1 : Int32) fun t_1 =>
  k5 1 t_1
set_option maxHeartbeats 4000000 in
set_option maxRecDepth 100000 in
theorem w_X5_areNeighbours_b74 {G : GG} {l : Launch} {p : Program} {e : Env} {s : State} {m : MethodId} {args : Array Value} {below : List Frame} {meth : Method} {c : Code} {A : Nat → Prop} {o : Nat → Nat} {v : MV} {x1 : Int32} {x2 : Int32} {r : Int32}   {k5 : Int32 → Int32 → Option (Int32)} (X : Cx p s m args meth c cX5_areNeighbours 7 (some .boolean) wsX5_areNeighbours RX5 G A) (hk5 : ∀ (x3 : Int32) (x4 : Int32) (H : Heap) (locs : List Loc) (ls : Array Slot), k5 x3 x4 = some (r) → Wd G A s H locs (fl [mB G o v]) → lv_has ls 7 [(0, .ref (o 0)), (1, .int x1), (2, .int x2), (3, .int x3), (4, .int x4)] → W p l e rX5_areNeighbours s m args below meth c H locs 0 0 (MQ below (Qi G A r (fl [mB G o v])) args s 0 0 A) (F0 m 5 ls [])) :
    ∀ (x4 : Int32) (H : Heap) (locs : List Loc) (ls : Array Slot), f_X5_areNeighbours_b74 k5 v x1 x2 x4 = some (r) → Wd G A s H locs (fl [mB G o v]) → lv_has ls 7 [(0, .ref (o 0)), (1, .int x1), (2, .int x2), (4, .int x4)] → W p l e rX5_areNeighbours s m args below meth c H locs 0 0 (MQ below (Qi G A r (fl [mB G o v])) args s 0 0 A) (F0 m 74 ls []) := by
  obtain ⟨⟨hx, hb, hml, hown, hts⟩, hK, hr, hlk, hA⟩ := id X
  intro x4 H locs ls h hw hl
  unfold f_X5_areNeighbours_b74 at h
  refine lv_iconst (v := 1) hx hb dX5_areNeighbours_74 (by decide) ?_
  refine lv_goto (tgt := 79) hx hb dX5_areNeighbours_75 (by decide) ?_
  refine lv_istore_n (lv' := [(3, .int 1), (0, .ref (o 0)), (1, .int x1), (2, .int x2), (4, .int x4)]) hx hb dX5_areNeighbours_79 rfl hl (by decide) rfl (fun ls hl => ?_)
  obtain ⟨t_1, et_1, h⟩ := nm_ok h
  refine lv_iinc (v := t_1) (lv' := [(4, .int t_1), (3, .int 1), (0, .ref (o 0)), (1, .int x1), (2, .int x2)]) hx hb dX5_areNeighbours_80 hl (k := 4) rfl (by rw [et_1]; rfl) (by decide) rfl (fun ls hl => ?_)
  refine lv_goto (tgt := 5) hx hb dX5_areNeighbours_83 (by decide) ?_
  exact hk5 1 t_1 _ _ _ h hw (lv_sub hl [2, 3, 4, 1, 0] rfl)
noncomputable def f_X5_areNeighbours_b78  (k5 : Int32 → Int32 → Option (Int32)) (v : MV) (x1 : Int32) (x2 : Int32) (x4 : Int32) : Option (Int32) :=
  nm (x4 + 1 : Int32) fun t_1 =>
  k5 0 t_1
set_option maxHeartbeats 4000000 in
set_option maxRecDepth 100000 in
theorem w_X5_areNeighbours_b78 {G : GG} {l : Launch} {p : Program} {e : Env} {s : State} {m : MethodId} {args : Array Value} {below : List Frame} {meth : Method} {c : Code} {A : Nat → Prop} {o : Nat → Nat} {v : MV} {x1 : Int32} {x2 : Int32} {r : Int32}   {k5 : Int32 → Int32 → Option (Int32)} (X : Cx p s m args meth c cX5_areNeighbours 7 (some .boolean) wsX5_areNeighbours RX5 G A) (hk5 : ∀ (x3 : Int32) (x4 : Int32) (H : Heap) (locs : List Loc) (ls : Array Slot), k5 x3 x4 = some (r) → Wd G A s H locs (fl [mB G o v]) → lv_has ls 7 [(0, .ref (o 0)), (1, .int x1), (2, .int x2), (3, .int x3), (4, .int x4)] → W p l e rX5_areNeighbours s m args below meth c H locs 0 0 (MQ below (Qi G A r (fl [mB G o v])) args s 0 0 A) (F0 m 5 ls [])) :
    ∀ (x4 : Int32) (H : Heap) (locs : List Loc) (ls : Array Slot), f_X5_areNeighbours_b78 k5 v x1 x2 x4 = some (r) → Wd G A s H locs (fl [mB G o v]) → lv_has ls 7 [(0, .ref (o 0)), (1, .int x1), (2, .int x2), (4, .int x4)] → W p l e rX5_areNeighbours s m args below meth c H locs 0 0 (MQ below (Qi G A r (fl [mB G o v])) args s 0 0 A) (F0 m 78 ls []) := by
  obtain ⟨⟨hx, hb, hml, hown, hts⟩, hK, hr, hlk, hA⟩ := id X
  intro x4 H locs ls h hw hl
  unfold f_X5_areNeighbours_b78 at h
  refine lv_iconst (v := 0) hx hb dX5_areNeighbours_78 (by decide) ?_
  refine lv_istore_n (lv' := [(3, .int 0), (0, .ref (o 0)), (1, .int x1), (2, .int x2), (4, .int x4)]) hx hb dX5_areNeighbours_79 rfl hl (by decide) rfl (fun ls hl => ?_)
  obtain ⟨t_1, et_1, h⟩ := nm_ok h
  refine lv_iinc (v := t_1) (lv' := [(4, .int t_1), (3, .int 0), (0, .ref (o 0)), (1, .int x1), (2, .int x2)]) hx hb dX5_areNeighbours_80 hl (k := 4) rfl (by rw [et_1]; rfl) (by decide) rfl (fun ls hl => ?_)
  refine lv_goto (tgt := 5) hx hb dX5_areNeighbours_83 (by decide) ?_
  exact hk5 0 t_1 _ _ _ h hw (lv_sub hl [2, 3, 4, 1, 0] rfl)
noncomputable def f_X5_areNeighbours_b62  (k5 : Int32 → Int32 → Option (Int32)) (v : MV) (x1 : Int32) (x2 : Int32) (x4 : Int32) (x5 : Int32) (x6 : Int32) : Option (Int32) :=
  br (x5 = x2)
    (br (x6 = x1)
       (f_X5_areNeighbours_b74 k5 v x1 x2 x4)
       (f_X5_areNeighbours_b78 k5 v x1 x2 x4))
    (f_X5_areNeighbours_b78 k5 v x1 x2 x4)
set_option maxHeartbeats 4000000 in
set_option maxRecDepth 100000 in
theorem w_X5_areNeighbours_b62 {G : GG} {l : Launch} {p : Program} {e : Env} {s : State} {m : MethodId} {args : Array Value} {below : List Frame} {meth : Method} {c : Code} {A : Nat → Prop} {o : Nat → Nat} {v : MV} {x1 : Int32} {x2 : Int32} {r : Int32}   {k5 : Int32 → Int32 → Option (Int32)} (X : Cx p s m args meth c cX5_areNeighbours 7 (some .boolean) wsX5_areNeighbours RX5 G A) (hk5 : ∀ (x3 : Int32) (x4 : Int32) (H : Heap) (locs : List Loc) (ls : Array Slot), k5 x3 x4 = some (r) → Wd G A s H locs (fl [mB G o v]) → lv_has ls 7 [(0, .ref (o 0)), (1, .int x1), (2, .int x2), (3, .int x3), (4, .int x4)] → W p l e rX5_areNeighbours s m args below meth c H locs 0 0 (MQ below (Qi G A r (fl [mB G o v])) args s 0 0 A) (F0 m 5 ls [])) :
    ∀ (x4 : Int32) (x5 : Int32) (x6 : Int32) (H : Heap) (locs : List Loc) (ls : Array Slot), f_X5_areNeighbours_b62 k5 v x1 x2 x4 x5 x6 = some (r) → Wd G A s H locs (fl [mB G o v]) → lv_has ls 7 [(0, .ref (o 0)), (1, .int x1), (2, .int x2), (4, .int x4), (5, .int x5), (6, .int x6)] → W p l e rX5_areNeighbours s m args below meth c H locs 0 0 (MQ below (Qi G A r (fl [mB G o v])) args s 0 0 A) (F0 m 62 ls []) := by
  obtain ⟨⟨hx, hb, hml, hown, hts⟩, hK, hr, hlk, hA⟩ := id X
  intro x4 x5 x6 H locs ls h hw hl
  unfold f_X5_areNeighbours_b62 at h
  refine lv_iload hx hb dX5_areNeighbours_62 (lv_at hl 4 rfl) ?_
  refine lv_iload_n hx hb dX5_areNeighbours_64 rfl (lv_at hl 2 rfl) ?_
  refine lv_icmp_ne (tgt := 78) hx hb dX5_areNeighbours_65 (by decide) (fun k_1 => ?_) (fun k_1 => ?_)
  · have h := br_no h k_1
    exact w_X5_areNeighbours_b78 X hk5 x4 _ _ _ h hw (lv_sub hl [0, 1, 2, 3] rfl)
  · have h := br_yes h k_1
    refine lv_iload hx hb dX5_areNeighbours_68 (lv_at hl 5 rfl) ?_
    refine lv_iload_n hx hb dX5_areNeighbours_70 rfl (lv_at hl 1 rfl) ?_
    refine lv_icmp_ne (tgt := 78) hx hb dX5_areNeighbours_71 (by decide) (fun k_2 => ?_) (fun k_2 => ?_)
    · have h := br_no h k_2
      exact w_X5_areNeighbours_b78 X hk5 x4 _ _ _ h hw (lv_sub hl [0, 1, 2, 3] rfl)
    · have h := br_yes h k_2
      exact w_X5_areNeighbours_b74 X hk5 x4 _ _ _ h hw (lv_sub hl [0, 1, 2, 3] rfl)
noncomputable def f_X5_areNeighbours_b5  (v : MV) (x1 : Int32) (x2 : Int32) : Nat → Int32 → Int32 → Option (Int32)
  | 0 => fun _ _ => none
  | n + 1 => fun x3 x4 =>
    ck (vp_in 1 644) <|
    br (((M_ro v) (1 : Int32).toNatClampNeg) ≤ x4)
      (ck (x3 = 0 ∨ x3 = 1) <|
       some (x3))
      (nm ((52 + (2 * x4)) : Int32) fun t_4 =>
       ck (vp_in t_4 644) <|
       nm (((M_ro v) t_4.toNatClampNeg) : Int32) fun t_6 =>
       nm (((52 + (2 * x4)) + 1) : Int32) fun t_7 =>
       ck (vp_in t_7 644) <|
       nm (((M_ro v) t_7.toNatClampNeg) : Int32) fun t_9 =>
       br (x3 = 0)
         (br (t_6 = x1)
            (br (t_9 = x2)
               (f_X5_areNeighbours_b74 (f_X5_areNeighbours_b5 v x1 x2 n) v x1 x2 x4)
               (f_X5_areNeighbours_b62 (f_X5_areNeighbours_b5 v x1 x2 n) v x1 x2 x4 t_6 t_9))
            (f_X5_areNeighbours_b62 (f_X5_areNeighbours_b5 v x1 x2 n) v x1 x2 x4 t_6 t_9))
         (f_X5_areNeighbours_b74 (f_X5_areNeighbours_b5 v x1 x2 n) v x1 x2 x4))
set_option maxHeartbeats 4000000 in
set_option maxRecDepth 100000 in
theorem w_X5_areNeighbours_b5 {G : GG} {l : Launch} {p : Program} {e : Env} {s : State} {m : MethodId} {args : Array Value} {below : List Frame} {meth : Method} {c : Code} {A : Nat → Prop} {o : Nat → Nat} {v : MV} {x1 : Int32} {x2 : Int32} {r : Int32}    (X : Cx p s m args meth c cX5_areNeighbours 7 (some .boolean) wsX5_areNeighbours RX5 G A)  :
    ∀ (n : Nat) (x3 : Int32) (x4 : Int32) (H : Heap) (locs : List Loc) (ls : Array Slot), f_X5_areNeighbours_b5 v x1 x2 n x3 x4 = some (r) → Wd G A s H locs (fl [mB G o v]) → lv_has ls 7 [(0, .ref (o 0)), (1, .int x1), (2, .int x2), (3, .int x3), (4, .int x4)] → W p l e rX5_areNeighbours s m args below meth c H locs 0 0 (MQ below (Qi G A r (fl [mB G o v])) args s 0 0 A) (F0 m 5 ls []) := by
  obtain ⟨⟨hx, hb, hml, hown, hts⟩, hK, hr, hlk, hA⟩ := id X
  intro n
  induction n with
  | zero =>
    intro x3 x4 H locs ls h
    rw [f_X5_areNeighbours_b5] at h
    cases h
  | succ n ih =>
    intro x3 x4 H locs ls h hw hl
    rw [f_X5_areNeighbours_b5] at h
    refine lv_iload hx hb dX5_areNeighbours_5 (lv_at hl 4 rfl) ?_
    refine lv_aload_n hx hb dX5_areNeighbours_7 rfl (lv_at hl 0 rfl) ?_
    refine x_get (v := .ref (o 1)) 0 0 X hw in_X5_areNeighbours_5 rfl rfl rfl 0 (by decide) (List.mem_of_getElem? (i := 1) rfl) rfl rfl dX5_areNeighbours_8 ?_
    refine lv_iconst (v := 1) hx hb dX5_areNeighbours_11 (by decide) ?_
    obtain ⟨k_1, h⟩ := ck_ok h
    refine x_iald (f := (M_ro v)) 0 1 X hw rfl rfl k_1 dX5_areNeighbours_12 ?_
    refine lv_icmp_ge (tgt := 86) hx hb dX5_areNeighbours_13 (by decide) (fun k_2 => ?_) (fun k_2 => ?_)
    · have h := br_yes h k_2
      refine lv_iload_n hx hb dX5_areNeighbours_86 rfl (lv_at hl 3 rfl) ?_
      obtain ⟨k_3, h⟩ := ck_ok h
      cases h
      exact x_iret X (narz k_3) hw rfl rfl dX5_areNeighbours_87
    · have h := br_no h k_2
      refine lv_aload_n hx hb dX5_areNeighbours_16 rfl (lv_at hl 0 rfl) ?_
      refine x_get (v := .ref (o 1)) 0 0 X hw in_X5_areNeighbours_5 rfl rfl rfl 0 (by decide) (List.mem_of_getElem? (i := 1) rfl) rfl rfl dX5_areNeighbours_17 ?_
      refine lv_bipush (v := 52) hx hb dX5_areNeighbours_20 (by decide) ?_
      refine lv_iconst (v := 2) hx hb dX5_areNeighbours_22 (by decide) ?_
      refine lv_iload hx hb dX5_areNeighbours_23 (lv_at hl 4 rfl) ?_
      refine lv_imul hx hb dX5_areNeighbours_25 ?_
      refine lv_iadd hx hb dX5_areNeighbours_26 ?_
      obtain ⟨t_4, et_4, h⟩ := nm_ok h
      rw [← et_4]
      obtain ⟨k_5, h⟩ := ck_ok h
      refine x_iald (f := (M_ro v)) 0 1 X hw rfl rfl k_5 dX5_areNeighbours_27 ?_
      obtain ⟨t_6, et_6, h⟩ := nm_ok h
      refine lv_istore (lv' := [(5, .int t_6), (0, .ref (o 0)), (1, .int x1), (2, .int x2), (3, .int x3), (4, .int x4)]) hx hb dX5_areNeighbours_28 hl (by decide) (by rw [et_6]; rfl) (fun ls hl => ?_)
      refine lv_aload_n hx hb dX5_areNeighbours_30 rfl (lv_at hl 1 rfl) ?_
      refine x_get (v := .ref (o 1)) 0 0 X hw in_X5_areNeighbours_5 rfl rfl rfl 0 (by decide) (List.mem_of_getElem? (i := 1) rfl) rfl rfl dX5_areNeighbours_31 ?_
      refine lv_bipush (v := 52) hx hb dX5_areNeighbours_34 (by decide) ?_
      refine lv_iconst (v := 2) hx hb dX5_areNeighbours_36 (by decide) ?_
      refine lv_iload hx hb dX5_areNeighbours_37 (lv_at hl 5 rfl) ?_
      refine lv_imul hx hb dX5_areNeighbours_39 ?_
      refine lv_iadd hx hb dX5_areNeighbours_40 ?_
      refine lv_iconst (v := 1) hx hb dX5_areNeighbours_41 (by decide) ?_
      refine lv_iadd hx hb dX5_areNeighbours_42 ?_
      obtain ⟨t_7, et_7, h⟩ := nm_ok h
      rw [← et_7]
      obtain ⟨k_8, h⟩ := ck_ok h
      refine x_iald (f := (M_ro v)) 0 1 X hw rfl rfl k_8 dX5_areNeighbours_43 ?_
      obtain ⟨t_9, et_9, h⟩ := nm_ok h
      refine lv_istore (lv' := [(6, .int t_9), (5, .int t_6), (0, .ref (o 0)), (1, .int x1), (2, .int x2), (3, .int x3), (4, .int x4)]) hx hb dX5_areNeighbours_44 hl (by decide) (by rw [et_9]; rfl) (fun ls hl => ?_)
      refine lv_iload_n hx hb dX5_areNeighbours_46 rfl (lv_at hl 5 rfl) ?_
      refine lv_if_ne (tgt := 74) hx hb dX5_areNeighbours_47 (by decide) (fun k_10 => ?_) (fun k_10 => ?_)
      · have h := br_no h k_10
        exact w_X5_areNeighbours_b74 X ih x4 _ _ _ h hw (lv_sub hl [2, 3, 4, 6] rfl)
      · have h := br_yes h k_10
        refine lv_iload hx hb dX5_areNeighbours_50 (lv_at hl 1 rfl) ?_
        refine lv_iload_n hx hb dX5_areNeighbours_52 rfl (lv_at hl 3 rfl) ?_
        refine lv_icmp_ne (tgt := 62) hx hb dX5_areNeighbours_53 (by decide) (fun k_11 => ?_) (fun k_11 => ?_)
        · have h := br_no h k_11
          exact w_X5_areNeighbours_b62 X ih x4 t_6 t_9 _ _ _ h hw (lv_sub hl [2, 3, 4, 6, 1, 0] rfl)
        · have h := br_yes h k_11
          refine lv_iload hx hb dX5_areNeighbours_56 (lv_at hl 0 rfl) ?_
          refine lv_iload_n hx hb dX5_areNeighbours_58 rfl (lv_at hl 4 rfl) ?_
          refine lv_icmp_eq (tgt := 74) hx hb dX5_areNeighbours_59 (by decide) (fun k_12 => ?_) (fun k_12 => ?_)
          · have h := br_yes h k_12
            exact w_X5_areNeighbours_b74 X ih x4 _ _ _ h hw (lv_sub hl [2, 3, 4, 6] rfl)
          · have h := br_no h k_12
            exact w_X5_areNeighbours_b62 X ih x4 t_6 t_9 _ _ _ h hw (lv_sub hl [2, 3, 4, 6, 1, 0] rfl)
noncomputable def f_X5_areNeighbours  (v : MV) (x1 : Int32) (x2 : Int32) : Option (Int32) :=
  f_X5_areNeighbours_b5 v x1 x2 FU 0 0
set_option maxHeartbeats 4000000 in
set_option maxRecDepth 100000 in
theorem m_X5_areNeighbours {G : GG} {l : Launch} {o : Nat → Nat} {v : MV} {x1 : Int32} {x2 : Int32} {r : Int32}  (h : f_X5_areNeighbours v x1 x2 = some (r)) : Ci G l yX5_areNeighbours wsX5_areNeighbours rX5_areNeighbours [.ref (o 0), .int x1, .int x2] (fl [mB G o v]) r (fl [mB G o v]) := by
  refine Ci.intro cX5_areNeighbours 7 (some .boolean) RX5 (by decide) rfl rfl (Nat.le_of_ble_eq_true rfl) ?_
  intro p e s m below meth c A ls X hw hl
  obtain ⟨⟨hx, hb, hml, hown, hts⟩, hK, hr, hlk, hA⟩ := id X
  unfold f_X5_areNeighbours at h
  have hl : lv_has ls 7 [(0, .ref (o 0)), (1, .int x1), (2, .int x2)] := hl
  refine lv_iconst (v := 0) hx hb dX5_areNeighbours_0 (by decide) ?_
  refine lv_istore_n (lv' := [(3, .int 0), (0, .ref (o 0)), (1, .int x1), (2, .int x2)]) hx hb dX5_areNeighbours_1 rfl hl (by decide) rfl (fun ls hl => ?_)
  refine lv_iconst (v := 0) hx hb dX5_areNeighbours_2 (by decide) ?_
  refine lv_istore (lv' := [(4, .int 0), (3, .int 0), (0, .ref (o 0)), (1, .int x1), (2, .int x2)]) hx hb dX5_areNeighbours_3 hl (by decide) rfl (fun ls hl => ?_)
  exact w_X5_areNeighbours_b5 X FU 0 0 _ _ _ h hw (lv_sub hl [2, 3, 4, 1, 0] rfl)

def rX5_lays : Room := { frames := 0, cells := 0, slots := 0, locals := 0 }
theorem hd_X5_lays : yX5_lays.cls = RX5 ∧ yX5_lays.cls ≠ "java/lang/invoke/MethodHandle" ∧ yX5_lays.cls ≠ "java/lang/invoke/VarHandle" ∧ (parseMethodDescriptor yX5_lays.desc).map (fun d => d.parameters.length) = some 4 := by decide +kernel
theorem in_X5_lays_5 : ∀ w ∈ u_ws RX5 TX5 12, w ∈ wsX5_lays := fun w h => (List.mem_cons_of_mem _ (List.mem_append_right _ h))
noncomputable def f_X5_lays  (v : MV) (x1 : Int32) (x2 : Int32) (x3 : Int32) (x4 : Int32) : Option (MV) :=
  ck (vp_in 0 644) <|
  nm ((4 + (4 * ((M_ro v) (0 : Int32).toNatClampNeg))) : Int32) fun t_2 =>
  ck (vp_in t_2 644) <|
  nm (upd (M_ro v) t_2.toNatClampNeg x1) fun g_4 =>
  nm ((t_2 + 1) : Int32) fun t_5 =>
  ck (vp_in t_5 644) <|
  nm (upd g_4 t_5.toNatClampNeg x2) fun g_7 =>
  nm ((t_2 + 2) : Int32) fun t_8 =>
  ck (vp_in t_8 644) <|
  nm (upd g_7 t_8.toNatClampNeg x3) fun g_10 =>
  nm ((t_2 + 3) : Int32) fun t_11 =>
  ck (vp_in t_11 644) <|
  nm (upd g_10 t_11.toNatClampNeg x4) fun g_13 =>
  ck (vp_in 0 644) <|
  nm (((g_13 (0 : Int32).toNatClampNeg) + 1) : Int32) fun t_15 =>
  ck (vp_in 0 644) <|
  nm (upd g_13 (0 : Int32).toNatClampNeg t_15) fun g_17 =>
  some ((g_17, (M_sa v), (M_od v), (M_st v), (M_ne v), (M_fd v), (M_tx v), (M_le v), (M_at v), (M_nu v), (M_it v), (M_h v)))
set_option maxHeartbeats 4000000 in
set_option maxRecDepth 100000 in
theorem m_X5_lays {G : GG} {l : Launch} {o : Nat → Nat} {v : MV} {x1 : Int32} {x2 : Int32} {x3 : Int32} {x4 : Int32} {zv : MV} (h : f_X5_lays v x1 x2 x3 x4 = some (zv)) : Cv G l yX5_lays wsX5_lays rX5_lays [.ref (o 0), .int x1, .int x2, .int x3, .int x4] (fl [mB G o v]) (fl [mB G o zv]) := by
  refine Cv.intro cX5_lays 6 none RX5 (by decide) rfl rfl (Nat.le_of_ble_eq_true rfl) ?_
  intro p e s m below meth c A ls X hw hl
  obtain ⟨⟨hx, hb, hml, hown, hts⟩, hK, hr, hlk, hA⟩ := id X
  unfold f_X5_lays at h
  have hl : lv_has ls 6 [(0, .ref (o 0)), (1, .int x1), (2, .int x2), (3, .int x3), (4, .int x4)] := hl
  refine lv_iconst (v := 4) hx hb dX5_lays_0 (by decide) ?_
  refine lv_iconst (v := 4) hx hb dX5_lays_1 (by decide) ?_
  refine lv_aload_n hx hb dX5_lays_2 rfl (lv_at hl 0 rfl) ?_
  refine x_get (v := .ref (o 1)) 0 0 X hw in_X5_lays_5 rfl rfl rfl 0 (by decide) (List.mem_of_getElem? (i := 1) rfl) rfl rfl dX5_lays_3 ?_
  refine lv_iconst (v := 0) hx hb dX5_lays_6 (by decide) ?_
  obtain ⟨k_1, h⟩ := ck_ok h
  refine x_iald (f := (M_ro v)) 0 1 X hw rfl rfl k_1 dX5_lays_7 ?_
  refine lv_imul hx hb dX5_lays_8 ?_
  refine lv_iadd hx hb dX5_lays_9 ?_
  obtain ⟨t_2, et_2, h⟩ := nm_ok h
  refine lv_istore (lv' := [(5, .int t_2), (0, .ref (o 0)), (1, .int x1), (2, .int x2), (3, .int x3), (4, .int x4)]) hx hb dX5_lays_10 hl (by decide) (by rw [et_2]; rfl) (fun ls hl => ?_)
  refine lv_aload_n hx hb dX5_lays_12 rfl (lv_at hl 1 rfl) ?_
  refine x_get (v := .ref (o 1)) 0 0 X hw in_X5_lays_5 rfl rfl rfl 0 (by decide) (List.mem_of_getElem? (i := 1) rfl) rfl rfl dX5_lays_13 ?_
  refine lv_iload hx hb dX5_lays_16 (lv_at hl 0 rfl) ?_
  refine lv_iload_n hx hb dX5_lays_18 rfl (lv_at hl 2 rfl) ?_
  obtain ⟨k_3, h⟩ := ck_ok h
  obtain ⟨g_4, eg_4, h⟩ := nm_ok h
  refine x_iast (f := (M_ro v)) (bs' := [mB G o (g_4, (M_sa v), (M_od v), (M_st v), (M_ne v), (M_fd v), (M_tx v), (M_le v), (M_at v), (M_nu v), (M_it v), (M_h v))]) 0 1 X hw rfl rfl k_3 dX5_lays_19 (by rw [eg_4]; rfl) (fun H locs hw => ?_)
  refine lv_aload_n hx hb dX5_lays_20 rfl (lv_at hl 1 rfl) ?_
  refine x_get (v := .ref (o 1)) 0 0 X hw in_X5_lays_5 rfl rfl rfl 0 (by decide) (List.mem_of_getElem? (i := 1) rfl) rfl rfl dX5_lays_21 ?_
  refine lv_iload hx hb dX5_lays_24 (lv_at hl 0 rfl) ?_
  refine lv_iconst (v := 1) hx hb dX5_lays_26 (by decide) ?_
  refine lv_iadd hx hb dX5_lays_27 ?_
  refine lv_iload_n hx hb dX5_lays_28 rfl (lv_at hl 3 rfl) ?_
  obtain ⟨t_5, et_5, h⟩ := nm_ok h
  rw [← et_5]
  obtain ⟨k_6, h⟩ := ck_ok h
  obtain ⟨g_7, eg_7, h⟩ := nm_ok h
  refine x_iast (f := g_4) (bs' := [mB G o (g_7, (M_sa v), (M_od v), (M_st v), (M_ne v), (M_fd v), (M_tx v), (M_le v), (M_at v), (M_nu v), (M_it v), (M_h v))]) 0 1 X hw rfl rfl k_6 dX5_lays_29 (by rw [eg_7]; rfl) (fun H locs hw => ?_)
  refine lv_aload_n hx hb dX5_lays_30 rfl (lv_at hl 1 rfl) ?_
  refine x_get (v := .ref (o 1)) 0 0 X hw in_X5_lays_5 rfl rfl rfl 0 (by decide) (List.mem_of_getElem? (i := 1) rfl) rfl rfl dX5_lays_31 ?_
  refine lv_iload hx hb dX5_lays_34 (lv_at hl 0 rfl) ?_
  refine lv_iconst (v := 2) hx hb dX5_lays_36 (by decide) ?_
  refine lv_iadd hx hb dX5_lays_37 ?_
  refine lv_iload_n hx hb dX5_lays_38 rfl (lv_at hl 4 rfl) ?_
  obtain ⟨t_8, et_8, h⟩ := nm_ok h
  rw [← et_8]
  obtain ⟨k_9, h⟩ := ck_ok h
  obtain ⟨g_10, eg_10, h⟩ := nm_ok h
  refine x_iast (f := g_7) (bs' := [mB G o (g_10, (M_sa v), (M_od v), (M_st v), (M_ne v), (M_fd v), (M_tx v), (M_le v), (M_at v), (M_nu v), (M_it v), (M_h v))]) 0 1 X hw rfl rfl k_9 dX5_lays_39 (by rw [eg_10]; rfl) (fun H locs hw => ?_)
  refine lv_aload_n hx hb dX5_lays_40 rfl (lv_at hl 1 rfl) ?_
  refine x_get (v := .ref (o 1)) 0 0 X hw in_X5_lays_5 rfl rfl rfl 0 (by decide) (List.mem_of_getElem? (i := 1) rfl) rfl rfl dX5_lays_41 ?_
  refine lv_iload hx hb dX5_lays_44 (lv_at hl 0 rfl) ?_
  refine lv_iconst (v := 3) hx hb dX5_lays_46 (by decide) ?_
  refine lv_iadd hx hb dX5_lays_47 ?_
  refine lv_iload hx hb dX5_lays_48 (lv_at hl 5 rfl) ?_
  obtain ⟨t_11, et_11, h⟩ := nm_ok h
  rw [← et_11]
  obtain ⟨k_12, h⟩ := ck_ok h
  obtain ⟨g_13, eg_13, h⟩ := nm_ok h
  refine x_iast (f := g_10) (bs' := [mB G o (g_13, (M_sa v), (M_od v), (M_st v), (M_ne v), (M_fd v), (M_tx v), (M_le v), (M_at v), (M_nu v), (M_it v), (M_h v))]) 0 1 X hw rfl rfl k_12 dX5_lays_50 (by rw [eg_13]; rfl) (fun H locs hw => ?_)
  refine lv_aload_n hx hb dX5_lays_51 rfl (lv_at hl 1 rfl) ?_
  refine x_get (v := .ref (o 1)) 0 0 X hw in_X5_lays_5 rfl rfl rfl 0 (by decide) (List.mem_of_getElem? (i := 1) rfl) rfl rfl dX5_lays_52 ?_
  refine lv_iconst (v := 0) hx hb dX5_lays_55 (by decide) ?_
  refine lv_dup2_11 hx hb dX5_lays_56 rfl rfl ?_
  obtain ⟨k_14, h⟩ := ck_ok h
  refine x_iald (f := g_13) 0 1 X hw rfl rfl k_14 dX5_lays_57 ?_
  refine lv_iconst (v := 1) hx hb dX5_lays_58 (by decide) ?_
  refine lv_iadd hx hb dX5_lays_59 ?_
  obtain ⟨t_15, et_15, h⟩ := nm_ok h
  rw [← et_15]
  obtain ⟨k_16, h⟩ := ck_ok h
  obtain ⟨g_17, eg_17, h⟩ := nm_ok h
  refine x_iast (f := g_13) (bs' := [mB G o (g_17, (M_sa v), (M_od v), (M_st v), (M_ne v), (M_fd v), (M_tx v), (M_le v), (M_at v), (M_nu v), (M_it v), (M_h v))]) 0 1 X hw rfl rfl k_16 dX5_lays_60 (by rw [eg_17]; rfl) (fun H locs hw => ?_)
  cases h
  exact x_vret X hw rfl dX5_lays_61

def rX5_joins : Room := { frames := 0, cells := 0, slots := 0, locals := 0 }
theorem hd_X5_joins : yX5_joins.cls = RX5 ∧ yX5_joins.cls ≠ "java/lang/invoke/MethodHandle" ∧ yX5_joins.cls ≠ "java/lang/invoke/VarHandle" ∧ (parseMethodDescriptor yX5_joins.desc).map (fun d => d.parameters.length) = some 2 := by decide +kernel
theorem in_X5_joins_5 : ∀ w ∈ u_ws RX5 TX5 12, w ∈ wsX5_joins := fun w h => (List.mem_cons_of_mem _ (List.mem_append_right _ h))
noncomputable def f_X5_joins  (v : MV) (x1 : Int32) (x2 : Int32) : Option (MV) :=
  ck (vp_in 1 644) <|
  nm ((52 + (2 * ((M_ro v) (1 : Int32).toNatClampNeg))) : Int32) fun t_2 =>
  ck (vp_in t_2 644) <|
  nm (upd (M_ro v) t_2.toNatClampNeg x1) fun g_4 =>
  ck (vp_in 1 644) <|
  nm (((52 + (2 * (g_4 (1 : Int32).toNatClampNeg))) + 1) : Int32) fun t_6 =>
  ck (vp_in t_6 644) <|
  nm (upd g_4 t_6.toNatClampNeg x2) fun g_8 =>
  ck (vp_in 1 644) <|
  nm (((g_8 (1 : Int32).toNatClampNeg) + 1) : Int32) fun t_10 =>
  ck (vp_in 1 644) <|
  nm (upd g_8 (1 : Int32).toNatClampNeg t_10) fun g_12 =>
  some ((g_12, (M_sa v), (M_od v), (M_st v), (M_ne v), (M_fd v), (M_tx v), (M_le v), (M_at v), (M_nu v), (M_it v), (M_h v)))
set_option maxHeartbeats 4000000 in
set_option maxRecDepth 100000 in
theorem m_X5_joins {G : GG} {l : Launch} {o : Nat → Nat} {v : MV} {x1 : Int32} {x2 : Int32} {zv : MV} (h : f_X5_joins v x1 x2 = some (zv)) : Cv G l yX5_joins wsX5_joins rX5_joins [.ref (o 0), .int x1, .int x2] (fl [mB G o v]) (fl [mB G o zv]) := by
  refine Cv.intro cX5_joins 3 none RX5 (by decide) rfl rfl (Nat.le_of_ble_eq_true rfl) ?_
  intro p e s m below meth c A ls X hw hl
  obtain ⟨⟨hx, hb, hml, hown, hts⟩, hK, hr, hlk, hA⟩ := id X
  unfold f_X5_joins at h
  have hl : lv_has ls 3 [(0, .ref (o 0)), (1, .int x1), (2, .int x2)] := hl
  refine lv_aload_n hx hb dX5_joins_0 rfl (lv_at hl 0 rfl) ?_
  refine x_get (v := .ref (o 1)) 0 0 X hw in_X5_joins_5 rfl rfl rfl 0 (by decide) (List.mem_of_getElem? (i := 1) rfl) rfl rfl dX5_joins_1 ?_
  refine lv_bipush (v := 52) hx hb dX5_joins_4 (by decide) ?_
  refine lv_iconst (v := 2) hx hb dX5_joins_6 (by decide) ?_
  refine lv_aload_n hx hb dX5_joins_7 rfl (lv_at hl 0 rfl) ?_
  refine x_get (v := .ref (o 1)) 0 0 X hw in_X5_joins_5 rfl rfl rfl 0 (by decide) (List.mem_of_getElem? (i := 1) rfl) rfl rfl dX5_joins_8 ?_
  refine lv_iconst (v := 1) hx hb dX5_joins_11 (by decide) ?_
  obtain ⟨k_1, h⟩ := ck_ok h
  refine x_iald (f := (M_ro v)) 0 1 X hw rfl rfl k_1 dX5_joins_12 ?_
  refine lv_imul hx hb dX5_joins_13 ?_
  refine lv_iadd hx hb dX5_joins_14 ?_
  refine lv_iload_n hx hb dX5_joins_15 rfl (lv_at hl 1 rfl) ?_
  obtain ⟨t_2, et_2, h⟩ := nm_ok h
  rw [← et_2]
  obtain ⟨k_3, h⟩ := ck_ok h
  obtain ⟨g_4, eg_4, h⟩ := nm_ok h
  refine x_iast (f := (M_ro v)) (bs' := [mB G o (g_4, (M_sa v), (M_od v), (M_st v), (M_ne v), (M_fd v), (M_tx v), (M_le v), (M_at v), (M_nu v), (M_it v), (M_h v))]) 0 1 X hw rfl rfl k_3 dX5_joins_16 (by rw [eg_4]; rfl) (fun H locs hw => ?_)
  refine lv_aload_n hx hb dX5_joins_17 rfl (lv_at hl 0 rfl) ?_
  refine x_get (v := .ref (o 1)) 0 0 X hw in_X5_joins_5 rfl rfl rfl 0 (by decide) (List.mem_of_getElem? (i := 1) rfl) rfl rfl dX5_joins_18 ?_
  refine lv_bipush (v := 52) hx hb dX5_joins_21 (by decide) ?_
  refine lv_iconst (v := 2) hx hb dX5_joins_23 (by decide) ?_
  refine lv_aload_n hx hb dX5_joins_24 rfl (lv_at hl 0 rfl) ?_
  refine x_get (v := .ref (o 1)) 0 0 X hw in_X5_joins_5 rfl rfl rfl 0 (by decide) (List.mem_of_getElem? (i := 1) rfl) rfl rfl dX5_joins_25 ?_
  refine lv_iconst (v := 1) hx hb dX5_joins_28 (by decide) ?_
  obtain ⟨k_5, h⟩ := ck_ok h
  refine x_iald (f := g_4) 0 1 X hw rfl rfl k_5 dX5_joins_29 ?_
  refine lv_imul hx hb dX5_joins_30 ?_
  refine lv_iadd hx hb dX5_joins_31 ?_
  refine lv_iconst (v := 1) hx hb dX5_joins_32 (by decide) ?_
  refine lv_iadd hx hb dX5_joins_33 ?_
  refine lv_iload_n hx hb dX5_joins_34 rfl (lv_at hl 2 rfl) ?_
  obtain ⟨t_6, et_6, h⟩ := nm_ok h
  rw [← et_6]
  obtain ⟨k_7, h⟩ := ck_ok h
  obtain ⟨g_8, eg_8, h⟩ := nm_ok h
  refine x_iast (f := g_4) (bs' := [mB G o (g_8, (M_sa v), (M_od v), (M_st v), (M_ne v), (M_fd v), (M_tx v), (M_le v), (M_at v), (M_nu v), (M_it v), (M_h v))]) 0 1 X hw rfl rfl k_7 dX5_joins_35 (by rw [eg_8]; rfl) (fun H locs hw => ?_)
  refine lv_aload_n hx hb dX5_joins_36 rfl (lv_at hl 0 rfl) ?_
  refine x_get (v := .ref (o 1)) 0 0 X hw in_X5_joins_5 rfl rfl rfl 0 (by decide) (List.mem_of_getElem? (i := 1) rfl) rfl rfl dX5_joins_37 ?_
  refine lv_iconst (v := 1) hx hb dX5_joins_40 (by decide) ?_
  refine lv_dup2_11 hx hb dX5_joins_41 rfl rfl ?_
  obtain ⟨k_9, h⟩ := ck_ok h
  refine x_iald (f := g_8) 0 1 X hw rfl rfl k_9 dX5_joins_42 ?_
  refine lv_iconst (v := 1) hx hb dX5_joins_43 (by decide) ?_
  refine lv_iadd hx hb dX5_joins_44 ?_
  obtain ⟨t_10, et_10, h⟩ := nm_ok h
  rw [← et_10]
  obtain ⟨k_11, h⟩ := ck_ok h
  obtain ⟨g_12, eg_12, h⟩ := nm_ok h
  refine x_iast (f := g_8) (bs' := [mB G o (g_12, (M_sa v), (M_od v), (M_st v), (M_ne v), (M_fd v), (M_tx v), (M_le v), (M_at v), (M_nu v), (M_it v), (M_h v))]) 0 1 X hw rfl rfl k_11 dX5_joins_45 (by rw [eg_12]; rfl) (fun H locs hw => ?_)
  cases h
  exact x_vret X hw rfl dX5_joins_46

def rX5_parts : Room := { frames := 0, cells := 0, slots := 0, locals := 0 }
theorem hd_X5_parts : yX5_parts.cls = RX5 ∧ yX5_parts.cls ≠ "java/lang/invoke/MethodHandle" ∧ yX5_parts.cls ≠ "java/lang/invoke/VarHandle" ∧ (parseMethodDescriptor yX5_parts.desc).map (fun d => d.parameters.length) = some 1 := by decide +kernel
theorem in_X5_parts_5 : ∀ w ∈ u_ws RX5 TX5 12, w ∈ wsX5_parts := fun w h => (List.mem_cons_of_mem _ (List.mem_append_right _ h))
noncomputable def f_X5_parts_b14   : Nat → MV → Int32 → Option (MV)
  | 0 => fun _ _ => none
  | n + 1 => fun v x2 =>
    ck (vp_in 1 644) <|
    br ((2 * ((M_ro v) (1 : Int32).toNatClampNeg)) ≤ x2)
      (some (v))
      (nm (((52 + x2) + 2) : Int32) fun t_3 =>
       ck (vp_in t_3 644) <|
       nm (((M_ro v) t_3.toNatClampNeg) : Int32) fun t_5 =>
       nm ((52 + x2) : Int32) fun t_6 =>
       ck (vp_in t_6 644) <|
       nm (upd (M_ro v) t_6.toNatClampNeg t_5) fun g_8 =>
       nm (x2 + 1 : Int32) fun t_9 =>
       f_X5_parts_b14 n (g_8, (M_sa v), (M_od v), (M_st v), (M_ne v), (M_fd v), (M_tx v), (M_le v), (M_at v), (M_nu v), (M_it v), (M_h v)) t_9)
set_option maxHeartbeats 4000000 in
set_option maxRecDepth 100000 in
theorem w_X5_parts_b14 {G : GG} {l : Launch} {p : Program} {e : Env} {s : State} {m : MethodId} {args : Array Value} {below : List Frame} {meth : Method} {c : Code} {A : Nat → Prop} {o : Nat → Nat}  {zv : MV}   (X : Cx p s m args meth c cX5_parts 3 none wsX5_parts RX5 G A)  :
    ∀ (n : Nat) (v : MV) (x2 : Int32) (H : Heap) (locs : List Loc) (ls : Array Slot), f_X5_parts_b14 n v x2 = some (zv) → Wd G A s H locs (fl [mB G o v]) → lv_has ls 3 [(0, .ref (o 0)), (2, .int x2)] → W p l e rX5_parts s m args below meth c H locs 0 0 (MQ below (Qv G A (fl [mB G o zv])) args s 0 0 A) (F0 m 14 ls []) := by
  obtain ⟨⟨hx, hb, hml, hown, hts⟩, hK, hr, hlk, hA⟩ := id X
  intro n
  induction n with
  | zero =>
    intro v x2 H locs ls h
    rw [f_X5_parts_b14] at h
    cases h
  | succ n ih =>
    intro v x2 H locs ls h hw hl
    rw [f_X5_parts_b14] at h
    refine lv_iload_n hx hb dX5_parts_14 rfl (lv_at hl 1 rfl) ?_
    refine lv_iconst (v := 2) hx hb dX5_parts_15 (by decide) ?_
    refine lv_aload_n hx hb dX5_parts_16 rfl (lv_at hl 0 rfl) ?_
    refine x_get (v := .ref (o 1)) 0 0 X hw in_X5_parts_5 rfl rfl rfl 0 (by decide) (List.mem_of_getElem? (i := 1) rfl) rfl rfl dX5_parts_17 ?_
    refine lv_iconst (v := 1) hx hb dX5_parts_20 (by decide) ?_
    obtain ⟨k_1, h⟩ := ck_ok h
    refine x_iald (f := (M_ro v)) 0 1 X hw rfl rfl k_1 dX5_parts_21 ?_
    refine lv_imul hx hb dX5_parts_22 ?_
    refine lv_icmp_ge (tgt := 52) hx hb dX5_parts_23 (by decide) (fun k_2 => ?_) (fun k_2 => ?_)
    · have h := br_yes h k_2
      cases h
      exact x_vret X hw rfl dX5_parts_52
    · have h := br_no h k_2
      refine lv_aload_n hx hb dX5_parts_26 rfl (lv_at hl 0 rfl) ?_
      refine x_get (v := .ref (o 1)) 0 0 X hw in_X5_parts_5 rfl rfl rfl 0 (by decide) (List.mem_of_getElem? (i := 1) rfl) rfl rfl dX5_parts_27 ?_
      refine lv_bipush (v := 52) hx hb dX5_parts_30 (by decide) ?_
      refine lv_iload_n hx hb dX5_parts_32 rfl (lv_at hl 1 rfl) ?_
      refine lv_iadd hx hb dX5_parts_33 ?_
      refine lv_aload_n hx hb dX5_parts_34 rfl (lv_at hl 0 rfl) ?_
      refine x_get (v := .ref (o 1)) 0 0 X hw in_X5_parts_5 rfl rfl rfl 0 (by decide) (List.mem_of_getElem? (i := 1) rfl) rfl rfl dX5_parts_35 ?_
      refine lv_bipush (v := 52) hx hb dX5_parts_38 (by decide) ?_
      refine lv_iload_n hx hb dX5_parts_40 rfl (lv_at hl 1 rfl) ?_
      refine lv_iadd hx hb dX5_parts_41 ?_
      refine lv_iconst (v := 2) hx hb dX5_parts_42 (by decide) ?_
      refine lv_iadd hx hb dX5_parts_43 ?_
      obtain ⟨t_3, et_3, h⟩ := nm_ok h
      rw [← et_3]
      obtain ⟨k_4, h⟩ := ck_ok h
      refine x_iald (f := (M_ro v)) 0 1 X hw rfl rfl k_4 dX5_parts_44 ?_
      obtain ⟨t_5, et_5, h⟩ := nm_ok h
      rw [← et_5]
      obtain ⟨t_6, et_6, h⟩ := nm_ok h
      rw [← et_6]
      obtain ⟨k_7, h⟩ := ck_ok h
      obtain ⟨g_8, eg_8, h⟩ := nm_ok h
      refine x_iast (f := (M_ro v)) (bs' := [mB G o (g_8, (M_sa v), (M_od v), (M_st v), (M_ne v), (M_fd v), (M_tx v), (M_le v), (M_at v), (M_nu v), (M_it v), (M_h v))]) 0 1 X hw rfl rfl k_7 dX5_parts_45 (by rw [eg_8]; rfl) (fun H locs hw => ?_)
      obtain ⟨t_9, et_9, h⟩ := nm_ok h
      refine lv_iinc (v := t_9) (lv' := [(2, .int t_9), (0, .ref (o 0))]) hx hb dX5_parts_46 hl (k := 1) rfl (by rw [et_9]; rfl) (by decide) rfl (fun ls hl => ?_)
      refine lv_goto (tgt := 14) hx hb dX5_parts_49 (by decide) ?_
      exact ih (g_8, (M_sa v), (M_od v), (M_st v), (M_ne v), (M_fd v), (M_tx v), (M_le v), (M_at v), (M_nu v), (M_it v), (M_h v)) t_9 _ _ _ h hw (lv_sub hl [1, 0] rfl)
noncomputable def f_X5_parts  (v : MV) (x1 : Int32) : Option (MV) :=
  ck (vp_in 1 644) <|
  nm ((((M_ro v) (1 : Int32).toNatClampNeg) - 1) : Int32) fun t_2 =>
  ck (vp_in 1 644) <|
  nm (upd (M_ro v) (1 : Int32).toNatClampNeg t_2) fun g_4 =>
  nm ((2 * x1) : Int32) fun t_5 =>
  f_X5_parts_b14 FU (g_4, (M_sa v), (M_od v), (M_st v), (M_ne v), (M_fd v), (M_tx v), (M_le v), (M_at v), (M_nu v), (M_it v), (M_h v)) t_5
set_option maxHeartbeats 4000000 in
set_option maxRecDepth 100000 in
theorem m_X5_parts {G : GG} {l : Launch} {o : Nat → Nat} {v : MV} {x1 : Int32} {zv : MV} (h : f_X5_parts v x1 = some (zv)) : Cv G l yX5_parts wsX5_parts rX5_parts [.ref (o 0), .int x1] (fl [mB G o v]) (fl [mB G o zv]) := by
  refine Cv.intro cX5_parts 3 none RX5 (by decide) rfl rfl (Nat.le_of_ble_eq_true rfl) ?_
  intro p e s m below meth c A ls X hw hl
  obtain ⟨⟨hx, hb, hml, hown, hts⟩, hK, hr, hlk, hA⟩ := id X
  unfold f_X5_parts at h
  have hl : lv_has ls 3 [(0, .ref (o 0)), (1, .int x1)] := hl
  refine lv_aload_n hx hb dX5_parts_0 rfl (lv_at hl 0 rfl) ?_
  refine x_get (v := .ref (o 1)) 0 0 X hw in_X5_parts_5 rfl rfl rfl 0 (by decide) (List.mem_of_getElem? (i := 1) rfl) rfl rfl dX5_parts_1 ?_
  refine lv_iconst (v := 1) hx hb dX5_parts_4 (by decide) ?_
  refine lv_dup2_11 hx hb dX5_parts_5 rfl rfl ?_
  obtain ⟨k_1, h⟩ := ck_ok h
  refine x_iald (f := (M_ro v)) 0 1 X hw rfl rfl k_1 dX5_parts_6 ?_
  refine lv_iconst (v := 1) hx hb dX5_parts_7 (by decide) ?_
  refine lv_isub hx hb dX5_parts_8 ?_
  obtain ⟨t_2, et_2, h⟩ := nm_ok h
  rw [← et_2]
  obtain ⟨k_3, h⟩ := ck_ok h
  obtain ⟨g_4, eg_4, h⟩ := nm_ok h
  refine x_iast (f := (M_ro v)) (bs' := [mB G o (g_4, (M_sa v), (M_od v), (M_st v), (M_ne v), (M_fd v), (M_tx v), (M_le v), (M_at v), (M_nu v), (M_it v), (M_h v))]) 0 1 X hw rfl rfl k_3 dX5_parts_9 (by rw [eg_4]; rfl) (fun H locs hw => ?_)
  refine lv_iconst (v := 2) hx hb dX5_parts_10 (by decide) ?_
  refine lv_iload_n hx hb dX5_parts_11 rfl (lv_at hl 1 rfl) ?_
  refine lv_imul hx hb dX5_parts_12 ?_
  obtain ⟨t_5, et_5, h⟩ := nm_ok h
  refine lv_istore_n (lv' := [(2, .int t_5), (0, .ref (o 0)), (1, .int x1)]) hx hb dX5_parts_13 rfl hl (by decide) (by rw [et_5]; rfl) (fun ls hl => ?_)
  exact w_X5_parts_b14 X FU (g_4, (M_sa v), (M_od v), (M_st v), (M_ne v), (M_fd v), (M_tx v), (M_le v), (M_at v), (M_nu v), (M_it v), (M_h v)) t_5 _ _ _ h hw (lv_sub hl [1, 0] rfl)

def rX5_isSize : Room := { frames := 1, cells := 0, slots := 0, locals := 22 }
theorem hd_X5_isSize : yX5_isSize.cls = RX5 ∧ yX5_isSize.cls ≠ "java/lang/invoke/MethodHandle" ∧ yX5_isSize.cls ≠ "java/lang/invoke/VarHandle" ∧ (parseMethodDescriptor yX5_isSize.desc).map (fun d => d.parameters.length) = some 2 := by decide +kernel
noncomputable def f_X5_isSize   (x0 : Int32) (x1 : Int32) : Option (Int32) :=
  bd (f_X5_in x0 1 5000) fun r_1 =>
  br (r_1 = 0)
    (some (0))
    (bd (f_X5_in x1 1 5000) fun r_4 =>
     br (r_4 = 0)
       (some (0))
       (some (1)))
set_option maxHeartbeats 4000000 in
set_option maxRecDepth 100000 in
theorem m_X5_isSize {G : GG} {l : Launch}   {x0 : Int32} {x1 : Int32} {r : Int32}  (h : f_X5_isSize x0 x1 = some (r)) : Ci G l yX5_isSize wsX5_isSize rX5_isSize [.int x0, .int x1] (fl []) r (fl []) := by
  refine Ci.intro cX5_isSize 2 (some .boolean) RX5 (by decide) rfl rfl (Nat.le_of_ble_eq_true rfl) ?_
  intro p e s m below meth c A ls X hw hl
  obtain ⟨⟨hx, hb, hml, hown, hts⟩, hK, hr, hlk, hA⟩ := id X
  unfold f_X5_isSize at h
  have hl : lv_has ls 2 [(0, .int x0), (1, .int x1)] := hl
  refine lv_iload_n hx hb dX5_isSize_0 rfl (lv_at hl 0 rfl) ?_
  refine lv_iconst (v := 1) hx hb dX5_isSize_1 (by decide) ?_
  refine lv_sipush (v := 5000) hx hb dX5_isSize_2 (by decide) ?_
  obtain ⟨r_1, c_2, h⟩ := bd_ok h
  refine x_Si (As := [.int x0, .int 1, .int 5000]) (w' := fl []) X hw (m_X5_in (G := G) (l := l) c_2) Cut.nil (va_cwS 3 hts gX5_isSize_X5_in rfl rfl rfl hd_X5_in.2 ⟨Nat.le_of_ble_eq_true rfl, Nat.le_of_ble_eq_true rfl⟩) rfl hl.1 rfl (Nat.le_of_ble_eq_true rfl) dX5_isSize_5 ⟨Nat.le_of_ble_eq_true rfl, Nat.le_of_ble_eq_true rfl⟩ (fun H locs hw => ?_)
  refine lv_if_eq (tgt := 26) hx hb dX5_isSize_8 (by decide) (fun k_3 => ?_) (fun k_3 => ?_)
  · have h := br_yes h k_3
    refine lv_iconst (v := 0) hx hb dX5_isSize_26 (by decide) ?_
    cases h
    exact x_iret X (narz (Or.inl rfl)) hw rfl rfl dX5_isSize_27
  · have h := br_no h k_3
    refine lv_iload_n hx hb dX5_isSize_11 rfl (lv_at hl 1 rfl) ?_
    refine lv_iconst (v := 1) hx hb dX5_isSize_12 (by decide) ?_
    refine lv_sipush (v := 5000) hx hb dX5_isSize_13 (by decide) ?_
    obtain ⟨r_4, c_5, h⟩ := bd_ok h
    refine x_Si (As := [.int x1, .int 1, .int 5000]) (w' := fl []) X hw (m_X5_in (G := G) (l := l) c_5) Cut.nil (va_cwS 3 hts gX5_isSize_X5_in rfl rfl rfl hd_X5_in.2 ⟨Nat.le_of_ble_eq_true rfl, Nat.le_of_ble_eq_true rfl⟩) rfl hl.1 rfl (Nat.le_of_ble_eq_true rfl) dX5_isSize_16 ⟨Nat.le_of_ble_eq_true rfl, Nat.le_of_ble_eq_true rfl⟩ (fun H locs hw => ?_)
    refine lv_if_eq (tgt := 26) hx hb dX5_isSize_19 (by decide) (fun k_6 => ?_) (fun k_6 => ?_)
    · have h := br_yes h k_6
      refine lv_iconst (v := 0) hx hb dX5_isSize_26 (by decide) ?_
      cases h
      exact x_iret X (narz (Or.inl rfl)) hw rfl rfl dX5_isSize_27
    · have h := br_no h k_6
      refine lv_iconst (v := 1) hx hb dX5_isSize_22 (by decide) ?_
      refine lv_goto (tgt := 27) hx hb dX5_isSize_23 (by decide) ?_
      cases h
      exact x_iret X (narz (Or.inr rfl)) hw rfl rfl dX5_isSize_27

def rX5_addSection : Room := { frames := 2, cells := 0, slots := 0, locals := 44 }
theorem hd_X5_addSection : yX5_addSection.cls = RX5 ∧ yX5_addSection.cls ≠ "java/lang/invoke/MethodHandle" ∧ yX5_addSection.cls ≠ "java/lang/invoke/VarHandle" ∧ (parseMethodDescriptor yX5_addSection.desc).map (fun d => d.parameters.length) = some 3 := by decide +kernel
theorem in_X5_addSection_5 : ∀ w ∈ u_ws RX5 TX5 12, w ∈ wsX5_addSection := fun w h => (List.mem_cons_of_mem _ (List.mem_append_right _ h))
noncomputable def f_X5_addSection  (v : MV) (x1 : Int32) (x2 : Int32) (x3 : Int32) : Option (Int32 × MV) :=
  bd (f_X5_isSize x1 x2) fun r_1 =>
  br (r_1 = 0)
    (some ((-3), v))
    (ck (vp_in 0 644) <|
     br (((M_ro v) (0 : Int32).toNatClampNeg) = 12)
       (some ((-5), v))
       (bd (f_X5_saves v) fun v_6 =>
        br (x3 = 0)
          (bd (f_X5_lays v_6 x1 x2 0 0) fun v_9 =>
           ck (vp_in 0 644) <|
           some ((((M_ro v_9) (0 : Int32).toNatClampNeg) - 1), v_9))
          (bd (f_X5_lays v_6 x1 x2 0 1) fun v_12 =>
           ck (vp_in 0 644) <|
           some ((((M_ro v_12) (0 : Int32).toNatClampNeg) - 1), v_12))))
set_option maxHeartbeats 4000000 in
set_option maxRecDepth 100000 in
theorem m_X5_addSection {G : GG} {l : Launch} {o : Nat → Nat} {v : MV} {x1 : Int32} {x2 : Int32} {x3 : Int32} {r : Int32} {zv : MV} (h : f_X5_addSection v x1 x2 x3 = some (r, zv)) : Ci G l yX5_addSection wsX5_addSection rX5_addSection [.ref (o 0), .int x1, .int x2, .int x3] (fl [mB G o v]) r (fl [mB G o zv]) := by
  refine Ci.intro cX5_addSection 4 (some .int) RX5 (by decide) rfl rfl (Nat.le_of_ble_eq_true rfl) ?_
  intro p e s m below meth c A ls X hw hl
  obtain ⟨⟨hx, hb, hml, hown, hts⟩, hK, hr, hlk, hA⟩ := id X
  unfold f_X5_addSection at h
  have hl : lv_has ls 4 [(0, .ref (o 0)), (1, .int x1), (2, .int x2), (3, .int x3)] := hl
  refine lv_iload_n hx hb dX5_addSection_0 rfl (lv_at hl 1 rfl) ?_
  refine lv_iload_n hx hb dX5_addSection_1 rfl (lv_at hl 2 rfl) ?_
  obtain ⟨r_1, c_2, h⟩ := bd_ok h
  refine x_Si (As := [.int x1, .int x2]) (w' := fl [mB G o v]) X hw (m_X5_isSize (G := G) (l := l) c_2) Cut.nil (va_cwS 2 hts gX5_addSection_X5_isSize rfl rfl rfl hd_X5_isSize.2 ⟨Nat.le_of_ble_eq_true rfl, Nat.le_of_ble_eq_true rfl⟩) rfl hl.1 rfl (Nat.le_of_ble_eq_true rfl) dX5_addSection_2 ⟨Nat.le_of_ble_eq_true rfl, Nat.le_of_ble_eq_true rfl⟩ (fun H locs hw => ?_)
  refine lv_if_ne (tgt := 11) hx hb dX5_addSection_5 (by decide) (fun k_3 => ?_) (fun k_3 => ?_)
  · have h := br_no h k_3
    refine lv_aload_n hx hb dX5_addSection_11 rfl (lv_at hl 0 rfl) ?_
    refine x_get (v := .ref (o 1)) 0 0 X hw in_X5_addSection_5 rfl rfl rfl 0 (by decide) (List.mem_of_getElem? (i := 1) rfl) rfl rfl dX5_addSection_12 ?_
    refine lv_iconst (v := 0) hx hb dX5_addSection_15 (by decide) ?_
    obtain ⟨k_4, h⟩ := ck_ok h
    refine x_iald (f := (M_ro v)) 0 1 X hw rfl rfl k_4 dX5_addSection_16 ?_
    refine lv_bipush (v := 12) hx hb dX5_addSection_17 (by decide) ?_
    refine lv_icmp_ne (tgt := 25) hx hb dX5_addSection_19 (by decide) (fun k_5 => ?_) (fun k_5 => ?_)
    · have h := br_no h k_5
      refine lv_aload_n hx hb dX5_addSection_25 rfl (lv_at hl 0 rfl) ?_
      obtain ⟨v_6, c_7, h⟩ := bd_ok h
      refine x_Vv (As := []) (w' := fl [mB G o v_6]) X hw (m_X5_saves (G := G) (l := l) (o := o) c_7) Cut.all 0 0 rfl rfl rfl (cwV 0 hts gX5_addSection_X5_saves rfl rfl rfl hd_X5_saves ⟨Nat.le_of_ble_eq_true rfl, Nat.le_of_ble_eq_true rfl⟩) rfl hl.1 rfl (Nat.le_of_ble_eq_true rfl) dX5_addSection_26 ⟨Nat.le_of_ble_eq_true rfl, Nat.le_of_ble_eq_true rfl⟩ (fun H locs hw => ?_)
      refine lv_aload_n hx hb dX5_addSection_29 rfl (lv_at hl 0 rfl) ?_
      refine lv_iload_n hx hb dX5_addSection_30 rfl (lv_at hl 1 rfl) ?_
      refine lv_iload_n hx hb dX5_addSection_31 rfl (lv_at hl 2 rfl) ?_
      refine lv_iconst (v := 0) hx hb dX5_addSection_32 (by decide) ?_
      refine lv_iload_n hx hb dX5_addSection_33 rfl (lv_at hl 3 rfl) ?_
      refine lv_if_eq (tgt := 41) hx hb dX5_addSection_34 (by decide) (fun k_8 => ?_) (fun k_8 => ?_)
      · have h := br_yes h k_8
        refine lv_iconst (v := 0) hx hb dX5_addSection_41 (by decide) ?_
        obtain ⟨v_9, c_10, h⟩ := bd_ok h
        refine x_Vv (As := [.int x1, .int x2, .int 0, .int 0]) (w' := fl [mB G o v_9]) X hw (m_X5_lays (G := G) (l := l) (o := o) c_10) Cut.all 0 0 rfl rfl rfl (cwV 4 hts gX5_addSection_X5_lays rfl rfl rfl hd_X5_lays ⟨Nat.le_of_ble_eq_true rfl, Nat.le_of_ble_eq_true rfl⟩) rfl hl.1 rfl (Nat.le_of_ble_eq_true rfl) dX5_addSection_42 ⟨Nat.le_of_ble_eq_true rfl, Nat.le_of_ble_eq_true rfl⟩ (fun H locs hw => ?_)
        refine lv_aload_n hx hb dX5_addSection_45 rfl (lv_at hl 0 rfl) ?_
        refine x_get (v := .ref (o 1)) 0 0 X hw in_X5_addSection_5 rfl rfl rfl 0 (by decide) (List.mem_of_getElem? (i := 1) rfl) rfl rfl dX5_addSection_46 ?_
        refine lv_iconst (v := 0) hx hb dX5_addSection_49 (by decide) ?_
        obtain ⟨k_11, h⟩ := ck_ok h
        refine x_iald (f := (M_ro v_9)) 0 1 X hw rfl rfl k_11 dX5_addSection_50 ?_
        refine lv_iconst (v := 1) hx hb dX5_addSection_51 (by decide) ?_
        refine lv_isub hx hb dX5_addSection_52 ?_
        cases h
        exact x_iret X (vp_nar_int _) hw rfl rfl dX5_addSection_53
      · have h := br_no h k_8
        refine lv_iconst (v := 1) hx hb dX5_addSection_37 (by decide) ?_
        refine lv_goto (tgt := 42) hx hb dX5_addSection_38 (by decide) ?_
        obtain ⟨v_12, c_13, h⟩ := bd_ok h
        refine x_Vv (As := [.int x1, .int x2, .int 0, .int 1]) (w' := fl [mB G o v_12]) X hw (m_X5_lays (G := G) (l := l) (o := o) c_13) Cut.all 0 0 rfl rfl rfl (cwV 4 hts gX5_addSection_X5_lays rfl rfl rfl hd_X5_lays ⟨Nat.le_of_ble_eq_true rfl, Nat.le_of_ble_eq_true rfl⟩) rfl hl.1 rfl (Nat.le_of_ble_eq_true rfl) dX5_addSection_42 ⟨Nat.le_of_ble_eq_true rfl, Nat.le_of_ble_eq_true rfl⟩ (fun H locs hw => ?_)
        refine lv_aload_n hx hb dX5_addSection_45 rfl (lv_at hl 0 rfl) ?_
        refine x_get (v := .ref (o 1)) 0 0 X hw in_X5_addSection_5 rfl rfl rfl 0 (by decide) (List.mem_of_getElem? (i := 1) rfl) rfl rfl dX5_addSection_46 ?_
        refine lv_iconst (v := 0) hx hb dX5_addSection_49 (by decide) ?_
        obtain ⟨k_14, h⟩ := ck_ok h
        refine x_iald (f := (M_ro v_12)) 0 1 X hw rfl rfl k_14 dX5_addSection_50 ?_
        refine lv_iconst (v := 1) hx hb dX5_addSection_51 (by decide) ?_
        refine lv_isub hx hb dX5_addSection_52 ?_
        cases h
        exact x_iret X (vp_nar_int _) hw rfl rfl dX5_addSection_53
    · have h := br_yes h k_5
      refine lv_bipush (v := (-5)) hx hb dX5_addSection_22 (by decide) ?_
      cases h
      exact x_iret X (vp_nar_int _) hw rfl rfl dX5_addSection_24
  · have h := br_yes h k_3
    refine lv_bipush (v := (-3)) hx hb dX5_addSection_8 (by decide) ?_
    cases h
    exact x_iret X (vp_nar_int _) hw rfl rfl dX5_addSection_10

def rX5_resize : Room := { frames := 2, cells := 0, slots := 0, locals := 44 }
theorem hd_X5_resize : yX5_resize.cls = RX5 ∧ yX5_resize.cls ≠ "java/lang/invoke/MethodHandle" ∧ yX5_resize.cls ≠ "java/lang/invoke/VarHandle" ∧ (parseMethodDescriptor yX5_resize.desc).map (fun d => d.parameters.length) = some 3 := by decide +kernel
theorem in_X5_resize_5 : ∀ w ∈ u_ws RX5 TX5 12, w ∈ wsX5_resize := fun w h => (List.mem_cons_of_mem _ (List.mem_append_right _ h))
noncomputable def f_X5_resize  (v : MV) (x1 : Int32) (x2 : Int32) (x3 : Int32) : Option (Int32 × MV) :=
  bd (f_X5_isSection v x1) fun r_1 =>
  br (r_1 = 0)
    (some ((-2), v))
    (bd (f_X5_isSize x2 x3) fun r_4 =>
     br (r_4 = 0)
       (some ((-3), v))
       (bd (f_X5_saves v) fun v_7 =>
        bd (f_X5_of v_7 x1 0) fun r_9 =>
        nm ((4 + (4 * x1)) : Int32) fun t_11 =>
        ck (vp_in t_11 644) <|
        nm (upd (M_ro v_7) t_11.toNatClampNeg x2) fun g_13 =>
        nm (((4 + (4 * x1)) + 1) : Int32) fun t_14 =>
        ck (vp_in t_14 644) <|
        nm (upd g_13 t_14.toNatClampNeg x3) fun g_16 =>
        some (r_9, (g_16, (M_sa v_7), (M_od v_7), (M_st v_7), (M_ne v_7), (M_fd v_7), (M_tx v_7), (M_le v_7), (M_at v_7), (M_nu v_7), (M_it v_7), (M_h v_7)))))
set_option maxHeartbeats 4000000 in
set_option maxRecDepth 100000 in
theorem m_X5_resize {G : GG} {l : Launch} {o : Nat → Nat} {v : MV} {x1 : Int32} {x2 : Int32} {x3 : Int32} {r : Int32} {zv : MV} (h : f_X5_resize v x1 x2 x3 = some (r, zv)) : Ci G l yX5_resize wsX5_resize rX5_resize [.ref (o 0), .int x1, .int x2, .int x3] (fl [mB G o v]) r (fl [mB G o zv]) := by
  refine Ci.intro cX5_resize 5 (some .int) RX5 (by decide) rfl rfl (Nat.le_of_ble_eq_true rfl) ?_
  intro p e s m below meth c A ls X hw hl
  obtain ⟨⟨hx, hb, hml, hown, hts⟩, hK, hr, hlk, hA⟩ := id X
  unfold f_X5_resize at h
  have hl : lv_has ls 5 [(0, .ref (o 0)), (1, .int x1), (2, .int x2), (3, .int x3)] := hl
  refine lv_aload_n hx hb dX5_resize_0 rfl (lv_at hl 0 rfl) ?_
  refine lv_iload_n hx hb dX5_resize_1 rfl (lv_at hl 1 rfl) ?_
  obtain ⟨r_1, c_2, h⟩ := bd_ok h
  refine x_Vi (As := [.int x1]) (w' := fl [mB G o v]) X hw (m_X5_isSection (G := G) (l := l) (o := o) c_2) Cut.all 0 0 rfl rfl rfl (cwV 1 hts gX5_resize_X5_isSection rfl rfl rfl hd_X5_isSection ⟨Nat.le_of_ble_eq_true rfl, Nat.le_of_ble_eq_true rfl⟩) rfl hl.1 rfl (Nat.le_of_ble_eq_true rfl) dX5_resize_2 ⟨Nat.le_of_ble_eq_true rfl, Nat.le_of_ble_eq_true rfl⟩ (fun H locs hw => ?_)
  refine lv_if_ne (tgt := 11) hx hb dX5_resize_5 (by decide) (fun k_3 => ?_) (fun k_3 => ?_)
  · have h := br_no h k_3
    refine lv_iload_n hx hb dX5_resize_11 rfl (lv_at hl 2 rfl) ?_
    refine lv_iload_n hx hb dX5_resize_12 rfl (lv_at hl 3 rfl) ?_
    obtain ⟨r_4, c_5, h⟩ := bd_ok h
    refine x_Si (As := [.int x2, .int x3]) (w' := fl [mB G o v]) X hw (m_X5_isSize (G := G) (l := l) c_5) Cut.nil (va_cwS 2 hts gX5_resize_X5_isSize rfl rfl rfl hd_X5_isSize.2 ⟨Nat.le_of_ble_eq_true rfl, Nat.le_of_ble_eq_true rfl⟩) rfl hl.1 rfl (Nat.le_of_ble_eq_true rfl) dX5_resize_13 ⟨Nat.le_of_ble_eq_true rfl, Nat.le_of_ble_eq_true rfl⟩ (fun H locs hw => ?_)
    refine lv_if_ne (tgt := 22) hx hb dX5_resize_16 (by decide) (fun k_6 => ?_) (fun k_6 => ?_)
    · have h := br_no h k_6
      refine lv_aload_n hx hb dX5_resize_22 rfl (lv_at hl 0 rfl) ?_
      obtain ⟨v_7, c_8, h⟩ := bd_ok h
      refine x_Vv (As := []) (w' := fl [mB G o v_7]) X hw (m_X5_saves (G := G) (l := l) (o := o) c_8) Cut.all 0 0 rfl rfl rfl (cwV 0 hts gX5_resize_X5_saves rfl rfl rfl hd_X5_saves ⟨Nat.le_of_ble_eq_true rfl, Nat.le_of_ble_eq_true rfl⟩) rfl hl.1 rfl (Nat.le_of_ble_eq_true rfl) dX5_resize_23 ⟨Nat.le_of_ble_eq_true rfl, Nat.le_of_ble_eq_true rfl⟩ (fun H locs hw => ?_)
      refine lv_aload_n hx hb dX5_resize_26 rfl (lv_at hl 0 rfl) ?_
      refine lv_iload_n hx hb dX5_resize_27 rfl (lv_at hl 1 rfl) ?_
      refine lv_iconst (v := 0) hx hb dX5_resize_28 (by decide) ?_
      obtain ⟨r_9, c_10, h⟩ := bd_ok h
      refine x_Vi (As := [.int x1, .int 0]) (w' := fl [mB G o v_7]) X hw (m_X5_of (G := G) (l := l) (o := o) c_10) Cut.all 0 0 rfl rfl rfl (cwV 2 hts gX5_resize_X5_of rfl rfl rfl hd_X5_of ⟨Nat.le_of_ble_eq_true rfl, Nat.le_of_ble_eq_true rfl⟩) rfl hl.1 rfl (Nat.le_of_ble_eq_true rfl) dX5_resize_29 ⟨Nat.le_of_ble_eq_true rfl, Nat.le_of_ble_eq_true rfl⟩ (fun H locs hw => ?_)
      refine lv_istore (lv' := [(4, .int r_9), (0, .ref (o 0)), (1, .int x1), (2, .int x2), (3, .int x3)]) hx hb dX5_resize_32 hl (by decide) rfl (fun ls hl => ?_)
      refine lv_aload_n hx hb dX5_resize_34 rfl (lv_at hl 1 rfl) ?_
      refine x_get (v := .ref (o 1)) 0 0 X hw in_X5_resize_5 rfl rfl rfl 0 (by decide) (List.mem_of_getElem? (i := 1) rfl) rfl rfl dX5_resize_35 ?_
      refine lv_iconst (v := 4) hx hb dX5_resize_38 (by decide) ?_
      refine lv_iconst (v := 4) hx hb dX5_resize_39 (by decide) ?_
      refine lv_iload_n hx hb dX5_resize_40 rfl (lv_at hl 2 rfl) ?_
      refine lv_imul hx hb dX5_resize_41 ?_
      refine lv_iadd hx hb dX5_resize_42 ?_
      refine lv_iload_n hx hb dX5_resize_43 rfl (lv_at hl 3 rfl) ?_
      obtain ⟨t_11, et_11, h⟩ := nm_ok h
      rw [← et_11]
      obtain ⟨k_12, h⟩ := ck_ok h
      obtain ⟨g_13, eg_13, h⟩ := nm_ok h
      refine x_iast (f := (M_ro v_7)) (bs' := [mB G o (g_13, (M_sa v_7), (M_od v_7), (M_st v_7), (M_ne v_7), (M_fd v_7), (M_tx v_7), (M_le v_7), (M_at v_7), (M_nu v_7), (M_it v_7), (M_h v_7))]) 0 1 X hw rfl rfl k_12 dX5_resize_44 (by rw [eg_13]; rfl) (fun H locs hw => ?_)
      refine lv_aload_n hx hb dX5_resize_45 rfl (lv_at hl 1 rfl) ?_
      refine x_get (v := .ref (o 1)) 0 0 X hw in_X5_resize_5 rfl rfl rfl 0 (by decide) (List.mem_of_getElem? (i := 1) rfl) rfl rfl dX5_resize_46 ?_
      refine lv_iconst (v := 4) hx hb dX5_resize_49 (by decide) ?_
      refine lv_iconst (v := 4) hx hb dX5_resize_50 (by decide) ?_
      refine lv_iload_n hx hb dX5_resize_51 rfl (lv_at hl 2 rfl) ?_
      refine lv_imul hx hb dX5_resize_52 ?_
      refine lv_iadd hx hb dX5_resize_53 ?_
      refine lv_iconst (v := 1) hx hb dX5_resize_54 (by decide) ?_
      refine lv_iadd hx hb dX5_resize_55 ?_
      refine lv_iload_n hx hb dX5_resize_56 rfl (lv_at hl 4 rfl) ?_
      obtain ⟨t_14, et_14, h⟩ := nm_ok h
      rw [← et_14]
      obtain ⟨k_15, h⟩ := ck_ok h
      obtain ⟨g_16, eg_16, h⟩ := nm_ok h
      refine x_iast (f := g_13) (bs' := [mB G o (g_16, (M_sa v_7), (M_od v_7), (M_st v_7), (M_ne v_7), (M_fd v_7), (M_tx v_7), (M_le v_7), (M_at v_7), (M_nu v_7), (M_it v_7), (M_h v_7))]) 0 1 X hw rfl rfl k_15 dX5_resize_57 (by rw [eg_16]; rfl) (fun H locs hw => ?_)
      refine lv_iload hx hb dX5_resize_58 (lv_at hl 0 rfl) ?_
      cases h
      exact x_iret X (vp_nar_int _) hw rfl rfl dX5_resize_60
    · have h := br_yes h k_6
      refine lv_bipush (v := (-3)) hx hb dX5_resize_19 (by decide) ?_
      cases h
      exact x_iret X (vp_nar_int _) hw rfl rfl dX5_resize_21
  · have h := br_yes h k_3
    refine lv_bipush (v := (-2)) hx hb dX5_resize_8 (by decide) ?_
    cases h
    exact x_iret X (vp_nar_int _) hw rfl rfl dX5_resize_10

def rX5_setChill : Room := { frames := 2, cells := 0, slots := 0, locals := 44 }
theorem hd_X5_setChill : yX5_setChill.cls = RX5 ∧ yX5_setChill.cls ≠ "java/lang/invoke/MethodHandle" ∧ yX5_setChill.cls ≠ "java/lang/invoke/VarHandle" ∧ (parseMethodDescriptor yX5_setChill.desc).map (fun d => d.parameters.length) = some 2 := by decide +kernel
theorem in_X5_setChill_5 : ∀ w ∈ u_ws RX5 TX5 12, w ∈ wsX5_setChill := fun w h => (List.mem_cons_of_mem _ (List.mem_append_right _ h))
noncomputable def f_X5_setChill  (v : MV) (x1 : Int32) (x2 : Int32) : Option (Int32 × MV) :=
  bd (f_X5_isSection v x1) fun r_1 =>
  br (r_1 = 0)
    (some ((-2), v))
    (bd (f_X5_in x2 0 500) fun r_4 =>
     br (r_4 = 0)
       (some ((-3), v))
       (bd (f_X5_saves v) fun v_7 =>
        bd (f_X5_of v_7 x1 2) fun r_9 =>
        nm (((4 + (4 * x1)) + 2) : Int32) fun t_11 =>
        ck (vp_in t_11 644) <|
        nm (upd (M_ro v_7) t_11.toNatClampNeg x2) fun g_13 =>
        some (r_9, (g_13, (M_sa v_7), (M_od v_7), (M_st v_7), (M_ne v_7), (M_fd v_7), (M_tx v_7), (M_le v_7), (M_at v_7), (M_nu v_7), (M_it v_7), (M_h v_7)))))
set_option maxHeartbeats 4000000 in
set_option maxRecDepth 100000 in
theorem m_X5_setChill {G : GG} {l : Launch} {o : Nat → Nat} {v : MV} {x1 : Int32} {x2 : Int32} {r : Int32} {zv : MV} (h : f_X5_setChill v x1 x2 = some (r, zv)) : Ci G l yX5_setChill wsX5_setChill rX5_setChill [.ref (o 0), .int x1, .int x2] (fl [mB G o v]) r (fl [mB G o zv]) := by
  refine Ci.intro cX5_setChill 4 (some .int) RX5 (by decide) rfl rfl (Nat.le_of_ble_eq_true rfl) ?_
  intro p e s m below meth c A ls X hw hl
  obtain ⟨⟨hx, hb, hml, hown, hts⟩, hK, hr, hlk, hA⟩ := id X
  unfold f_X5_setChill at h
  have hl : lv_has ls 4 [(0, .ref (o 0)), (1, .int x1), (2, .int x2)] := hl
  refine lv_aload_n hx hb dX5_setChill_0 rfl (lv_at hl 0 rfl) ?_
  refine lv_iload_n hx hb dX5_setChill_1 rfl (lv_at hl 1 rfl) ?_
  obtain ⟨r_1, c_2, h⟩ := bd_ok h
  refine x_Vi (As := [.int x1]) (w' := fl [mB G o v]) X hw (m_X5_isSection (G := G) (l := l) (o := o) c_2) Cut.all 0 0 rfl rfl rfl (cwV 1 hts gX5_setChill_X5_isSection rfl rfl rfl hd_X5_isSection ⟨Nat.le_of_ble_eq_true rfl, Nat.le_of_ble_eq_true rfl⟩) rfl hl.1 rfl (Nat.le_of_ble_eq_true rfl) dX5_setChill_2 ⟨Nat.le_of_ble_eq_true rfl, Nat.le_of_ble_eq_true rfl⟩ (fun H locs hw => ?_)
  refine lv_if_ne (tgt := 11) hx hb dX5_setChill_5 (by decide) (fun k_3 => ?_) (fun k_3 => ?_)
  · have h := br_no h k_3
    refine lv_iload_n hx hb dX5_setChill_11 rfl (lv_at hl 2 rfl) ?_
    refine lv_iconst (v := 0) hx hb dX5_setChill_12 (by decide) ?_
    refine lv_sipush (v := 500) hx hb dX5_setChill_13 (by decide) ?_
    obtain ⟨r_4, c_5, h⟩ := bd_ok h
    refine x_Si (As := [.int x2, .int 0, .int 500]) (w' := fl [mB G o v]) X hw (m_X5_in (G := G) (l := l) c_5) Cut.nil (va_cwS 3 hts gX5_setChill_X5_in rfl rfl rfl hd_X5_in.2 ⟨Nat.le_of_ble_eq_true rfl, Nat.le_of_ble_eq_true rfl⟩) rfl hl.1 rfl (Nat.le_of_ble_eq_true rfl) dX5_setChill_16 ⟨Nat.le_of_ble_eq_true rfl, Nat.le_of_ble_eq_true rfl⟩ (fun H locs hw => ?_)
    refine lv_if_ne (tgt := 25) hx hb dX5_setChill_19 (by decide) (fun k_6 => ?_) (fun k_6 => ?_)
    · have h := br_no h k_6
      refine lv_aload_n hx hb dX5_setChill_25 rfl (lv_at hl 0 rfl) ?_
      obtain ⟨v_7, c_8, h⟩ := bd_ok h
      refine x_Vv (As := []) (w' := fl [mB G o v_7]) X hw (m_X5_saves (G := G) (l := l) (o := o) c_8) Cut.all 0 0 rfl rfl rfl (cwV 0 hts gX5_setChill_X5_saves rfl rfl rfl hd_X5_saves ⟨Nat.le_of_ble_eq_true rfl, Nat.le_of_ble_eq_true rfl⟩) rfl hl.1 rfl (Nat.le_of_ble_eq_true rfl) dX5_setChill_26 ⟨Nat.le_of_ble_eq_true rfl, Nat.le_of_ble_eq_true rfl⟩ (fun H locs hw => ?_)
      refine lv_aload_n hx hb dX5_setChill_29 rfl (lv_at hl 0 rfl) ?_
      refine lv_iload_n hx hb dX5_setChill_30 rfl (lv_at hl 1 rfl) ?_
      refine lv_iconst (v := 2) hx hb dX5_setChill_31 (by decide) ?_
      obtain ⟨r_9, c_10, h⟩ := bd_ok h
      refine x_Vi (As := [.int x1, .int 2]) (w' := fl [mB G o v_7]) X hw (m_X5_of (G := G) (l := l) (o := o) c_10) Cut.all 0 0 rfl rfl rfl (cwV 2 hts gX5_setChill_X5_of rfl rfl rfl hd_X5_of ⟨Nat.le_of_ble_eq_true rfl, Nat.le_of_ble_eq_true rfl⟩) rfl hl.1 rfl (Nat.le_of_ble_eq_true rfl) dX5_setChill_32 ⟨Nat.le_of_ble_eq_true rfl, Nat.le_of_ble_eq_true rfl⟩ (fun H locs hw => ?_)
      refine lv_istore_n (lv' := [(3, .int r_9), (0, .ref (o 0)), (1, .int x1), (2, .int x2)]) hx hb dX5_setChill_35 rfl hl (by decide) rfl (fun ls hl => ?_)
      refine lv_aload_n hx hb dX5_setChill_36 rfl (lv_at hl 1 rfl) ?_
      refine x_get (v := .ref (o 1)) 0 0 X hw in_X5_setChill_5 rfl rfl rfl 0 (by decide) (List.mem_of_getElem? (i := 1) rfl) rfl rfl dX5_setChill_37 ?_
      refine lv_iconst (v := 4) hx hb dX5_setChill_40 (by decide) ?_
      refine lv_iconst (v := 4) hx hb dX5_setChill_41 (by decide) ?_
      refine lv_iload_n hx hb dX5_setChill_42 rfl (lv_at hl 2 rfl) ?_
      refine lv_imul hx hb dX5_setChill_43 ?_
      refine lv_iadd hx hb dX5_setChill_44 ?_
      refine lv_iconst (v := 2) hx hb dX5_setChill_45 (by decide) ?_
      refine lv_iadd hx hb dX5_setChill_46 ?_
      refine lv_iload_n hx hb dX5_setChill_47 rfl (lv_at hl 3 rfl) ?_
      obtain ⟨t_11, et_11, h⟩ := nm_ok h
      rw [← et_11]
      obtain ⟨k_12, h⟩ := ck_ok h
      obtain ⟨g_13, eg_13, h⟩ := nm_ok h
      refine x_iast (f := (M_ro v_7)) (bs' := [mB G o (g_13, (M_sa v_7), (M_od v_7), (M_st v_7), (M_ne v_7), (M_fd v_7), (M_tx v_7), (M_le v_7), (M_at v_7), (M_nu v_7), (M_it v_7), (M_h v_7))]) 0 1 X hw rfl rfl k_12 dX5_setChill_48 (by rw [eg_13]; rfl) (fun H locs hw => ?_)
      refine lv_iload_n hx hb dX5_setChill_49 rfl (lv_at hl 0 rfl) ?_
      cases h
      exact x_iret X (vp_nar_int _) hw rfl rfl dX5_setChill_50
    · have h := br_yes h k_6
      refine lv_bipush (v := (-3)) hx hb dX5_setChill_22 (by decide) ?_
      cases h
      exact x_iret X (vp_nar_int _) hw rfl rfl dX5_setChill_24
  · have h := br_yes h k_3
    refine lv_bipush (v := (-2)) hx hb dX5_setChill_8 (by decide) ?_
    cases h
    exact x_iret X (vp_nar_int _) hw rfl rfl dX5_setChill_10

def rX5_removeSection : Room := { frames := 2, cells := 0, slots := 0, locals := 44 }
theorem hd_X5_removeSection : yX5_removeSection.cls = RX5 ∧ yX5_removeSection.cls ≠ "java/lang/invoke/MethodHandle" ∧ yX5_removeSection.cls ≠ "java/lang/invoke/VarHandle" ∧ (parseMethodDescriptor yX5_removeSection.desc).map (fun d => d.parameters.length) = some 1 := by decide +kernel
theorem in_X5_removeSection_5 : ∀ w ∈ u_ws RX5 TX5 12, w ∈ wsX5_removeSection := fun w h => (List.mem_cons_of_mem _ (List.mem_append_right _ h))
noncomputable def f_X5_removeSection_b135   : Nat → MV → Int32 → Option (Int32 × MV)
  | 0 => fun _ _ => none
  | n + 1 => fun v x2 =>
    ck (vp_in 0 644) <|
    br ((4 * ((M_ro v) (0 : Int32).toNatClampNeg)) ≤ x2)
      (ck (vp_in 0 644) <|
       some (((M_ro v) (0 : Int32).toNatClampNeg), v))
      (nm (((4 + x2) + 4) : Int32) fun t_4 =>
       ck (vp_in t_4 644) <|
       nm (((M_ro v) t_4.toNatClampNeg) : Int32) fun t_6 =>
       nm ((4 + x2) : Int32) fun t_7 =>
       ck (vp_in t_7 644) <|
       nm (upd (M_ro v) t_7.toNatClampNeg t_6) fun g_9 =>
       nm (x2 + 1 : Int32) fun t_10 =>
       f_X5_removeSection_b135 n (g_9, (M_sa v), (M_od v), (M_st v), (M_ne v), (M_fd v), (M_tx v), (M_le v), (M_at v), (M_nu v), (M_it v), (M_h v)) t_10)
set_option maxHeartbeats 4000000 in
set_option maxRecDepth 100000 in
theorem w_X5_removeSection_b135 {G : GG} {l : Launch} {p : Program} {e : Env} {s : State} {m : MethodId} {args : Array Value} {below : List Frame} {meth : Method} {c : Code} {A : Nat → Prop} {o : Nat → Nat}  {r : Int32} {zv : MV}   (X : Cx p s m args meth c cX5_removeSection 3 (some .int) wsX5_removeSection RX5 G A)  :
    ∀ (n : Nat) (v : MV) (x2 : Int32) (H : Heap) (locs : List Loc) (ls : Array Slot), f_X5_removeSection_b135 n v x2 = some (r, zv) → Wd G A s H locs (fl [mB G o v]) → lv_has ls 3 [(0, .ref (o 0)), (2, .int x2)] → W p l e rX5_removeSection s m args below meth c H locs 0 0 (MQ below (Qi G A r (fl [mB G o zv])) args s 0 0 A) (F0 m 135 ls []) := by
  obtain ⟨⟨hx, hb, hml, hown, hts⟩, hK, hr, hlk, hA⟩ := id X
  intro n
  induction n with
  | zero =>
    intro v x2 H locs ls h
    rw [f_X5_removeSection_b135] at h
    cases h
  | succ n ih =>
    intro v x2 H locs ls h hw hl
    rw [f_X5_removeSection_b135] at h
    refine lv_iload_n hx hb dX5_removeSection_135 rfl (lv_at hl 1 rfl) ?_
    refine lv_iconst (v := 4) hx hb dX5_removeSection_136 (by decide) ?_
    refine lv_aload_n hx hb dX5_removeSection_137 rfl (lv_at hl 0 rfl) ?_
    refine x_get (v := .ref (o 1)) 0 0 X hw in_X5_removeSection_5 rfl rfl rfl 0 (by decide) (List.mem_of_getElem? (i := 1) rfl) rfl rfl dX5_removeSection_138 ?_
    refine lv_iconst (v := 0) hx hb dX5_removeSection_141 (by decide) ?_
    obtain ⟨k_1, h⟩ := ck_ok h
    refine x_iald (f := (M_ro v)) 0 1 X hw rfl rfl k_1 dX5_removeSection_142 ?_
    refine lv_imul hx hb dX5_removeSection_143 ?_
    refine lv_icmp_ge (tgt := 171) hx hb dX5_removeSection_144 (by decide) (fun k_2 => ?_) (fun k_2 => ?_)
    · have h := br_yes h k_2
      refine lv_aload_n hx hb dX5_removeSection_171 rfl (lv_at hl 0 rfl) ?_
      refine x_get (v := .ref (o 1)) 0 0 X hw in_X5_removeSection_5 rfl rfl rfl 0 (by decide) (List.mem_of_getElem? (i := 1) rfl) rfl rfl dX5_removeSection_172 ?_
      refine lv_iconst (v := 0) hx hb dX5_removeSection_175 (by decide) ?_
      obtain ⟨k_3, h⟩ := ck_ok h
      refine x_iald (f := (M_ro v)) 0 1 X hw rfl rfl k_3 dX5_removeSection_176 ?_
      cases h
      exact x_iret X (vp_nar_int _) hw rfl rfl dX5_removeSection_177
    · have h := br_no h k_2
      refine lv_aload_n hx hb dX5_removeSection_147 rfl (lv_at hl 0 rfl) ?_
      refine x_get (v := .ref (o 1)) 0 0 X hw in_X5_removeSection_5 rfl rfl rfl 0 (by decide) (List.mem_of_getElem? (i := 1) rfl) rfl rfl dX5_removeSection_148 ?_
      refine lv_iconst (v := 4) hx hb dX5_removeSection_151 (by decide) ?_
      refine lv_iload_n hx hb dX5_removeSection_152 rfl (lv_at hl 1 rfl) ?_
      refine lv_iadd hx hb dX5_removeSection_153 ?_
      refine lv_aload_n hx hb dX5_removeSection_154 rfl (lv_at hl 0 rfl) ?_
      refine x_get (v := .ref (o 1)) 0 0 X hw in_X5_removeSection_5 rfl rfl rfl 0 (by decide) (List.mem_of_getElem? (i := 1) rfl) rfl rfl dX5_removeSection_155 ?_
      refine lv_iconst (v := 4) hx hb dX5_removeSection_158 (by decide) ?_
      refine lv_iload_n hx hb dX5_removeSection_159 rfl (lv_at hl 1 rfl) ?_
      refine lv_iadd hx hb dX5_removeSection_160 ?_
      refine lv_iconst (v := 4) hx hb dX5_removeSection_161 (by decide) ?_
      refine lv_iadd hx hb dX5_removeSection_162 ?_
      obtain ⟨t_4, et_4, h⟩ := nm_ok h
      rw [← et_4]
      obtain ⟨k_5, h⟩ := ck_ok h
      refine x_iald (f := (M_ro v)) 0 1 X hw rfl rfl k_5 dX5_removeSection_163 ?_
      obtain ⟨t_6, et_6, h⟩ := nm_ok h
      rw [← et_6]
      obtain ⟨t_7, et_7, h⟩ := nm_ok h
      rw [← et_7]
      obtain ⟨k_8, h⟩ := ck_ok h
      obtain ⟨g_9, eg_9, h⟩ := nm_ok h
      refine x_iast (f := (M_ro v)) (bs' := [mB G o (g_9, (M_sa v), (M_od v), (M_st v), (M_ne v), (M_fd v), (M_tx v), (M_le v), (M_at v), (M_nu v), (M_it v), (M_h v))]) 0 1 X hw rfl rfl k_8 dX5_removeSection_164 (by rw [eg_9]; rfl) (fun H locs hw => ?_)
      obtain ⟨t_10, et_10, h⟩ := nm_ok h
      refine lv_iinc (v := t_10) (lv' := [(2, .int t_10), (0, .ref (o 0))]) hx hb dX5_removeSection_165 hl (k := 1) rfl (by rw [et_10]; rfl) (by decide) rfl (fun ls hl => ?_)
      refine lv_goto (tgt := 135) hx hb dX5_removeSection_168 (by decide) ?_
      exact ih (g_9, (M_sa v), (M_od v), (M_st v), (M_ne v), (M_fd v), (M_tx v), (M_le v), (M_at v), (M_nu v), (M_it v), (M_h v)) t_10 _ _ _ h hw (lv_sub hl [1, 0] rfl)
noncomputable def f_X5_removeSection_b73  (x1 : Int32) : Nat → MV → Int32 → Option (Int32 × MV)
  | 0 => fun _ _ => none
  | n + 1 => fun v x2 =>
    ck (vp_in 1 644) <|
    br ((2 * ((M_ro v) (1 : Int32).toNatClampNeg)) ≤ x2)
      (ck (vp_in 0 644) <|
       nm ((((M_ro v) (0 : Int32).toNatClampNeg) - 1) : Int32) fun t_4 =>
       ck (vp_in 0 644) <|
       nm (upd (M_ro v) (0 : Int32).toNatClampNeg t_4) fun g_6 =>
       nm ((4 * x1) : Int32) fun t_7 =>
       f_X5_removeSection_b135 FU (g_6, (M_sa v), (M_od v), (M_st v), (M_ne v), (M_fd v), (M_tx v), (M_le v), (M_at v), (M_nu v), (M_it v), (M_h v)) t_7)
      (nm ((52 + x2) : Int32) fun t_8 =>
       ck (vp_in t_8 644) <|
       nm ((52 + x2) : Int32) fun t_10 =>
       ck (vp_in t_10 644) <|
       br (((M_ro v) t_10.toNatClampNeg) ≤ x1)
         (nm ((((M_ro v) t_8.toNatClampNeg) - 0) : Int32) fun t_13 =>
          ck (vp_in t_8 644) <|
          nm (upd (M_ro v) t_8.toNatClampNeg t_13) fun g_15 =>
          nm (x2 + 1 : Int32) fun t_16 =>
          f_X5_removeSection_b73 x1 n (g_15, (M_sa v), (M_od v), (M_st v), (M_ne v), (M_fd v), (M_tx v), (M_le v), (M_at v), (M_nu v), (M_it v), (M_h v)) t_16)
         (nm ((((M_ro v) t_8.toNatClampNeg) - 1) : Int32) fun t_17 =>
          ck (vp_in t_8 644) <|
          nm (upd (M_ro v) t_8.toNatClampNeg t_17) fun g_19 =>
          nm (x2 + 1 : Int32) fun t_20 =>
          f_X5_removeSection_b73 x1 n (g_19, (M_sa v), (M_od v), (M_st v), (M_ne v), (M_fd v), (M_tx v), (M_le v), (M_at v), (M_nu v), (M_it v), (M_h v)) t_20))
set_option maxHeartbeats 4000000 in
set_option maxRecDepth 100000 in
theorem w_X5_removeSection_b73 {G : GG} {l : Launch} {p : Program} {e : Env} {s : State} {m : MethodId} {args : Array Value} {below : List Frame} {meth : Method} {c : Code} {A : Nat → Prop} {o : Nat → Nat} {x1 : Int32} {r : Int32} {zv : MV}   (X : Cx p s m args meth c cX5_removeSection 3 (some .int) wsX5_removeSection RX5 G A)  :
    ∀ (n : Nat) (v : MV) (x2 : Int32) (H : Heap) (locs : List Loc) (ls : Array Slot), f_X5_removeSection_b73 x1 n v x2 = some (r, zv) → Wd G A s H locs (fl [mB G o v]) → lv_has ls 3 [(0, .ref (o 0)), (1, .int x1), (2, .int x2)] → W p l e rX5_removeSection s m args below meth c H locs 0 0 (MQ below (Qi G A r (fl [mB G o zv])) args s 0 0 A) (F0 m 73 ls []) := by
  obtain ⟨⟨hx, hb, hml, hown, hts⟩, hK, hr, hlk, hA⟩ := id X
  intro n
  induction n with
  | zero =>
    intro v x2 H locs ls h
    rw [f_X5_removeSection_b73] at h
    cases h
  | succ n ih =>
    intro v x2 H locs ls h hw hl
    rw [f_X5_removeSection_b73] at h
    refine lv_iload_n hx hb dX5_removeSection_73 rfl (lv_at hl 2 rfl) ?_
    refine lv_iconst (v := 2) hx hb dX5_removeSection_74 (by decide) ?_
    refine lv_aload_n hx hb dX5_removeSection_75 rfl (lv_at hl 0 rfl) ?_
    refine x_get (v := .ref (o 1)) 0 0 X hw in_X5_removeSection_5 rfl rfl rfl 0 (by decide) (List.mem_of_getElem? (i := 1) rfl) rfl rfl dX5_removeSection_76 ?_
    refine lv_iconst (v := 1) hx hb dX5_removeSection_79 (by decide) ?_
    obtain ⟨k_1, h⟩ := ck_ok h
    refine x_iald (f := (M_ro v)) 0 1 X hw rfl rfl k_1 dX5_removeSection_80 ?_
    refine lv_imul hx hb dX5_removeSection_81 ?_
    refine lv_icmp_ge (tgt := 121) hx hb dX5_removeSection_82 (by decide) (fun k_2 => ?_) (fun k_2 => ?_)
    · have h := br_yes h k_2
      refine lv_aload_n hx hb dX5_removeSection_121 rfl (lv_at hl 0 rfl) ?_
      refine x_get (v := .ref (o 1)) 0 0 X hw in_X5_removeSection_5 rfl rfl rfl 0 (by decide) (List.mem_of_getElem? (i := 1) rfl) rfl rfl dX5_removeSection_122 ?_
      refine lv_iconst (v := 0) hx hb dX5_removeSection_125 (by decide) ?_
      refine lv_dup2_11 hx hb dX5_removeSection_126 rfl rfl ?_
      obtain ⟨k_3, h⟩ := ck_ok h
      refine x_iald (f := (M_ro v)) 0 1 X hw rfl rfl k_3 dX5_removeSection_127 ?_
      refine lv_iconst (v := 1) hx hb dX5_removeSection_128 (by decide) ?_
      refine lv_isub hx hb dX5_removeSection_129 ?_
      obtain ⟨t_4, et_4, h⟩ := nm_ok h
      rw [← et_4]
      obtain ⟨k_5, h⟩ := ck_ok h
      obtain ⟨g_6, eg_6, h⟩ := nm_ok h
      refine x_iast (f := (M_ro v)) (bs' := [mB G o (g_6, (M_sa v), (M_od v), (M_st v), (M_ne v), (M_fd v), (M_tx v), (M_le v), (M_at v), (M_nu v), (M_it v), (M_h v))]) 0 1 X hw rfl rfl k_5 dX5_removeSection_130 (by rw [eg_6]; rfl) (fun H locs hw => ?_)
      refine lv_iconst (v := 4) hx hb dX5_removeSection_131 (by decide) ?_
      refine lv_iload_n hx hb dX5_removeSection_132 rfl (lv_at hl 1 rfl) ?_
      refine lv_imul hx hb dX5_removeSection_133 ?_
      obtain ⟨t_7, et_7, h⟩ := nm_ok h
      refine lv_istore_n (lv' := [(2, .int t_7), (0, .ref (o 0)), (1, .int x1)]) hx hb dX5_removeSection_134 rfl hl (by decide) (by rw [et_7]; rfl) (fun ls hl => ?_)
      exact w_X5_removeSection_b135 X FU (g_6, (M_sa v), (M_od v), (M_st v), (M_ne v), (M_fd v), (M_tx v), (M_le v), (M_at v), (M_nu v), (M_it v), (M_h v)) t_7 _ _ _ h hw (lv_sub hl [1, 0] rfl)
    · have h := br_no h k_2
      refine lv_aload_n hx hb dX5_removeSection_85 rfl (lv_at hl 0 rfl) ?_
      refine x_get (v := .ref (o 1)) 0 0 X hw in_X5_removeSection_5 rfl rfl rfl 0 (by decide) (List.mem_of_getElem? (i := 1) rfl) rfl rfl dX5_removeSection_86 ?_
      refine lv_bipush (v := 52) hx hb dX5_removeSection_89 (by decide) ?_
      refine lv_iload_n hx hb dX5_removeSection_91 rfl (lv_at hl 2 rfl) ?_
      refine lv_iadd hx hb dX5_removeSection_92 ?_
      obtain ⟨t_8, et_8, h⟩ := nm_ok h
      rw [← et_8]
      refine lv_dup2_11 hx hb dX5_removeSection_93 rfl rfl ?_
      obtain ⟨k_9, h⟩ := ck_ok h
      refine x_iald (f := (M_ro v)) 0 1 X hw rfl rfl k_9 dX5_removeSection_94 ?_
      refine lv_aload_n hx hb dX5_removeSection_95 rfl (lv_at hl 0 rfl) ?_
      refine x_get (v := .ref (o 1)) 0 0 X hw in_X5_removeSection_5 rfl rfl rfl 0 (by decide) (List.mem_of_getElem? (i := 1) rfl) rfl rfl dX5_removeSection_96 ?_
      refine lv_bipush (v := 52) hx hb dX5_removeSection_99 (by decide) ?_
      refine lv_iload_n hx hb dX5_removeSection_101 rfl (lv_at hl 2 rfl) ?_
      refine lv_iadd hx hb dX5_removeSection_102 ?_
      obtain ⟨t_10, et_10, h⟩ := nm_ok h
      rw [← et_10]
      obtain ⟨k_11, h⟩ := ck_ok h
      refine x_iald (f := (M_ro v)) 0 1 X hw rfl rfl k_11 dX5_removeSection_103 ?_
      refine lv_iload_n hx hb dX5_removeSection_104 rfl (lv_at hl 1 rfl) ?_
      refine lv_icmp_le (tgt := 112) hx hb dX5_removeSection_105 (by decide) (fun k_12 => ?_) (fun k_12 => ?_)
      · have h := br_yes h k_12
        refine lv_iconst (v := 0) hx hb dX5_removeSection_112 (by decide) ?_
        refine lv_isub hx hb dX5_removeSection_113 ?_
        obtain ⟨t_13, et_13, h⟩ := nm_ok h
        rw [← et_13]
        obtain ⟨k_14, h⟩ := ck_ok h
        obtain ⟨g_15, eg_15, h⟩ := nm_ok h
        refine x_iast (f := (M_ro v)) (bs' := [mB G o (g_15, (M_sa v), (M_od v), (M_st v), (M_ne v), (M_fd v), (M_tx v), (M_le v), (M_at v), (M_nu v), (M_it v), (M_h v))]) 0 1 X hw rfl rfl k_14 dX5_removeSection_114 (by rw [eg_15]; rfl) (fun H locs hw => ?_)
        obtain ⟨t_16, et_16, h⟩ := nm_ok h
        refine lv_iinc (v := t_16) (lv' := [(2, .int t_16), (0, .ref (o 0)), (1, .int x1)]) hx hb dX5_removeSection_115 hl (k := 2) rfl (by rw [et_16]; rfl) (by decide) rfl (fun ls hl => ?_)
        refine lv_goto (tgt := 73) hx hb dX5_removeSection_118 (by decide) ?_
        exact ih (g_15, (M_sa v), (M_od v), (M_st v), (M_ne v), (M_fd v), (M_tx v), (M_le v), (M_at v), (M_nu v), (M_it v), (M_h v)) t_16 _ _ _ h hw (lv_sub hl [1, 2, 0] rfl)
      · have h := br_no h k_12
        refine lv_iconst (v := 1) hx hb dX5_removeSection_108 (by decide) ?_
        refine lv_goto (tgt := 113) hx hb dX5_removeSection_109 (by decide) ?_
        refine lv_isub hx hb dX5_removeSection_113 ?_
        obtain ⟨t_17, et_17, h⟩ := nm_ok h
        rw [← et_17]
        obtain ⟨k_18, h⟩ := ck_ok h
        obtain ⟨g_19, eg_19, h⟩ := nm_ok h
        refine x_iast (f := (M_ro v)) (bs' := [mB G o (g_19, (M_sa v), (M_od v), (M_st v), (M_ne v), (M_fd v), (M_tx v), (M_le v), (M_at v), (M_nu v), (M_it v), (M_h v))]) 0 1 X hw rfl rfl k_18 dX5_removeSection_114 (by rw [eg_19]; rfl) (fun H locs hw => ?_)
        obtain ⟨t_20, et_20, h⟩ := nm_ok h
        refine lv_iinc (v := t_20) (lv' := [(2, .int t_20), (0, .ref (o 0)), (1, .int x1)]) hx hb dX5_removeSection_115 hl (k := 2) rfl (by rw [et_20]; rfl) (by decide) rfl (fun ls hl => ?_)
        refine lv_goto (tgt := 73) hx hb dX5_removeSection_118 (by decide) ?_
        exact ih (g_19, (M_sa v), (M_od v), (M_st v), (M_ne v), (M_fd v), (M_tx v), (M_le v), (M_at v), (M_nu v), (M_it v), (M_h v)) t_20 _ _ _ h hw (lv_sub hl [1, 2, 0] rfl)
noncomputable def f_X5_removeSection_b60  (k24 : MV → Int32 → Option (Int32 × MV)) (x1 : Int32) (v : MV) (x2 : Int32) : Option (Int32 × MV) :=
  bd (f_X5_parts v x2) fun v_1 =>
  nm (x2 + (-1) : Int32) fun t_3 =>
  k24 v_1 t_3
set_option maxHeartbeats 4000000 in
set_option maxRecDepth 100000 in
theorem w_X5_removeSection_b60 {G : GG} {l : Launch} {p : Program} {e : Env} {s : State} {m : MethodId} {args : Array Value} {below : List Frame} {meth : Method} {c : Code} {A : Nat → Prop} {o : Nat → Nat} {x1 : Int32} {r : Int32} {zv : MV}  {k24 : MV → Int32 → Option (Int32 × MV)} (X : Cx p s m args meth c cX5_removeSection 3 (some .int) wsX5_removeSection RX5 G A) (hk24 : ∀ (v : MV) (x2 : Int32) (H : Heap) (locs : List Loc) (ls : Array Slot), k24 v x2 = some (r, zv) → Wd G A s H locs (fl [mB G o v]) → lv_has ls 3 [(0, .ref (o 0)), (1, .int x1), (2, .int x2)] → W p l e rX5_removeSection s m args below meth c H locs 0 0 (MQ below (Qi G A r (fl [mB G o zv])) args s 0 0 A) (F0 m 24 ls [])) :
    ∀ (v : MV) (x2 : Int32) (H : Heap) (locs : List Loc) (ls : Array Slot), f_X5_removeSection_b60 k24 x1 v x2 = some (r, zv) → Wd G A s H locs (fl [mB G o v]) → lv_has ls 3 [(0, .ref (o 0)), (1, .int x1), (2, .int x2)] → W p l e rX5_removeSection s m args below meth c H locs 0 0 (MQ below (Qi G A r (fl [mB G o zv])) args s 0 0 A) (F0 m 60 ls []) := by
  obtain ⟨⟨hx, hb, hml, hown, hts⟩, hK, hr, hlk, hA⟩ := id X
  intro v x2 H locs ls h hw hl
  unfold f_X5_removeSection_b60 at h
  refine lv_aload_n hx hb dX5_removeSection_60 rfl (lv_at hl 0 rfl) ?_
  refine lv_iload_n hx hb dX5_removeSection_61 rfl (lv_at hl 2 rfl) ?_
  obtain ⟨v_1, c_2, h⟩ := bd_ok h
  refine x_Vv (As := [.int x2]) (w' := fl [mB G o v_1]) X hw (m_X5_parts (G := G) (l := l) (o := o) c_2) Cut.all 0 0 rfl rfl rfl (cwV 1 hts gX5_removeSection_X5_parts rfl rfl rfl hd_X5_parts ⟨Nat.le_of_ble_eq_true rfl, Nat.le_of_ble_eq_true rfl⟩) rfl hl.1 rfl (Nat.le_of_ble_eq_true rfl) dX5_removeSection_62 ⟨Nat.le_of_ble_eq_true rfl, Nat.le_of_ble_eq_true rfl⟩ (fun H locs hw => ?_)
  obtain ⟨t_3, et_3, h⟩ := nm_ok h
  refine lv_iinc (v := t_3) (lv' := [(2, .int t_3), (0, .ref (o 0)), (1, .int x1)]) hx hb dX5_removeSection_65 hl (k := 2) rfl (by rw [et_3]; rfl) (by decide) rfl (fun ls hl => ?_)
  refine lv_goto (tgt := 24) hx hb dX5_removeSection_68 (by decide) ?_
  exact hk24 v_1 t_3 _ _ _ h hw (lv_sub hl [1, 2, 0] rfl)
noncomputable def f_X5_removeSection_b24  (x1 : Int32) : Nat → MV → Int32 → Option (Int32 × MV)
  | 0 => fun _ _ => none
  | n + 1 => fun v x2 =>
    br (x2 < 0)
      (f_X5_removeSection_b73 x1 FU v 0)
      (nm ((52 + (2 * x2)) : Int32) fun t_2 =>
       ck (vp_in t_2 644) <|
       br (((M_ro v) t_2.toNatClampNeg) = x1)
         (f_X5_removeSection_b60 (f_X5_removeSection_b24 x1 n) x1 v x2)
         (nm (((52 + (2 * x2)) + 1) : Int32) fun t_5 =>
          ck (vp_in t_5 644) <|
          br (((M_ro v) t_5.toNatClampNeg) = x1)
            (f_X5_removeSection_b60 (f_X5_removeSection_b24 x1 n) x1 v x2)
            (nm (x2 + (-1) : Int32) fun t_8 =>
             f_X5_removeSection_b24 x1 n v t_8)))
set_option maxHeartbeats 4000000 in
set_option maxRecDepth 100000 in
theorem w_X5_removeSection_b24 {G : GG} {l : Launch} {p : Program} {e : Env} {s : State} {m : MethodId} {args : Array Value} {below : List Frame} {meth : Method} {c : Code} {A : Nat → Prop} {o : Nat → Nat} {x1 : Int32} {r : Int32} {zv : MV}   (X : Cx p s m args meth c cX5_removeSection 3 (some .int) wsX5_removeSection RX5 G A)  :
    ∀ (n : Nat) (v : MV) (x2 : Int32) (H : Heap) (locs : List Loc) (ls : Array Slot), f_X5_removeSection_b24 x1 n v x2 = some (r, zv) → Wd G A s H locs (fl [mB G o v]) → lv_has ls 3 [(0, .ref (o 0)), (1, .int x1), (2, .int x2)] → W p l e rX5_removeSection s m args below meth c H locs 0 0 (MQ below (Qi G A r (fl [mB G o zv])) args s 0 0 A) (F0 m 24 ls []) := by
  obtain ⟨⟨hx, hb, hml, hown, hts⟩, hK, hr, hlk, hA⟩ := id X
  intro n
  induction n with
  | zero =>
    intro v x2 H locs ls h
    rw [f_X5_removeSection_b24] at h
    cases h
  | succ n ih =>
    intro v x2 H locs ls h hw hl
    rw [f_X5_removeSection_b24] at h
    refine lv_iload_n hx hb dX5_removeSection_24 rfl (lv_at hl 2 rfl) ?_
    refine lv_if_lt (tgt := 71) hx hb dX5_removeSection_25 (by decide) (fun k_1 => ?_) (fun k_1 => ?_)
    · have h := br_yes h k_1
      refine lv_iconst (v := 0) hx hb dX5_removeSection_71 (by decide) ?_
      refine lv_istore_n (lv' := [(2, .int 0), (0, .ref (o 0)), (1, .int x1)]) hx hb dX5_removeSection_72 rfl hl (by decide) rfl (fun ls hl => ?_)
      exact w_X5_removeSection_b73 X FU v 0 _ _ _ h hw (lv_sub hl [1, 2, 0] rfl)
    · have h := br_no h k_1
      refine lv_aload_n hx hb dX5_removeSection_28 rfl (lv_at hl 0 rfl) ?_
      refine x_get (v := .ref (o 1)) 0 0 X hw in_X5_removeSection_5 rfl rfl rfl 0 (by decide) (List.mem_of_getElem? (i := 1) rfl) rfl rfl dX5_removeSection_29 ?_
      refine lv_bipush (v := 52) hx hb dX5_removeSection_32 (by decide) ?_
      refine lv_iconst (v := 2) hx hb dX5_removeSection_34 (by decide) ?_
      refine lv_iload_n hx hb dX5_removeSection_35 rfl (lv_at hl 2 rfl) ?_
      refine lv_imul hx hb dX5_removeSection_36 ?_
      refine lv_iadd hx hb dX5_removeSection_37 ?_
      obtain ⟨t_2, et_2, h⟩ := nm_ok h
      rw [← et_2]
      obtain ⟨k_3, h⟩ := ck_ok h
      refine x_iald (f := (M_ro v)) 0 1 X hw rfl rfl k_3 dX5_removeSection_38 ?_
      refine lv_iload_n hx hb dX5_removeSection_39 rfl (lv_at hl 1 rfl) ?_
      refine lv_icmp_eq (tgt := 60) hx hb dX5_removeSection_40 (by decide) (fun k_4 => ?_) (fun k_4 => ?_)
      · have h := br_yes h k_4
        exact w_X5_removeSection_b60 X ih v x2 _ _ _ h hw (lv_sub hl [0, 1, 2] rfl)
      · have h := br_no h k_4
        refine lv_aload_n hx hb dX5_removeSection_43 rfl (lv_at hl 0 rfl) ?_
        refine x_get (v := .ref (o 1)) 0 0 X hw in_X5_removeSection_5 rfl rfl rfl 0 (by decide) (List.mem_of_getElem? (i := 1) rfl) rfl rfl dX5_removeSection_44 ?_
        refine lv_bipush (v := 52) hx hb dX5_removeSection_47 (by decide) ?_
        refine lv_iconst (v := 2) hx hb dX5_removeSection_49 (by decide) ?_
        refine lv_iload_n hx hb dX5_removeSection_50 rfl (lv_at hl 2 rfl) ?_
        refine lv_imul hx hb dX5_removeSection_51 ?_
        refine lv_iadd hx hb dX5_removeSection_52 ?_
        refine lv_iconst (v := 1) hx hb dX5_removeSection_53 (by decide) ?_
        refine lv_iadd hx hb dX5_removeSection_54 ?_
        obtain ⟨t_5, et_5, h⟩ := nm_ok h
        rw [← et_5]
        obtain ⟨k_6, h⟩ := ck_ok h
        refine x_iald (f := (M_ro v)) 0 1 X hw rfl rfl k_6 dX5_removeSection_55 ?_
        refine lv_iload_n hx hb dX5_removeSection_56 rfl (lv_at hl 1 rfl) ?_
        refine lv_icmp_ne (tgt := 65) hx hb dX5_removeSection_57 (by decide) (fun k_7 => ?_) (fun k_7 => ?_)
        · have h := br_no h k_7
          obtain ⟨t_8, et_8, h⟩ := nm_ok h
          refine lv_iinc (v := t_8) (lv' := [(2, .int t_8), (0, .ref (o 0)), (1, .int x1)]) hx hb dX5_removeSection_65 hl (k := 2) rfl (by rw [et_8]; rfl) (by decide) rfl (fun ls hl => ?_)
          refine lv_goto (tgt := 24) hx hb dX5_removeSection_68 (by decide) ?_
          exact ih v t_8 _ _ _ h hw (lv_sub hl [1, 2, 0] rfl)
        · have h := br_yes h k_7
          exact w_X5_removeSection_b60 X ih v x2 _ _ _ h hw (lv_sub hl [0, 1, 2] rfl)
noncomputable def f_X5_removeSection  (v : MV) (x1 : Int32) : Option (Int32 × MV) :=
  bd (f_X5_isSection v x1) fun r_1 =>
  br (r_1 = 0)
    (some ((-2), v))
    (bd (f_X5_saves v) fun v_4 =>
     ck (vp_in 1 644) <|
     nm ((((M_ro v_4) (1 : Int32).toNatClampNeg) - 1) : Int32) fun t_7 =>
     f_X5_removeSection_b24 x1 FU v_4 t_7)
set_option maxHeartbeats 4000000 in
set_option maxRecDepth 100000 in
theorem m_X5_removeSection {G : GG} {l : Launch} {o : Nat → Nat} {v : MV} {x1 : Int32} {r : Int32} {zv : MV} (h : f_X5_removeSection v x1 = some (r, zv)) : Ci G l yX5_removeSection wsX5_removeSection rX5_removeSection [.ref (o 0), .int x1] (fl [mB G o v]) r (fl [mB G o zv]) := by
  refine Ci.intro cX5_removeSection 3 (some .int) RX5 (by decide) rfl rfl (Nat.le_of_ble_eq_true rfl) ?_
  intro p e s m below meth c A ls X hw hl
  obtain ⟨⟨hx, hb, hml, hown, hts⟩, hK, hr, hlk, hA⟩ := id X
  unfold f_X5_removeSection at h
  have hl : lv_has ls 3 [(0, .ref (o 0)), (1, .int x1)] := hl
  refine lv_aload_n hx hb dX5_removeSection_0 rfl (lv_at hl 0 rfl) ?_
  refine lv_iload_n hx hb dX5_removeSection_1 rfl (lv_at hl 1 rfl) ?_
  obtain ⟨r_1, c_2, h⟩ := bd_ok h
  refine x_Vi (As := [.int x1]) (w' := fl [mB G o v]) X hw (m_X5_isSection (G := G) (l := l) (o := o) c_2) Cut.all 0 0 rfl rfl rfl (cwV 1 hts gX5_removeSection_X5_isSection rfl rfl rfl hd_X5_isSection ⟨Nat.le_of_ble_eq_true rfl, Nat.le_of_ble_eq_true rfl⟩) rfl hl.1 rfl (Nat.le_of_ble_eq_true rfl) dX5_removeSection_2 ⟨Nat.le_of_ble_eq_true rfl, Nat.le_of_ble_eq_true rfl⟩ (fun H locs hw => ?_)
  refine lv_if_ne (tgt := 11) hx hb dX5_removeSection_5 (by decide) (fun k_3 => ?_) (fun k_3 => ?_)
  · have h := br_no h k_3
    refine lv_aload_n hx hb dX5_removeSection_11 rfl (lv_at hl 0 rfl) ?_
    obtain ⟨v_4, c_5, h⟩ := bd_ok h
    refine x_Vv (As := []) (w' := fl [mB G o v_4]) X hw (m_X5_saves (G := G) (l := l) (o := o) c_5) Cut.all 0 0 rfl rfl rfl (cwV 0 hts gX5_removeSection_X5_saves rfl rfl rfl hd_X5_saves ⟨Nat.le_of_ble_eq_true rfl, Nat.le_of_ble_eq_true rfl⟩) rfl hl.1 rfl (Nat.le_of_ble_eq_true rfl) dX5_removeSection_12 ⟨Nat.le_of_ble_eq_true rfl, Nat.le_of_ble_eq_true rfl⟩ (fun H locs hw => ?_)
    refine lv_aload_n hx hb dX5_removeSection_15 rfl (lv_at hl 0 rfl) ?_
    refine x_get (v := .ref (o 1)) 0 0 X hw in_X5_removeSection_5 rfl rfl rfl 0 (by decide) (List.mem_of_getElem? (i := 1) rfl) rfl rfl dX5_removeSection_16 ?_
    refine lv_iconst (v := 1) hx hb dX5_removeSection_19 (by decide) ?_
    obtain ⟨k_6, h⟩ := ck_ok h
    refine x_iald (f := (M_ro v_4)) 0 1 X hw rfl rfl k_6 dX5_removeSection_20 ?_
    refine lv_iconst (v := 1) hx hb dX5_removeSection_21 (by decide) ?_
    refine lv_isub hx hb dX5_removeSection_22 ?_
    obtain ⟨t_7, et_7, h⟩ := nm_ok h
    refine lv_istore_n (lv' := [(2, .int t_7), (0, .ref (o 0)), (1, .int x1)]) hx hb dX5_removeSection_23 rfl hl (by decide) (by rw [et_7]; rfl) (fun ls hl => ?_)
    exact w_X5_removeSection_b24 X FU v_4 t_7 _ _ _ h hw (lv_sub hl [1, 2, 0] rfl)
  · have h := br_yes h k_3
    refine lv_bipush (v := (-2)) hx hb dX5_removeSection_8 (by decide) ?_
    cases h
    exact x_iret X (vp_nar_int _) hw rfl rfl dX5_removeSection_10

def rX5_join : Room := { frames := 2, cells := 0, slots := 0, locals := 44 }
theorem hd_X5_join : yX5_join.cls = RX5 ∧ yX5_join.cls ≠ "java/lang/invoke/MethodHandle" ∧ yX5_join.cls ≠ "java/lang/invoke/VarHandle" ∧ (parseMethodDescriptor yX5_join.desc).map (fun d => d.parameters.length) = some 2 := by decide +kernel
theorem in_X5_join_5 : ∀ w ∈ u_ws RX5 TX5 12, w ∈ wsX5_join := fun w h => (List.mem_cons_of_mem _ (List.mem_append_right _ h))
noncomputable def f_X5_join  (v : MV) (x1 : Int32) (x2 : Int32) : Option (Int32 × MV) :=
  bd (f_X5_isSection v x1) fun r_1 =>
  br (r_1 = 0)
    (some ((-2), v))
    (bd (f_X5_isSection v x2) fun r_4 =>
     br (r_4 = 0)
       (some ((-2), v))
       (br (x1 = x2)
          (some ((-4), v))
          (bd (f_X5_areNeighbours v x1 x2) fun r_8 =>
           br (r_8 = 0)
             (ck (vp_in 1 644) <|
              br (((M_ro v) (1 : Int32).toNatClampNeg) = 20)
                (some ((-5), v))
                (bd (f_X5_saves v) fun v_13 =>
                 bd (f_X5_joins v_13 x1 x2) fun v_15 =>
                 ck (vp_in 1 644) <|
                 some ((((M_ro v_15) (1 : Int32).toNatClampNeg) - 1), v_15)))
             (some ((-4), v)))))
set_option maxHeartbeats 4000000 in
set_option maxRecDepth 100000 in
theorem m_X5_join {G : GG} {l : Launch} {o : Nat → Nat} {v : MV} {x1 : Int32} {x2 : Int32} {r : Int32} {zv : MV} (h : f_X5_join v x1 x2 = some (r, zv)) : Ci G l yX5_join wsX5_join rX5_join [.ref (o 0), .int x1, .int x2] (fl [mB G o v]) r (fl [mB G o zv]) := by
  refine Ci.intro cX5_join 3 (some .int) RX5 (by decide) rfl rfl (Nat.le_of_ble_eq_true rfl) ?_
  intro p e s m below meth c A ls X hw hl
  obtain ⟨⟨hx, hb, hml, hown, hts⟩, hK, hr, hlk, hA⟩ := id X
  unfold f_X5_join at h
  have hl : lv_has ls 3 [(0, .ref (o 0)), (1, .int x1), (2, .int x2)] := hl
  refine lv_aload_n hx hb dX5_join_0 rfl (lv_at hl 0 rfl) ?_
  refine lv_iload_n hx hb dX5_join_1 rfl (lv_at hl 1 rfl) ?_
  obtain ⟨r_1, c_2, h⟩ := bd_ok h
  refine x_Vi (As := [.int x1]) (w' := fl [mB G o v]) X hw (m_X5_isSection (G := G) (l := l) (o := o) c_2) Cut.all 0 0 rfl rfl rfl (cwV 1 hts gX5_join_X5_isSection rfl rfl rfl hd_X5_isSection ⟨Nat.le_of_ble_eq_true rfl, Nat.le_of_ble_eq_true rfl⟩) rfl hl.1 rfl (Nat.le_of_ble_eq_true rfl) dX5_join_2 ⟨Nat.le_of_ble_eq_true rfl, Nat.le_of_ble_eq_true rfl⟩ (fun H locs hw => ?_)
  refine lv_if_eq (tgt := 16) hx hb dX5_join_5 (by decide) (fun k_3 => ?_) (fun k_3 => ?_)
  · have h := br_yes h k_3
    refine lv_bipush (v := (-2)) hx hb dX5_join_16 (by decide) ?_
    cases h
    exact x_iret X (vp_nar_int _) hw rfl rfl dX5_join_18
  · have h := br_no h k_3
    refine lv_aload_n hx hb dX5_join_8 rfl (lv_at hl 0 rfl) ?_
    refine lv_iload_n hx hb dX5_join_9 rfl (lv_at hl 2 rfl) ?_
    obtain ⟨r_4, c_5, h⟩ := bd_ok h
    refine x_Vi (As := [.int x2]) (w' := fl [mB G o v]) X hw (m_X5_isSection (G := G) (l := l) (o := o) c_5) Cut.all 0 0 rfl rfl rfl (cwV 1 hts gX5_join_X5_isSection rfl rfl rfl hd_X5_isSection ⟨Nat.le_of_ble_eq_true rfl, Nat.le_of_ble_eq_true rfl⟩) rfl hl.1 rfl (Nat.le_of_ble_eq_true rfl) dX5_join_10 ⟨Nat.le_of_ble_eq_true rfl, Nat.le_of_ble_eq_true rfl⟩ (fun H locs hw => ?_)
    refine lv_if_ne (tgt := 19) hx hb dX5_join_13 (by decide) (fun k_6 => ?_) (fun k_6 => ?_)
    · have h := br_no h k_6
      refine lv_iload_n hx hb dX5_join_19 rfl (lv_at hl 1 rfl) ?_
      refine lv_iload_n hx hb dX5_join_20 rfl (lv_at hl 2 rfl) ?_
      refine lv_icmp_eq (tgt := 33) hx hb dX5_join_21 (by decide) (fun k_7 => ?_) (fun k_7 => ?_)
      · have h := br_yes h k_7
        refine lv_bipush (v := (-4)) hx hb dX5_join_33 (by decide) ?_
        cases h
        exact x_iret X (vp_nar_int _) hw rfl rfl dX5_join_35
      · have h := br_no h k_7
        refine lv_aload_n hx hb dX5_join_24 rfl (lv_at hl 0 rfl) ?_
        refine lv_iload_n hx hb dX5_join_25 rfl (lv_at hl 1 rfl) ?_
        refine lv_iload_n hx hb dX5_join_26 rfl (lv_at hl 2 rfl) ?_
        obtain ⟨r_8, c_9, h⟩ := bd_ok h
        refine x_Vi (As := [.int x1, .int x2]) (w' := fl [mB G o v]) X hw (m_X5_areNeighbours (G := G) (l := l) (o := o) c_9) Cut.all 0 0 rfl rfl rfl (cwV 2 hts gX5_join_X5_areNeighbours rfl rfl rfl hd_X5_areNeighbours ⟨Nat.le_of_ble_eq_true rfl, Nat.le_of_ble_eq_true rfl⟩) rfl hl.1 rfl (Nat.le_of_ble_eq_true rfl) dX5_join_27 ⟨Nat.le_of_ble_eq_true rfl, Nat.le_of_ble_eq_true rfl⟩ (fun H locs hw => ?_)
        refine lv_if_eq (tgt := 36) hx hb dX5_join_30 (by decide) (fun k_10 => ?_) (fun k_10 => ?_)
        · have h := br_yes h k_10
          refine lv_aload_n hx hb dX5_join_36 rfl (lv_at hl 0 rfl) ?_
          refine x_get (v := .ref (o 1)) 0 0 X hw in_X5_join_5 rfl rfl rfl 0 (by decide) (List.mem_of_getElem? (i := 1) rfl) rfl rfl dX5_join_37 ?_
          refine lv_iconst (v := 1) hx hb dX5_join_40 (by decide) ?_
          obtain ⟨k_11, h⟩ := ck_ok h
          refine x_iald (f := (M_ro v)) 0 1 X hw rfl rfl k_11 dX5_join_41 ?_
          refine lv_bipush (v := 20) hx hb dX5_join_42 (by decide) ?_
          refine lv_icmp_ne (tgt := 50) hx hb dX5_join_44 (by decide) (fun k_12 => ?_) (fun k_12 => ?_)
          · have h := br_no h k_12
            refine lv_aload_n hx hb dX5_join_50 rfl (lv_at hl 0 rfl) ?_
            obtain ⟨v_13, c_14, h⟩ := bd_ok h
            refine x_Vv (As := []) (w' := fl [mB G o v_13]) X hw (m_X5_saves (G := G) (l := l) (o := o) c_14) Cut.all 0 0 rfl rfl rfl (cwV 0 hts gX5_join_X5_saves rfl rfl rfl hd_X5_saves ⟨Nat.le_of_ble_eq_true rfl, Nat.le_of_ble_eq_true rfl⟩) rfl hl.1 rfl (Nat.le_of_ble_eq_true rfl) dX5_join_51 ⟨Nat.le_of_ble_eq_true rfl, Nat.le_of_ble_eq_true rfl⟩ (fun H locs hw => ?_)
            refine lv_aload_n hx hb dX5_join_54 rfl (lv_at hl 0 rfl) ?_
            refine lv_iload_n hx hb dX5_join_55 rfl (lv_at hl 1 rfl) ?_
            refine lv_iload_n hx hb dX5_join_56 rfl (lv_at hl 2 rfl) ?_
            obtain ⟨v_15, c_16, h⟩ := bd_ok h
            refine x_Vv (As := [.int x1, .int x2]) (w' := fl [mB G o v_15]) X hw (m_X5_joins (G := G) (l := l) (o := o) c_16) Cut.all 0 0 rfl rfl rfl (cwV 2 hts gX5_join_X5_joins rfl rfl rfl hd_X5_joins ⟨Nat.le_of_ble_eq_true rfl, Nat.le_of_ble_eq_true rfl⟩) rfl hl.1 rfl (Nat.le_of_ble_eq_true rfl) dX5_join_57 ⟨Nat.le_of_ble_eq_true rfl, Nat.le_of_ble_eq_true rfl⟩ (fun H locs hw => ?_)
            refine lv_aload_n hx hb dX5_join_60 rfl (lv_at hl 0 rfl) ?_
            refine x_get (v := .ref (o 1)) 0 0 X hw in_X5_join_5 rfl rfl rfl 0 (by decide) (List.mem_of_getElem? (i := 1) rfl) rfl rfl dX5_join_61 ?_
            refine lv_iconst (v := 1) hx hb dX5_join_64 (by decide) ?_
            obtain ⟨k_17, h⟩ := ck_ok h
            refine x_iald (f := (M_ro v_15)) 0 1 X hw rfl rfl k_17 dX5_join_65 ?_
            refine lv_iconst (v := 1) hx hb dX5_join_66 (by decide) ?_
            refine lv_isub hx hb dX5_join_67 ?_
            cases h
            exact x_iret X (vp_nar_int _) hw rfl rfl dX5_join_68
          · have h := br_yes h k_12
            refine lv_bipush (v := (-5)) hx hb dX5_join_47 (by decide) ?_
            cases h
            exact x_iret X (vp_nar_int _) hw rfl rfl dX5_join_49
        · have h := br_no h k_10
          refine lv_bipush (v := (-4)) hx hb dX5_join_33 (by decide) ?_
          cases h
          exact x_iret X (vp_nar_int _) hw rfl rfl dX5_join_35
    · have h := br_yes h k_6
      refine lv_bipush (v := (-2)) hx hb dX5_join_16 (by decide) ?_
      cases h
      exact x_iret X (vp_nar_int _) hw rfl rfl dX5_join_18

def rX5_part : Room := { frames := 2, cells := 0, slots := 0, locals := 44 }
theorem hd_X5_part : yX5_part.cls = RX5 ∧ yX5_part.cls ≠ "java/lang/invoke/MethodHandle" ∧ yX5_part.cls ≠ "java/lang/invoke/VarHandle" ∧ (parseMethodDescriptor yX5_part.desc).map (fun d => d.parameters.length) = some 1 := by decide +kernel
theorem in_X5_part_5 : ∀ w ∈ u_ws RX5 TX5 12, w ∈ wsX5_part := fun w h => (List.mem_cons_of_mem _ (List.mem_append_right _ h))
noncomputable def f_X5_part  (v : MV) (x1 : Int32) : Option (Int32 × MV) :=
  bd (f_X5_isJoint v x1) fun r_1 =>
  br (r_1 = 0)
    (some ((-2), v))
    (bd (f_X5_saves v) fun v_4 =>
     bd (f_X5_parts v_4 x1) fun v_6 =>
     ck (vp_in 1 644) <|
     some (((M_ro v_6) (1 : Int32).toNatClampNeg), v_6))
set_option maxHeartbeats 4000000 in
set_option maxRecDepth 100000 in
theorem m_X5_part {G : GG} {l : Launch} {o : Nat → Nat} {v : MV} {x1 : Int32} {r : Int32} {zv : MV} (h : f_X5_part v x1 = some (r, zv)) : Ci G l yX5_part wsX5_part rX5_part [.ref (o 0), .int x1] (fl [mB G o v]) r (fl [mB G o zv]) := by
  refine Ci.intro cX5_part 2 (some .int) RX5 (by decide) rfl rfl (Nat.le_of_ble_eq_true rfl) ?_
  intro p e s m below meth c A ls X hw hl
  obtain ⟨⟨hx, hb, hml, hown, hts⟩, hK, hr, hlk, hA⟩ := id X
  unfold f_X5_part at h
  have hl : lv_has ls 2 [(0, .ref (o 0)), (1, .int x1)] := hl
  refine lv_aload_n hx hb dX5_part_0 rfl (lv_at hl 0 rfl) ?_
  refine lv_iload_n hx hb dX5_part_1 rfl (lv_at hl 1 rfl) ?_
  obtain ⟨r_1, c_2, h⟩ := bd_ok h
  refine x_Vi (As := [.int x1]) (w' := fl [mB G o v]) X hw (m_X5_isJoint (G := G) (l := l) (o := o) c_2) Cut.all 0 0 rfl rfl rfl (cwV 1 hts gX5_part_X5_isJoint rfl rfl rfl hd_X5_isJoint ⟨Nat.le_of_ble_eq_true rfl, Nat.le_of_ble_eq_true rfl⟩) rfl hl.1 rfl (Nat.le_of_ble_eq_true rfl) dX5_part_2 ⟨Nat.le_of_ble_eq_true rfl, Nat.le_of_ble_eq_true rfl⟩ (fun H locs hw => ?_)
  refine lv_if_ne (tgt := 11) hx hb dX5_part_5 (by decide) (fun k_3 => ?_) (fun k_3 => ?_)
  · have h := br_no h k_3
    refine lv_aload_n hx hb dX5_part_11 rfl (lv_at hl 0 rfl) ?_
    obtain ⟨v_4, c_5, h⟩ := bd_ok h
    refine x_Vv (As := []) (w' := fl [mB G o v_4]) X hw (m_X5_saves (G := G) (l := l) (o := o) c_5) Cut.all 0 0 rfl rfl rfl (cwV 0 hts gX5_part_X5_saves rfl rfl rfl hd_X5_saves ⟨Nat.le_of_ble_eq_true rfl, Nat.le_of_ble_eq_true rfl⟩) rfl hl.1 rfl (Nat.le_of_ble_eq_true rfl) dX5_part_12 ⟨Nat.le_of_ble_eq_true rfl, Nat.le_of_ble_eq_true rfl⟩ (fun H locs hw => ?_)
    refine lv_aload_n hx hb dX5_part_15 rfl (lv_at hl 0 rfl) ?_
    refine lv_iload_n hx hb dX5_part_16 rfl (lv_at hl 1 rfl) ?_
    obtain ⟨v_6, c_7, h⟩ := bd_ok h
    refine x_Vv (As := [.int x1]) (w' := fl [mB G o v_6]) X hw (m_X5_parts (G := G) (l := l) (o := o) c_7) Cut.all 0 0 rfl rfl rfl (cwV 1 hts gX5_part_X5_parts rfl rfl rfl hd_X5_parts ⟨Nat.le_of_ble_eq_true rfl, Nat.le_of_ble_eq_true rfl⟩) rfl hl.1 rfl (Nat.le_of_ble_eq_true rfl) dX5_part_17 ⟨Nat.le_of_ble_eq_true rfl, Nat.le_of_ble_eq_true rfl⟩ (fun H locs hw => ?_)
    refine lv_aload_n hx hb dX5_part_20 rfl (lv_at hl 0 rfl) ?_
    refine x_get (v := .ref (o 1)) 0 0 X hw in_X5_part_5 rfl rfl rfl 0 (by decide) (List.mem_of_getElem? (i := 1) rfl) rfl rfl dX5_part_21 ?_
    refine lv_iconst (v := 1) hx hb dX5_part_24 (by decide) ?_
    obtain ⟨k_8, h⟩ := ck_ok h
    refine x_iald (f := (M_ro v_6)) 0 1 X hw rfl rfl k_8 dX5_part_25 ?_
    cases h
    exact x_iret X (vp_nar_int _) hw rfl rfl dX5_part_26
  · have h := br_yes h k_3
    refine lv_bipush (v := (-2)) hx hb dX5_part_8 (by decide) ?_
    cases h
    exact x_iret X (vp_nar_int _) hw rfl rfl dX5_part_10

def rX5_setMetal : Room := { frames := 2, cells := 0, slots := 0, locals := 44 }
theorem hd_X5_setMetal : yX5_setMetal.cls = RX5 ∧ yX5_setMetal.cls ≠ "java/lang/invoke/MethodHandle" ∧ yX5_setMetal.cls ≠ "java/lang/invoke/VarHandle" ∧ (parseMethodDescriptor yX5_setMetal.desc).map (fun d => d.parameters.length) = some 2 := by decide +kernel
theorem in_X5_setMetal_5 : ∀ w ∈ u_ws RX5 TX5 12, w ∈ wsX5_setMetal := fun w h => (List.mem_cons_of_mem _ (List.mem_append_right _ h))
noncomputable def f_X5_setMetal  (v : MV) (x1 : Int32) (x2 : Int32) : Option (Int32 × MV) :=
  bd (f_X5_in x1 0 200) fun r_1 =>
  br (r_1 = 0)
    (some ((-3), v))
    (bd (f_X5_in x2 0 500) fun r_4 =>
     br (r_4 = 0)
       (some ((-3), v))
       (bd (f_X5_saves v) fun v_7 =>
        ck (vp_in 2 644) <|
        nm (((M_ro v_7) (2 : Int32).toNatClampNeg) : Int32) fun t_10 =>
        ck (vp_in 2 644) <|
        nm (upd (M_ro v_7) (2 : Int32).toNatClampNeg x1) fun g_12 =>
        ck (vp_in 3 644) <|
        nm (upd g_12 (3 : Int32).toNatClampNeg x2) fun g_14 =>
        some (t_10, (g_14, (M_sa v_7), (M_od v_7), (M_st v_7), (M_ne v_7), (M_fd v_7), (M_tx v_7), (M_le v_7), (M_at v_7), (M_nu v_7), (M_it v_7), (M_h v_7)))))
set_option maxHeartbeats 4000000 in
set_option maxRecDepth 100000 in
theorem m_X5_setMetal {G : GG} {l : Launch} {o : Nat → Nat} {v : MV} {x1 : Int32} {x2 : Int32} {r : Int32} {zv : MV} (h : f_X5_setMetal v x1 x2 = some (r, zv)) : Ci G l yX5_setMetal wsX5_setMetal rX5_setMetal [.ref (o 0), .int x1, .int x2] (fl [mB G o v]) r (fl [mB G o zv]) := by
  refine Ci.intro cX5_setMetal 4 (some .int) RX5 (by decide) rfl rfl (Nat.le_of_ble_eq_true rfl) ?_
  intro p e s m below meth c A ls X hw hl
  obtain ⟨⟨hx, hb, hml, hown, hts⟩, hK, hr, hlk, hA⟩ := id X
  unfold f_X5_setMetal at h
  have hl : lv_has ls 4 [(0, .ref (o 0)), (1, .int x1), (2, .int x2)] := hl
  refine lv_iload_n hx hb dX5_setMetal_0 rfl (lv_at hl 1 rfl) ?_
  refine lv_iconst (v := 0) hx hb dX5_setMetal_1 (by decide) ?_
  refine lv_sipush (v := 200) hx hb dX5_setMetal_2 (by decide) ?_
  obtain ⟨r_1, c_2, h⟩ := bd_ok h
  refine x_Si (As := [.int x1, .int 0, .int 200]) (w' := fl [mB G o v]) X hw (m_X5_in (G := G) (l := l) c_2) Cut.nil (va_cwS 3 hts gX5_setMetal_X5_in rfl rfl rfl hd_X5_in.2 ⟨Nat.le_of_ble_eq_true rfl, Nat.le_of_ble_eq_true rfl⟩) rfl hl.1 rfl (Nat.le_of_ble_eq_true rfl) dX5_setMetal_5 ⟨Nat.le_of_ble_eq_true rfl, Nat.le_of_ble_eq_true rfl⟩ (fun H locs hw => ?_)
  refine lv_if_eq (tgt := 22) hx hb dX5_setMetal_8 (by decide) (fun k_3 => ?_) (fun k_3 => ?_)
  · have h := br_yes h k_3
    refine lv_bipush (v := (-3)) hx hb dX5_setMetal_22 (by decide) ?_
    cases h
    exact x_iret X (vp_nar_int _) hw rfl rfl dX5_setMetal_24
  · have h := br_no h k_3
    refine lv_iload_n hx hb dX5_setMetal_11 rfl (lv_at hl 2 rfl) ?_
    refine lv_iconst (v := 0) hx hb dX5_setMetal_12 (by decide) ?_
    refine lv_sipush (v := 500) hx hb dX5_setMetal_13 (by decide) ?_
    obtain ⟨r_4, c_5, h⟩ := bd_ok h
    refine x_Si (As := [.int x2, .int 0, .int 500]) (w' := fl [mB G o v]) X hw (m_X5_in (G := G) (l := l) c_5) Cut.nil (va_cwS 3 hts gX5_setMetal_X5_in rfl rfl rfl hd_X5_in.2 ⟨Nat.le_of_ble_eq_true rfl, Nat.le_of_ble_eq_true rfl⟩) rfl hl.1 rfl (Nat.le_of_ble_eq_true rfl) dX5_setMetal_16 ⟨Nat.le_of_ble_eq_true rfl, Nat.le_of_ble_eq_true rfl⟩ (fun H locs hw => ?_)
    refine lv_if_ne (tgt := 25) hx hb dX5_setMetal_19 (by decide) (fun k_6 => ?_) (fun k_6 => ?_)
    · have h := br_no h k_6
      refine lv_aload_n hx hb dX5_setMetal_25 rfl (lv_at hl 0 rfl) ?_
      obtain ⟨v_7, c_8, h⟩ := bd_ok h
      refine x_Vv (As := []) (w' := fl [mB G o v_7]) X hw (m_X5_saves (G := G) (l := l) (o := o) c_8) Cut.all 0 0 rfl rfl rfl (cwV 0 hts gX5_setMetal_X5_saves rfl rfl rfl hd_X5_saves ⟨Nat.le_of_ble_eq_true rfl, Nat.le_of_ble_eq_true rfl⟩) rfl hl.1 rfl (Nat.le_of_ble_eq_true rfl) dX5_setMetal_26 ⟨Nat.le_of_ble_eq_true rfl, Nat.le_of_ble_eq_true rfl⟩ (fun H locs hw => ?_)
      refine lv_aload_n hx hb dX5_setMetal_29 rfl (lv_at hl 0 rfl) ?_
      refine x_get (v := .ref (o 1)) 0 0 X hw in_X5_setMetal_5 rfl rfl rfl 0 (by decide) (List.mem_of_getElem? (i := 1) rfl) rfl rfl dX5_setMetal_30 ?_
      refine lv_iconst (v := 2) hx hb dX5_setMetal_33 (by decide) ?_
      obtain ⟨k_9, h⟩ := ck_ok h
      refine x_iald (f := (M_ro v_7)) 0 1 X hw rfl rfl k_9 dX5_setMetal_34 ?_
      obtain ⟨t_10, et_10, h⟩ := nm_ok h
      refine lv_istore_n (lv' := [(3, .int t_10), (0, .ref (o 0)), (1, .int x1), (2, .int x2)]) hx hb dX5_setMetal_35 rfl hl (by decide) (by rw [et_10]; rfl) (fun ls hl => ?_)
      refine lv_aload_n hx hb dX5_setMetal_36 rfl (lv_at hl 1 rfl) ?_
      refine x_get (v := .ref (o 1)) 0 0 X hw in_X5_setMetal_5 rfl rfl rfl 0 (by decide) (List.mem_of_getElem? (i := 1) rfl) rfl rfl dX5_setMetal_37 ?_
      refine lv_iconst (v := 2) hx hb dX5_setMetal_40 (by decide) ?_
      refine lv_iload_n hx hb dX5_setMetal_41 rfl (lv_at hl 2 rfl) ?_
      obtain ⟨k_11, h⟩ := ck_ok h
      obtain ⟨g_12, eg_12, h⟩ := nm_ok h
      refine x_iast (f := (M_ro v_7)) (bs' := [mB G o (g_12, (M_sa v_7), (M_od v_7), (M_st v_7), (M_ne v_7), (M_fd v_7), (M_tx v_7), (M_le v_7), (M_at v_7), (M_nu v_7), (M_it v_7), (M_h v_7))]) 0 1 X hw rfl rfl k_11 dX5_setMetal_42 (by rw [eg_12]; rfl) (fun H locs hw => ?_)
      refine lv_aload_n hx hb dX5_setMetal_43 rfl (lv_at hl 1 rfl) ?_
      refine x_get (v := .ref (o 1)) 0 0 X hw in_X5_setMetal_5 rfl rfl rfl 0 (by decide) (List.mem_of_getElem? (i := 1) rfl) rfl rfl dX5_setMetal_44 ?_
      refine lv_iconst (v := 3) hx hb dX5_setMetal_47 (by decide) ?_
      refine lv_iload_n hx hb dX5_setMetal_48 rfl (lv_at hl 3 rfl) ?_
      obtain ⟨k_13, h⟩ := ck_ok h
      obtain ⟨g_14, eg_14, h⟩ := nm_ok h
      refine x_iast (f := g_12) (bs' := [mB G o (g_14, (M_sa v_7), (M_od v_7), (M_st v_7), (M_ne v_7), (M_fd v_7), (M_tx v_7), (M_le v_7), (M_at v_7), (M_nu v_7), (M_it v_7), (M_h v_7))]) 0 1 X hw rfl rfl k_13 dX5_setMetal_49 (by rw [eg_14]; rfl) (fun H locs hw => ?_)
      refine lv_iload_n hx hb dX5_setMetal_50 rfl (lv_at hl 0 rfl) ?_
      cases h
      exact x_iret X (vp_nar_int _) hw rfl rfl dX5_setMetal_51
    · have h := br_yes h k_6
      refine lv_bipush (v := (-3)) hx hb dX5_setMetal_22 (by decide) ?_
      cases h
      exact x_iret X (vp_nar_int _) hw rfl rfl dX5_setMetal_24

def rX5_isBefore : Room := { frames := 1, cells := 0, slots := 0, locals := 22 }
theorem hd_X5_isBefore : yX5_isBefore.cls = RX5 ∧ yX5_isBefore.cls ≠ "java/lang/invoke/MethodHandle" ∧ yX5_isBefore.cls ≠ "java/lang/invoke/VarHandle" ∧ (parseMethodDescriptor yX5_isBefore.desc).map (fun d => d.parameters.length) = some 2 := by decide +kernel
noncomputable def f_X5_isBefore_b60  (v : MV) : Option (Int32) :=
  some (1)
set_option maxHeartbeats 4000000 in
set_option maxRecDepth 100000 in
theorem w_X5_isBefore_b60 {G : GG} {l : Launch} {p : Program} {e : Env} {s : State} {m : MethodId} {args : Array Value} {below : List Frame} {meth : Method} {c : Code} {A : Nat → Prop} {o : Nat → Nat} {v : MV} {r : Int32}    (X : Cx p s m args meth c cX5_isBefore 5 (some .boolean) wsX5_isBefore RX5 G A)  :
    ∀  (H : Heap) (locs : List Loc) (ls : Array Slot), f_X5_isBefore_b60 v = some (r) → Wd G A s H locs (fl [mB G o v]) → lv_has ls 5 [] → W p l e rX5_isBefore s m args below meth c H locs 0 0 (MQ below (Qi G A r (fl [mB G o v])) args s 0 0 A) (F0 m 60 ls []) := by
  obtain ⟨⟨hx, hb, hml, hown, hts⟩, hK, hr, hlk, hA⟩ := id X
  intro  H locs ls h hw hl
  unfold f_X5_isBefore_b60 at h
  refine lv_iconst (v := 1) hx hb dX5_isBefore_60 (by decide) ?_
  refine lv_goto (tgt := 65) hx hb dX5_isBefore_61 (by decide) ?_
  cases h
  exact x_iret X (narz (Or.inr rfl)) hw rfl rfl dX5_isBefore_65
noncomputable def f_X5_isBefore  (v : MV) (x1 : Int32) (x2 : Int32) : Option (Int32) :=
  bd (f_X5_of v x1 0) fun r_1 =>
  bd (f_X5_of v x2 1) fun r_3 =>
  bd (f_X5_of v x2 2) fun r_5 =>
  nm ((r_1 * (r_3 + r_5)) : Int32) fun t_7 =>
  bd (f_X5_of v x2 0) fun r_8 =>
  bd (f_X5_of v x1 1) fun r_10 =>
  bd (f_X5_of v x1 2) fun r_12 =>
  nm ((r_8 * (r_10 + r_12)) : Int32) fun t_14 =>
  br (t_7 < t_14)
    (f_X5_isBefore_b60 v)
    (br (t_7 = t_14)
       (br (x2 ≤ x1)
          (some (0))
          (f_X5_isBefore_b60 v))
       (some (0)))
set_option maxHeartbeats 4000000 in
set_option maxRecDepth 100000 in
theorem m_X5_isBefore {G : GG} {l : Launch} {o : Nat → Nat} {v : MV} {x1 : Int32} {x2 : Int32} {r : Int32}  (h : f_X5_isBefore v x1 x2 = some (r)) : Ci G l yX5_isBefore wsX5_isBefore rX5_isBefore [.ref (o 0), .int x1, .int x2] (fl [mB G o v]) r (fl [mB G o v]) := by
  refine Ci.intro cX5_isBefore 5 (some .boolean) RX5 (by decide) rfl rfl (Nat.le_of_ble_eq_true rfl) ?_
  intro p e s m below meth c A ls X hw hl
  obtain ⟨⟨hx, hb, hml, hown, hts⟩, hK, hr, hlk, hA⟩ := id X
  unfold f_X5_isBefore at h
  have hl : lv_has ls 5 [(0, .ref (o 0)), (1, .int x1), (2, .int x2)] := hl
  refine lv_aload_n hx hb dX5_isBefore_0 rfl (lv_at hl 0 rfl) ?_
  refine lv_iload_n hx hb dX5_isBefore_1 rfl (lv_at hl 1 rfl) ?_
  refine lv_iconst (v := 0) hx hb dX5_isBefore_2 (by decide) ?_
  obtain ⟨r_1, c_2, h⟩ := bd_ok h
  refine x_Vi (As := [.int x1, .int 0]) (w' := fl [mB G o v]) X hw (m_X5_of (G := G) (l := l) (o := o) c_2) Cut.all 0 0 rfl rfl rfl (cwV 2 hts gX5_isBefore_X5_of rfl rfl rfl hd_X5_of ⟨Nat.le_of_ble_eq_true rfl, Nat.le_of_ble_eq_true rfl⟩) rfl hl.1 rfl (Nat.le_of_ble_eq_true rfl) dX5_isBefore_3 ⟨Nat.le_of_ble_eq_true rfl, Nat.le_of_ble_eq_true rfl⟩ (fun H locs hw => ?_)
  refine lv_aload_n hx hb dX5_isBefore_6 rfl (lv_at hl 0 rfl) ?_
  refine lv_iload_n hx hb dX5_isBefore_7 rfl (lv_at hl 2 rfl) ?_
  refine lv_iconst (v := 1) hx hb dX5_isBefore_8 (by decide) ?_
  obtain ⟨r_3, c_4, h⟩ := bd_ok h
  refine x_Vi (As := [.int x2, .int 1]) (w' := fl [mB G o v]) X hw (m_X5_of (G := G) (l := l) (o := o) c_4) Cut.all 0 0 rfl rfl rfl (cwV 2 hts gX5_isBefore_X5_of rfl rfl rfl hd_X5_of ⟨Nat.le_of_ble_eq_true rfl, Nat.le_of_ble_eq_true rfl⟩) rfl hl.1 rfl (Nat.le_of_ble_eq_true rfl) dX5_isBefore_9 ⟨Nat.le_of_ble_eq_true rfl, Nat.le_of_ble_eq_true rfl⟩ (fun H locs hw => ?_)
  refine lv_aload_n hx hb dX5_isBefore_12 rfl (lv_at hl 0 rfl) ?_
  refine lv_iload_n hx hb dX5_isBefore_13 rfl (lv_at hl 2 rfl) ?_
  refine lv_iconst (v := 2) hx hb dX5_isBefore_14 (by decide) ?_
  obtain ⟨r_5, c_6, h⟩ := bd_ok h
  refine x_Vi (As := [.int x2, .int 2]) (w' := fl [mB G o v]) X hw (m_X5_of (G := G) (l := l) (o := o) c_6) Cut.all 0 0 rfl rfl rfl (cwV 2 hts gX5_isBefore_X5_of rfl rfl rfl hd_X5_of ⟨Nat.le_of_ble_eq_true rfl, Nat.le_of_ble_eq_true rfl⟩) rfl hl.1 rfl (Nat.le_of_ble_eq_true rfl) dX5_isBefore_15 ⟨Nat.le_of_ble_eq_true rfl, Nat.le_of_ble_eq_true rfl⟩ (fun H locs hw => ?_)
  refine lv_iadd hx hb dX5_isBefore_18 ?_
  refine lv_imul hx hb dX5_isBefore_19 ?_
  obtain ⟨t_7, et_7, h⟩ := nm_ok h
  refine lv_istore_n (lv' := [(3, .int t_7), (0, .ref (o 0)), (1, .int x1), (2, .int x2)]) hx hb dX5_isBefore_20 rfl hl (by decide) (by rw [et_7]; rfl) (fun ls hl => ?_)
  refine lv_aload_n hx hb dX5_isBefore_21 rfl (lv_at hl 1 rfl) ?_
  refine lv_iload_n hx hb dX5_isBefore_22 rfl (lv_at hl 3 rfl) ?_
  refine lv_iconst (v := 0) hx hb dX5_isBefore_23 (by decide) ?_
  obtain ⟨r_8, c_9, h⟩ := bd_ok h
  refine x_Vi (As := [.int x2, .int 0]) (w' := fl [mB G o v]) X hw (m_X5_of (G := G) (l := l) (o := o) c_9) Cut.all 0 0 rfl rfl rfl (cwV 2 hts gX5_isBefore_X5_of rfl rfl rfl hd_X5_of ⟨Nat.le_of_ble_eq_true rfl, Nat.le_of_ble_eq_true rfl⟩) rfl hl.1 rfl (Nat.le_of_ble_eq_true rfl) dX5_isBefore_24 ⟨Nat.le_of_ble_eq_true rfl, Nat.le_of_ble_eq_true rfl⟩ (fun H locs hw => ?_)
  refine lv_aload_n hx hb dX5_isBefore_27 rfl (lv_at hl 1 rfl) ?_
  refine lv_iload_n hx hb dX5_isBefore_28 rfl (lv_at hl 2 rfl) ?_
  refine lv_iconst (v := 1) hx hb dX5_isBefore_29 (by decide) ?_
  obtain ⟨r_10, c_11, h⟩ := bd_ok h
  refine x_Vi (As := [.int x1, .int 1]) (w' := fl [mB G o v]) X hw (m_X5_of (G := G) (l := l) (o := o) c_11) Cut.all 0 0 rfl rfl rfl (cwV 2 hts gX5_isBefore_X5_of rfl rfl rfl hd_X5_of ⟨Nat.le_of_ble_eq_true rfl, Nat.le_of_ble_eq_true rfl⟩) rfl hl.1 rfl (Nat.le_of_ble_eq_true rfl) dX5_isBefore_30 ⟨Nat.le_of_ble_eq_true rfl, Nat.le_of_ble_eq_true rfl⟩ (fun H locs hw => ?_)
  refine lv_aload_n hx hb dX5_isBefore_33 rfl (lv_at hl 1 rfl) ?_
  refine lv_iload_n hx hb dX5_isBefore_34 rfl (lv_at hl 2 rfl) ?_
  refine lv_iconst (v := 2) hx hb dX5_isBefore_35 (by decide) ?_
  obtain ⟨r_12, c_13, h⟩ := bd_ok h
  refine x_Vi (As := [.int x1, .int 2]) (w' := fl [mB G o v]) X hw (m_X5_of (G := G) (l := l) (o := o) c_13) Cut.all 0 0 rfl rfl rfl (cwV 2 hts gX5_isBefore_X5_of rfl rfl rfl hd_X5_of ⟨Nat.le_of_ble_eq_true rfl, Nat.le_of_ble_eq_true rfl⟩) rfl hl.1 rfl (Nat.le_of_ble_eq_true rfl) dX5_isBefore_36 ⟨Nat.le_of_ble_eq_true rfl, Nat.le_of_ble_eq_true rfl⟩ (fun H locs hw => ?_)
  refine lv_iadd hx hb dX5_isBefore_39 ?_
  refine lv_imul hx hb dX5_isBefore_40 ?_
  obtain ⟨t_14, et_14, h⟩ := nm_ok h
  refine lv_istore (lv' := [(4, .int t_14), (3, .int t_7), (0, .ref (o 0)), (1, .int x1), (2, .int x2)]) hx hb dX5_isBefore_41 hl (by decide) (by rw [et_14]; rfl) (fun ls hl => ?_)
  refine lv_iload_n hx hb dX5_isBefore_43 rfl (lv_at hl 1 rfl) ?_
  refine lv_iload hx hb dX5_isBefore_44 (lv_at hl 0 rfl) ?_
  refine lv_icmp_lt (tgt := 60) hx hb dX5_isBefore_46 (by decide) (fun k_15 => ?_) (fun k_15 => ?_)
  · have h := br_yes h k_15
    exact w_X5_isBefore_b60 X _ _ _ h hw (lv_sub hl [] rfl)
  · have h := br_no h k_15
    refine lv_iload_n hx hb dX5_isBefore_49 rfl (lv_at hl 1 rfl) ?_
    refine lv_iload hx hb dX5_isBefore_50 (lv_at hl 0 rfl) ?_
    refine lv_icmp_ne (tgt := 64) hx hb dX5_isBefore_52 (by decide) (fun k_16 => ?_) (fun k_16 => ?_)
    · have h := br_no h k_16
      refine lv_iconst (v := 0) hx hb dX5_isBefore_64 (by decide) ?_
      cases h
      exact x_iret X (narz (Or.inl rfl)) hw rfl rfl dX5_isBefore_65
    · have h := br_yes h k_16
      refine lv_iload_n hx hb dX5_isBefore_55 rfl (lv_at hl 3 rfl) ?_
      refine lv_iload_n hx hb dX5_isBefore_56 rfl (lv_at hl 4 rfl) ?_
      refine lv_icmp_ge (tgt := 64) hx hb dX5_isBefore_57 (by decide) (fun k_17 => ?_) (fun k_17 => ?_)
      · have h := br_yes h k_17
        refine lv_iconst (v := 0) hx hb dX5_isBefore_64 (by decide) ?_
        cases h
        exact x_iret X (narz (Or.inl rfl)) hw rfl rfl dX5_isBefore_65
      · have h := br_no h k_17
        exact w_X5_isBefore_b60 X _ _ _ h hw (lv_sub hl [] rfl)

def rX5_firstNeed : Room := { frames := 1, cells := 0, slots := 0, locals := 22 }
theorem hd_X5_firstNeed : yX5_firstNeed.cls = RX5 ∧ yX5_firstNeed.cls ≠ "java/lang/invoke/MethodHandle" ∧ yX5_firstNeed.cls ≠ "java/lang/invoke/VarHandle" ∧ (parseMethodDescriptor yX5_firstNeed.desc).map (fun d => d.parameters.length) = some 1 := by decide +kernel
theorem in_X5_firstNeed_5 : ∀ w ∈ u_ws RX5 TX5 12, w ∈ wsX5_firstNeed := fun w h => (List.mem_cons_of_mem _ (List.mem_append_right _ h))
noncomputable def f_X5_firstNeed  (v : MV) (x1 : Int32) : Option (Int32) :=
  bd (f_X5_of v x1 0) fun r_1 =>
  ck (vp_in 2 644) <|
  ck (¬ (1000 : Int32) = 0) <|
  nm ((r_1 * ((M_ro v) (2 : Int32).toNatClampNeg)) : Int32) fun t_5 =>
  some ((t_5 / 1000))
set_option maxHeartbeats 4000000 in
set_option maxRecDepth 100000 in
theorem m_X5_firstNeed {G : GG} {l : Launch} {o : Nat → Nat} {v : MV} {x1 : Int32} {r : Int32}  (h : f_X5_firstNeed v x1 = some (r)) : Ci G l yX5_firstNeed wsX5_firstNeed rX5_firstNeed [.ref (o 0), .int x1] (fl [mB G o v]) r (fl [mB G o v]) := by
  refine Ci.intro cX5_firstNeed 2 (some .int) RX5 (by decide) rfl rfl (Nat.le_of_ble_eq_true rfl) ?_
  intro p e s m below meth c A ls X hw hl
  obtain ⟨⟨hx, hb, hml, hown, hts⟩, hK, hr, hlk, hA⟩ := id X
  unfold f_X5_firstNeed at h
  have hl : lv_has ls 2 [(0, .ref (o 0)), (1, .int x1)] := hl
  refine lv_aload_n hx hb dX5_firstNeed_0 rfl (lv_at hl 0 rfl) ?_
  refine lv_iload_n hx hb dX5_firstNeed_1 rfl (lv_at hl 1 rfl) ?_
  refine lv_iconst (v := 0) hx hb dX5_firstNeed_2 (by decide) ?_
  obtain ⟨r_1, c_2, h⟩ := bd_ok h
  refine x_Vi (As := [.int x1, .int 0]) (w' := fl [mB G o v]) X hw (m_X5_of (G := G) (l := l) (o := o) c_2) Cut.all 0 0 rfl rfl rfl (cwV 2 hts gX5_firstNeed_X5_of rfl rfl rfl hd_X5_of ⟨Nat.le_of_ble_eq_true rfl, Nat.le_of_ble_eq_true rfl⟩) rfl hl.1 rfl (Nat.le_of_ble_eq_true rfl) dX5_firstNeed_3 ⟨Nat.le_of_ble_eq_true rfl, Nat.le_of_ble_eq_true rfl⟩ (fun H locs hw => ?_)
  refine lv_aload_n hx hb dX5_firstNeed_6 rfl (lv_at hl 0 rfl) ?_
  refine x_get (v := .ref (o 1)) 0 0 X hw in_X5_firstNeed_5 rfl rfl rfl 0 (by decide) (List.mem_of_getElem? (i := 1) rfl) rfl rfl dX5_firstNeed_7 ?_
  refine lv_iconst (v := 2) hx hb dX5_firstNeed_10 (by decide) ?_
  obtain ⟨k_3, h⟩ := ck_ok h
  refine x_iald (f := (M_ro v)) 0 1 X hw rfl rfl k_3 dX5_firstNeed_11 ?_
  refine lv_imul hx hb dX5_firstNeed_12 ?_
  refine lv_sipush (v := 1000) hx hb dX5_firstNeed_13 (by decide) ?_
  obtain ⟨k_4, h⟩ := ck_ok h
  obtain ⟨t_5, et_5, h⟩ := nm_ok h
  rw [← et_5]
  refine lv_idiv hx hb dX5_firstNeed_16 k_4 ?_
  cases h
  exact x_iret X (vp_nar_int _) hw rfl rfl dX5_firstNeed_17

def rX5_freezes : Room := { frames := 2, cells := 0, slots := 0, locals := 46 }
theorem hd_X5_freezes : yX5_freezes.cls = RX5 ∧ yX5_freezes.cls ≠ "java/lang/invoke/MethodHandle" ∧ yX5_freezes.cls ≠ "java/lang/invoke/VarHandle" ∧ (parseMethodDescriptor yX5_freezes.desc).map (fun d => d.parameters.length) = some 0 := by decide +kernel
theorem in_X5_freezes_5 : ∀ w ∈ u_ws RX5 TX5 12, w ∈ wsX5_freezes := fun w h => (List.mem_cons_of_mem _ (List.mem_append_right _ h))
noncomputable def f_X5_freezes_b180  (k96 : MV → Int32 → Option (MV)) (v : MV) (x1 : Int32) (x2 : Int32) : Option (MV) :=
  ck (vp_in x2 12) <|
  br (((M_fd v) x2.toNatClampNeg) = (-1))
    (nm (x1 + 1 : Int32) fun t_3 =>
     k96 v t_3)
    (ck (vp_in x2 12) <|
     nm (((M_fd v) x2.toNatClampNeg) : Int32) fun t_5 =>
     ck (vp_in t_5 12) <|
     ck (vp_in x2 12) <|
     nm ((((M_ne v) t_5.toNatClampNeg) + ((M_ne v) x2.toNatClampNeg)) : Int32) fun t_8 =>
     ck (vp_in t_5 12) <|
     nm (upd (M_ne v) t_5.toNatClampNeg t_8) fun g_10 =>
     nm (x1 + 1 : Int32) fun t_11 =>
     k96 ((M_ro v), (M_sa v), (M_od v), (M_st v), g_10, (M_fd v), (M_tx v), (M_le v), (M_at v), (M_nu v), (M_it v), (M_h v)) t_11)
set_option maxHeartbeats 4000000 in
set_option maxRecDepth 100000 in
theorem w_X5_freezes_b180 {G : GG} {l : Launch} {p : Program} {e : Env} {s : State} {m : MethodId} {args : Array Value} {below : List Frame} {meth : Method} {c : Code} {A : Nat → Prop} {o : Nat → Nat}  {zv : MV}  {k96 : MV → Int32 → Option (MV)} (X : Cx p s m args meth c cX5_freezes 4 none wsX5_freezes RX5 G A) (hk96 : ∀ (v : MV) (x1 : Int32) (H : Heap) (locs : List Loc) (ls : Array Slot), k96 v x1 = some (zv) → Wd G A s H locs (fl [mB G o v]) → lv_has ls 4 [(0, .ref (o 0)), (1, .int x1)] → W p l e rX5_freezes s m args below meth c H locs 0 0 (MQ below (Qv G A (fl [mB G o zv])) args s 0 0 A) (F0 m 96 ls [])) :
    ∀ (v : MV) (x1 : Int32) (x2 : Int32) (H : Heap) (locs : List Loc) (ls : Array Slot), f_X5_freezes_b180 k96 v x1 x2 = some (zv) → Wd G A s H locs (fl [mB G o v]) → lv_has ls 4 [(0, .ref (o 0)), (1, .int x1), (2, .int x2)] → W p l e rX5_freezes s m args below meth c H locs 0 0 (MQ below (Qv G A (fl [mB G o zv])) args s 0 0 A) (F0 m 180 ls []) := by
  obtain ⟨⟨hx, hb, hml, hown, hts⟩, hK, hr, hlk, hA⟩ := id X
  intro v x1 x2 H locs ls h hw hl
  unfold f_X5_freezes_b180 at h
  refine lv_aload_n hx hb dX5_freezes_180 rfl (lv_at hl 0 rfl) ?_
  refine x_get (v := .ref (o 5)) 0 0 X hw in_X5_freezes_5 rfl rfl rfl 5 (by decide) (List.mem_of_getElem? (i := 5) rfl) rfl rfl dX5_freezes_181 ?_
  refine lv_iload_n hx hb dX5_freezes_184 rfl (lv_at hl 2 rfl) ?_
  obtain ⟨k_1, h⟩ := ck_ok h
  refine x_iald (f := (M_fd v)) 0 5 X hw rfl rfl k_1 dX5_freezes_185 ?_
  refine lv_iconst (v := (-1)) hx hb dX5_freezes_186 (by decide) ?_
  refine lv_icmp_eq (tgt := 210) hx hb dX5_freezes_187 (by decide) (fun k_2 => ?_) (fun k_2 => ?_)
  · have h := br_yes h k_2
    obtain ⟨t_3, et_3, h⟩ := nm_ok h
    refine lv_iinc (v := t_3) (lv' := [(1, .int t_3), (0, .ref (o 0)), (2, .int x2)]) hx hb dX5_freezes_210 hl (k := 1) rfl (by rw [et_3]; rfl) (by decide) rfl (fun ls hl => ?_)
    refine lv_goto (tgt := 96) hx hb dX5_freezes_213 (by decide) ?_
    exact hk96 v t_3 _ _ _ h hw (lv_sub hl [1, 0] rfl)
  · have h := br_no h k_2
    refine lv_aload_n hx hb dX5_freezes_190 rfl (lv_at hl 0 rfl) ?_
    refine x_get (v := .ref (o 4)) 0 0 X hw in_X5_freezes_5 rfl rfl rfl 4 (by decide) (List.mem_of_getElem? (i := 4) rfl) rfl rfl dX5_freezes_191 ?_
    refine lv_aload_n hx hb dX5_freezes_194 rfl (lv_at hl 0 rfl) ?_
    refine x_get (v := .ref (o 5)) 0 0 X hw in_X5_freezes_5 rfl rfl rfl 5 (by decide) (List.mem_of_getElem? (i := 5) rfl) rfl rfl dX5_freezes_195 ?_
    refine lv_iload_n hx hb dX5_freezes_198 rfl (lv_at hl 2 rfl) ?_
    obtain ⟨k_4, h⟩ := ck_ok h
    refine x_iald (f := (M_fd v)) 0 5 X hw rfl rfl k_4 dX5_freezes_199 ?_
    obtain ⟨t_5, et_5, h⟩ := nm_ok h
    rw [← et_5]
    refine lv_dup2_11 hx hb dX5_freezes_200 rfl rfl ?_
    obtain ⟨k_6, h⟩ := ck_ok h
    refine x_iald (f := (M_ne v)) 0 4 X hw rfl rfl k_6 dX5_freezes_201 ?_
    refine lv_aload_n hx hb dX5_freezes_202 rfl (lv_at hl 0 rfl) ?_
    refine x_get (v := .ref (o 4)) 0 0 X hw in_X5_freezes_5 rfl rfl rfl 4 (by decide) (List.mem_of_getElem? (i := 4) rfl) rfl rfl dX5_freezes_203 ?_
    refine lv_iload_n hx hb dX5_freezes_206 rfl (lv_at hl 2 rfl) ?_
    obtain ⟨k_7, h⟩ := ck_ok h
    refine x_iald (f := (M_ne v)) 0 4 X hw rfl rfl k_7 dX5_freezes_207 ?_
    refine lv_iadd hx hb dX5_freezes_208 ?_
    obtain ⟨t_8, et_8, h⟩ := nm_ok h
    rw [← et_8]
    obtain ⟨k_9, h⟩ := ck_ok h
    obtain ⟨g_10, eg_10, h⟩ := nm_ok h
    refine x_iast (f := (M_ne v)) (bs' := [mB G o ((M_ro v), (M_sa v), (M_od v), (M_st v), g_10, (M_fd v), (M_tx v), (M_le v), (M_at v), (M_nu v), (M_it v), (M_h v))]) 0 4 X hw rfl rfl k_9 dX5_freezes_209 (by rw [eg_10]; rfl) (fun H locs hw => ?_)
    obtain ⟨t_11, et_11, h⟩ := nm_ok h
    refine lv_iinc (v := t_11) (lv' := [(1, .int t_11), (0, .ref (o 0)), (2, .int x2)]) hx hb dX5_freezes_210 hl (k := 1) rfl (by rw [et_11]; rfl) (by decide) rfl (fun ls hl => ?_)
    refine lv_goto (tgt := 96) hx hb dX5_freezes_213 (by decide) ?_
    exact hk96 ((M_ro v), (M_sa v), (M_od v), (M_st v), g_10, (M_fd v), (M_tx v), (M_le v), (M_at v), (M_nu v), (M_it v), (M_h v)) t_11 _ _ _ h hw (lv_sub hl [1, 0] rfl)
noncomputable def f_X5_freezes_b129  (k96 : MV → Int32 → Option (MV)) (x1 : Int32) (x2 : Int32) : Nat → MV → Int32 → Option (MV)
  | 0 => fun _ _ => none
  | n + 1 => fun v x3 =>
    br (x3 ≤ x1)
      (f_X5_freezes_b180 k96 v x1 x2)
      (ck (vp_in x2 12) <|
       br (((M_fd v) x2.toNatClampNeg) = (-1))
         (ck (vp_in x3 12) <|
          bd (f_X5_areNeighbours v x2 ((M_od v) x3.toNatClampNeg)) fun r_5 =>
          br (r_5 = 0)
            (ck (vp_in x2 12) <|
             nm (upd (M_fd v) x2.toNatClampNeg (-1)) fun g_9 =>
             nm (x3 + (-1) : Int32) fun t_10 =>
             f_X5_freezes_b129 k96 x1 x2 n ((M_ro v), (M_sa v), (M_od v), (M_st v), (M_ne v), g_9, (M_tx v), (M_le v), (M_at v), (M_nu v), (M_it v), (M_h v)) t_10)
            (ck (vp_in x3 12) <|
             nm (((M_od v) x3.toNatClampNeg) : Int32) fun t_12 =>
             ck (vp_in x2 12) <|
             nm (upd (M_fd v) x2.toNatClampNeg t_12) fun g_14 =>
             nm (x3 + (-1) : Int32) fun t_15 =>
             f_X5_freezes_b129 k96 x1 x2 n ((M_ro v), (M_sa v), (M_od v), (M_st v), (M_ne v), g_14, (M_tx v), (M_le v), (M_at v), (M_nu v), (M_it v), (M_h v)) t_15))
         (f_X5_freezes_b180 k96 v x1 x2))
set_option maxHeartbeats 4000000 in
set_option maxRecDepth 100000 in
theorem w_X5_freezes_b129 {G : GG} {l : Launch} {p : Program} {e : Env} {s : State} {m : MethodId} {args : Array Value} {below : List Frame} {meth : Method} {c : Code} {A : Nat → Prop} {o : Nat → Nat} {x1 : Int32} {x2 : Int32} {zv : MV}  {k96 : MV → Int32 → Option (MV)} (X : Cx p s m args meth c cX5_freezes 4 none wsX5_freezes RX5 G A) (hk96 : ∀ (v : MV) (x1 : Int32) (H : Heap) (locs : List Loc) (ls : Array Slot), k96 v x1 = some (zv) → Wd G A s H locs (fl [mB G o v]) → lv_has ls 4 [(0, .ref (o 0)), (1, .int x1)] → W p l e rX5_freezes s m args below meth c H locs 0 0 (MQ below (Qv G A (fl [mB G o zv])) args s 0 0 A) (F0 m 96 ls [])) :
    ∀ (n : Nat) (v : MV) (x3 : Int32) (H : Heap) (locs : List Loc) (ls : Array Slot), f_X5_freezes_b129 k96 x1 x2 n v x3 = some (zv) → Wd G A s H locs (fl [mB G o v]) → lv_has ls 4 [(0, .ref (o 0)), (1, .int x1), (2, .int x2), (3, .int x3)] → W p l e rX5_freezes s m args below meth c H locs 0 0 (MQ below (Qv G A (fl [mB G o zv])) args s 0 0 A) (F0 m 129 ls []) := by
  obtain ⟨⟨hx, hb, hml, hown, hts⟩, hK, hr, hlk, hA⟩ := id X
  intro n
  induction n with
  | zero =>
    intro v x3 H locs ls h
    rw [f_X5_freezes_b129] at h
    cases h
  | succ n ih =>
    intro v x3 H locs ls h hw hl
    rw [f_X5_freezes_b129] at h
    refine lv_iload_n hx hb dX5_freezes_129 rfl (lv_at hl 3 rfl) ?_
    refine lv_iload_n hx hb dX5_freezes_130 rfl (lv_at hl 1 rfl) ?_
    refine lv_icmp_le (tgt := 180) hx hb dX5_freezes_131 (by decide) (fun k_1 => ?_) (fun k_1 => ?_)
    · have h := br_yes h k_1
      exact w_X5_freezes_b180 X hk96 v x1 x2 _ _ _ h hw (lv_sub hl [0, 1, 2] rfl)
    · have h := br_no h k_1
      refine lv_aload_n hx hb dX5_freezes_134 rfl (lv_at hl 0 rfl) ?_
      refine x_get (v := .ref (o 5)) 0 0 X hw in_X5_freezes_5 rfl rfl rfl 5 (by decide) (List.mem_of_getElem? (i := 5) rfl) rfl rfl dX5_freezes_135 ?_
      refine lv_iload_n hx hb dX5_freezes_138 rfl (lv_at hl 2 rfl) ?_
      obtain ⟨k_2, h⟩ := ck_ok h
      refine x_iald (f := (M_fd v)) 0 5 X hw rfl rfl k_2 dX5_freezes_139 ?_
      refine lv_iconst (v := (-1)) hx hb dX5_freezes_140 (by decide) ?_
      refine lv_icmp_ne (tgt := 180) hx hb dX5_freezes_141 (by decide) (fun k_3 => ?_) (fun k_3 => ?_)
      · have h := br_no h k_3
        exact w_X5_freezes_b180 X hk96 v x1 x2 _ _ _ h hw (lv_sub hl [0, 1, 2] rfl)
      · have h := br_yes h k_3
        refine lv_aload_n hx hb dX5_freezes_144 rfl (lv_at hl 0 rfl) ?_
        refine x_get (v := .ref (o 5)) 0 0 X hw in_X5_freezes_5 rfl rfl rfl 5 (by decide) (List.mem_of_getElem? (i := 5) rfl) rfl rfl dX5_freezes_145 ?_
        refine lv_iload_n hx hb dX5_freezes_148 rfl (lv_at hl 2 rfl) ?_
        refine lv_aload_n hx hb dX5_freezes_149 rfl (lv_at hl 0 rfl) ?_
        refine lv_iload_n hx hb dX5_freezes_150 rfl (lv_at hl 2 rfl) ?_
        refine lv_aload_n hx hb dX5_freezes_151 rfl (lv_at hl 0 rfl) ?_
        refine x_get (v := .ref (o 2)) 0 0 X hw in_X5_freezes_5 rfl rfl rfl 2 (by decide) (List.mem_of_getElem? (i := 3) rfl) rfl rfl dX5_freezes_152 ?_
        refine lv_iload_n hx hb dX5_freezes_155 rfl (lv_at hl 3 rfl) ?_
        obtain ⟨k_4, h⟩ := ck_ok h
        refine x_iald (f := (M_od v)) 0 2 X hw rfl rfl k_4 dX5_freezes_156 ?_
        obtain ⟨r_5, c_6, h⟩ := bd_ok h
        refine x_Vi (As := [.int x2, .int ((M_od v) x3.toNatClampNeg)]) (w' := fl [mB G o v]) X hw (m_X5_areNeighbours (G := G) (l := l) (o := o) c_6) Cut.all 0 0 rfl rfl rfl (cwV 2 hts gX5_freezes_X5_areNeighbours rfl rfl rfl hd_X5_areNeighbours ⟨Nat.le_of_ble_eq_true rfl, Nat.le_of_ble_eq_true rfl⟩) rfl hl.1 rfl (Nat.le_of_ble_eq_true rfl) dX5_freezes_157 ⟨Nat.le_of_ble_eq_true rfl, Nat.le_of_ble_eq_true rfl⟩ (fun H locs hw => ?_)
        refine lv_if_eq (tgt := 172) hx hb dX5_freezes_160 (by decide) (fun k_7 => ?_) (fun k_7 => ?_)
        · have h := br_yes h k_7
          refine lv_iconst (v := (-1)) hx hb dX5_freezes_172 (by decide) ?_
          obtain ⟨k_8, h⟩ := ck_ok h
          obtain ⟨g_9, eg_9, h⟩ := nm_ok h
          refine x_iast (f := (M_fd v)) (bs' := [mB G o ((M_ro v), (M_sa v), (M_od v), (M_st v), (M_ne v), g_9, (M_tx v), (M_le v), (M_at v), (M_nu v), (M_it v), (M_h v))]) 0 5 X hw rfl rfl k_8 dX5_freezes_173 (by rw [eg_9]; rfl) (fun H locs hw => ?_)
          obtain ⟨t_10, et_10, h⟩ := nm_ok h
          refine lv_iinc (v := t_10) (lv' := [(3, .int t_10), (0, .ref (o 0)), (1, .int x1), (2, .int x2)]) hx hb dX5_freezes_174 hl (k := 3) rfl (by rw [et_10]; rfl) (by decide) rfl (fun ls hl => ?_)
          refine lv_goto (tgt := 129) hx hb dX5_freezes_177 (by decide) ?_
          exact ih ((M_ro v), (M_sa v), (M_od v), (M_st v), (M_ne v), g_9, (M_tx v), (M_le v), (M_at v), (M_nu v), (M_it v), (M_h v)) t_10 _ _ _ h hw (lv_sub hl [1, 2, 3, 0] rfl)
        · have h := br_no h k_7
          refine lv_aload_n hx hb dX5_freezes_163 rfl (lv_at hl 0 rfl) ?_
          refine x_get (v := .ref (o 2)) 0 0 X hw in_X5_freezes_5 rfl rfl rfl 2 (by decide) (List.mem_of_getElem? (i := 3) rfl) rfl rfl dX5_freezes_164 ?_
          refine lv_iload_n hx hb dX5_freezes_167 rfl (lv_at hl 3 rfl) ?_
          obtain ⟨k_11, h⟩ := ck_ok h
          refine x_iald (f := (M_od v)) 0 2 X hw rfl rfl k_11 dX5_freezes_168 ?_
          refine lv_goto (tgt := 173) hx hb dX5_freezes_169 (by decide) ?_
          obtain ⟨t_12, et_12, h⟩ := nm_ok h
          rw [← et_12]
          obtain ⟨k_13, h⟩ := ck_ok h
          obtain ⟨g_14, eg_14, h⟩ := nm_ok h
          refine x_iast (f := (M_fd v)) (bs' := [mB G o ((M_ro v), (M_sa v), (M_od v), (M_st v), (M_ne v), g_14, (M_tx v), (M_le v), (M_at v), (M_nu v), (M_it v), (M_h v))]) 0 5 X hw rfl rfl k_13 dX5_freezes_173 (by rw [eg_14]; rfl) (fun H locs hw => ?_)
          obtain ⟨t_15, et_15, h⟩ := nm_ok h
          refine lv_iinc (v := t_15) (lv' := [(3, .int t_15), (0, .ref (o 0)), (1, .int x1), (2, .int x2)]) hx hb dX5_freezes_174 hl (k := 3) rfl (by rw [et_15]; rfl) (by decide) rfl (fun ls hl => ?_)
          refine lv_goto (tgt := 129) hx hb dX5_freezes_177 (by decide) ?_
          exact ih ((M_ro v), (M_sa v), (M_od v), (M_st v), (M_ne v), g_14, (M_tx v), (M_le v), (M_at v), (M_nu v), (M_it v), (M_h v)) t_15 _ _ _ h hw (lv_sub hl [1, 2, 3, 0] rfl)
noncomputable def f_X5_freezes_b96   : Nat → MV → Int32 → Option (MV)
  | 0 => fun _ _ => none
  | n + 1 => fun v x1 =>
    ck (vp_in 0 644) <|
    br (((M_ro v) (0 : Int32).toNatClampNeg) ≤ x1)
      (some (v))
      (ck (vp_in x1 12) <|
       nm (((M_od v) x1.toNatClampNeg) : Int32) fun t_4 =>
       ck (vp_in t_4 12) <|
       nm (upd (M_fd v) t_4.toNatClampNeg (-1)) fun g_6 =>
       ck (vp_in 0 644) <|
       nm ((((M_ro v) (0 : Int32).toNatClampNeg) - 1) : Int32) fun t_8 =>
       f_X5_freezes_b129 (f_X5_freezes_b96 n) x1 t_4 FU ((M_ro v), (M_sa v), (M_od v), (M_st v), (M_ne v), g_6, (M_tx v), (M_le v), (M_at v), (M_nu v), (M_it v), (M_h v)) t_8)
set_option maxHeartbeats 4000000 in
set_option maxRecDepth 100000 in
theorem w_X5_freezes_b96 {G : GG} {l : Launch} {p : Program} {e : Env} {s : State} {m : MethodId} {args : Array Value} {below : List Frame} {meth : Method} {c : Code} {A : Nat → Prop} {o : Nat → Nat}  {zv : MV}   (X : Cx p s m args meth c cX5_freezes 4 none wsX5_freezes RX5 G A)  :
    ∀ (n : Nat) (v : MV) (x1 : Int32) (H : Heap) (locs : List Loc) (ls : Array Slot), f_X5_freezes_b96 n v x1 = some (zv) → Wd G A s H locs (fl [mB G o v]) → lv_has ls 4 [(0, .ref (o 0)), (1, .int x1)] → W p l e rX5_freezes s m args below meth c H locs 0 0 (MQ below (Qv G A (fl [mB G o zv])) args s 0 0 A) (F0 m 96 ls []) := by
  obtain ⟨⟨hx, hb, hml, hown, hts⟩, hK, hr, hlk, hA⟩ := id X
  intro n
  induction n with
  | zero =>
    intro v x1 H locs ls h
    rw [f_X5_freezes_b96] at h
    cases h
  | succ n ih =>
    intro v x1 H locs ls h hw hl
    rw [f_X5_freezes_b96] at h
    refine lv_iload_n hx hb dX5_freezes_96 rfl (lv_at hl 1 rfl) ?_
    refine lv_aload_n hx hb dX5_freezes_97 rfl (lv_at hl 0 rfl) ?_
    refine x_get (v := .ref (o 1)) 0 0 X hw in_X5_freezes_5 rfl rfl rfl 0 (by decide) (List.mem_of_getElem? (i := 1) rfl) rfl rfl dX5_freezes_98 ?_
    refine lv_iconst (v := 0) hx hb dX5_freezes_101 (by decide) ?_
    obtain ⟨k_1, h⟩ := ck_ok h
    refine x_iald (f := (M_ro v)) 0 1 X hw rfl rfl k_1 dX5_freezes_102 ?_
    refine lv_icmp_ge (tgt := 216) hx hb dX5_freezes_103 (by decide) (fun k_2 => ?_) (fun k_2 => ?_)
    · have h := br_yes h k_2
      cases h
      exact x_vret X hw rfl dX5_freezes_216
    · have h := br_no h k_2
      refine lv_aload_n hx hb dX5_freezes_106 rfl (lv_at hl 0 rfl) ?_
      refine x_get (v := .ref (o 2)) 0 0 X hw in_X5_freezes_5 rfl rfl rfl 2 (by decide) (List.mem_of_getElem? (i := 3) rfl) rfl rfl dX5_freezes_107 ?_
      refine lv_iload_n hx hb dX5_freezes_110 rfl (lv_at hl 1 rfl) ?_
      obtain ⟨k_3, h⟩ := ck_ok h
      refine x_iald (f := (M_od v)) 0 2 X hw rfl rfl k_3 dX5_freezes_111 ?_
      obtain ⟨t_4, et_4, h⟩ := nm_ok h
      refine lv_istore_n (lv' := [(2, .int t_4), (0, .ref (o 0)), (1, .int x1)]) hx hb dX5_freezes_112 rfl hl (by decide) (by rw [et_4]; rfl) (fun ls hl => ?_)
      refine lv_aload_n hx hb dX5_freezes_113 rfl (lv_at hl 1 rfl) ?_
      refine x_get (v := .ref (o 5)) 0 0 X hw in_X5_freezes_5 rfl rfl rfl 5 (by decide) (List.mem_of_getElem? (i := 5) rfl) rfl rfl dX5_freezes_114 ?_
      refine lv_iload_n hx hb dX5_freezes_117 rfl (lv_at hl 0 rfl) ?_
      refine lv_iconst (v := (-1)) hx hb dX5_freezes_118 (by decide) ?_
      obtain ⟨k_5, h⟩ := ck_ok h
      obtain ⟨g_6, eg_6, h⟩ := nm_ok h
      refine x_iast (f := (M_fd v)) (bs' := [mB G o ((M_ro v), (M_sa v), (M_od v), (M_st v), (M_ne v), g_6, (M_tx v), (M_le v), (M_at v), (M_nu v), (M_it v), (M_h v))]) 0 5 X hw rfl rfl k_5 dX5_freezes_119 (by rw [eg_6]; rfl) (fun H locs hw => ?_)
      refine lv_aload_n hx hb dX5_freezes_120 rfl (lv_at hl 1 rfl) ?_
      refine x_get (v := .ref (o 1)) 0 0 X hw in_X5_freezes_5 rfl rfl rfl 0 (by decide) (List.mem_of_getElem? (i := 1) rfl) rfl rfl dX5_freezes_121 ?_
      refine lv_iconst (v := 0) hx hb dX5_freezes_124 (by decide) ?_
      obtain ⟨k_7, h⟩ := ck_ok h
      refine x_iald (f := (M_ro v)) 0 1 X hw rfl rfl k_7 dX5_freezes_125 ?_
      refine lv_iconst (v := 1) hx hb dX5_freezes_126 (by decide) ?_
      refine lv_isub hx hb dX5_freezes_127 ?_
      obtain ⟨t_8, et_8, h⟩ := nm_ok h
      refine lv_istore_n (lv' := [(3, .int t_8), (2, .int t_4), (0, .ref (o 0)), (1, .int x1)]) hx hb dX5_freezes_128 rfl hl (by decide) (by rw [et_8]; rfl) (fun ls hl => ?_)
      exact w_X5_freezes_b129 X ih FU ((M_ro v), (M_sa v), (M_od v), (M_st v), (M_ne v), g_6, (M_tx v), (M_le v), (M_at v), (M_nu v), (M_it v), (M_h v)) t_8 _ _ _ h hw (lv_sub hl [2, 3, 1, 0] rfl)
noncomputable def f_X5_freezes_b21  (k2 : MV → Int32 → Option (MV)) (x1 : Int32) : Nat → MV → Int32 → Option (MV)
  | 0 => fun _ _ => none
  | n + 1 => fun v x2 =>
    ck (vp_in 0 644) <|
    br (((M_ro v) (0 : Int32).toNatClampNeg) ≤ x2)
      (ck (vp_in x1 12) <|
       nm (((M_st v) x1.toNatClampNeg) : Int32) fun t_4 =>
       ck (vp_in t_4 12) <|
       nm (upd (M_od v) t_4.toNatClampNeg x1) fun g_6 =>
       bd (f_X5_firstNeed ((M_ro v), (M_sa v), g_6, (M_st v), (M_ne v), (M_fd v), (M_tx v), (M_le v), (M_at v), (M_nu v), (M_it v), (M_h v)) x1) fun r_7 =>
       ck (vp_in x1 12) <|
       nm (upd (M_ne v) x1.toNatClampNeg r_7) fun g_10 =>
       nm (x1 + 1 : Int32) fun t_11 =>
       k2 ((M_ro v), (M_sa v), g_6, (M_st v), g_10, (M_fd v), (M_tx v), (M_le v), (M_at v), (M_nu v), (M_it v), (M_h v)) t_11)
      (ck (vp_in x1 12) <|
       br (x2 = x1)
         (nm ((((M_st v) x1.toNatClampNeg) + 0) : Int32) fun t_14 =>
          ck (vp_in x1 12) <|
          nm (upd (M_st v) x1.toNatClampNeg t_14) fun g_16 =>
          nm (x2 + 1 : Int32) fun t_17 =>
          f_X5_freezes_b21 k2 x1 n ((M_ro v), (M_sa v), (M_od v), g_16, (M_ne v), (M_fd v), (M_tx v), (M_le v), (M_at v), (M_nu v), (M_it v), (M_h v)) t_17)
         (bd (f_X5_isBefore v x2 x1) fun r_18 =>
          br (r_18 = 0)
            (nm ((((M_st v) x1.toNatClampNeg) + 0) : Int32) fun t_21 =>
             ck (vp_in x1 12) <|
             nm (upd (M_st v) x1.toNatClampNeg t_21) fun g_23 =>
             nm (x2 + 1 : Int32) fun t_24 =>
             f_X5_freezes_b21 k2 x1 n ((M_ro v), (M_sa v), (M_od v), g_23, (M_ne v), (M_fd v), (M_tx v), (M_le v), (M_at v), (M_nu v), (M_it v), (M_h v)) t_24)
            (nm ((((M_st v) x1.toNatClampNeg) + 1) : Int32) fun t_25 =>
             ck (vp_in x1 12) <|
             nm (upd (M_st v) x1.toNatClampNeg t_25) fun g_27 =>
             nm (x2 + 1 : Int32) fun t_28 =>
             f_X5_freezes_b21 k2 x1 n ((M_ro v), (M_sa v), (M_od v), g_27, (M_ne v), (M_fd v), (M_tx v), (M_le v), (M_at v), (M_nu v), (M_it v), (M_h v)) t_28)))
set_option maxHeartbeats 4000000 in
set_option maxRecDepth 100000 in
theorem w_X5_freezes_b21 {G : GG} {l : Launch} {p : Program} {e : Env} {s : State} {m : MethodId} {args : Array Value} {below : List Frame} {meth : Method} {c : Code} {A : Nat → Prop} {o : Nat → Nat} {x1 : Int32} {zv : MV}  {k2 : MV → Int32 → Option (MV)} (X : Cx p s m args meth c cX5_freezes 4 none wsX5_freezes RX5 G A) (hk2 : ∀ (v : MV) (x1 : Int32) (H : Heap) (locs : List Loc) (ls : Array Slot), k2 v x1 = some (zv) → Wd G A s H locs (fl [mB G o v]) → lv_has ls 4 [(0, .ref (o 0)), (1, .int x1)] → W p l e rX5_freezes s m args below meth c H locs 0 0 (MQ below (Qv G A (fl [mB G o zv])) args s 0 0 A) (F0 m 2 ls [])) :
    ∀ (n : Nat) (v : MV) (x2 : Int32) (H : Heap) (locs : List Loc) (ls : Array Slot), f_X5_freezes_b21 k2 x1 n v x2 = some (zv) → Wd G A s H locs (fl [mB G o v]) → lv_has ls 4 [(0, .ref (o 0)), (1, .int x1), (2, .int x2)] → W p l e rX5_freezes s m args below meth c H locs 0 0 (MQ below (Qv G A (fl [mB G o zv])) args s 0 0 A) (F0 m 21 ls []) := by
  obtain ⟨⟨hx, hb, hml, hown, hts⟩, hK, hr, hlk, hA⟩ := id X
  intro n
  induction n with
  | zero =>
    intro v x2 H locs ls h
    rw [f_X5_freezes_b21] at h
    cases h
  | succ n ih =>
    intro v x2 H locs ls h hw hl
    rw [f_X5_freezes_b21] at h
    refine lv_iload_n hx hb dX5_freezes_21 rfl (lv_at hl 2 rfl) ?_
    refine lv_aload_n hx hb dX5_freezes_22 rfl (lv_at hl 0 rfl) ?_
    refine x_get (v := .ref (o 1)) 0 0 X hw in_X5_freezes_5 rfl rfl rfl 0 (by decide) (List.mem_of_getElem? (i := 1) rfl) rfl rfl dX5_freezes_23 ?_
    refine lv_iconst (v := 0) hx hb dX5_freezes_26 (by decide) ?_
    obtain ⟨k_1, h⟩ := ck_ok h
    refine x_iald (f := (M_ro v)) 0 1 X hw rfl rfl k_1 dX5_freezes_27 ?_
    refine lv_icmp_ge (tgt := 65) hx hb dX5_freezes_28 (by decide) (fun k_2 => ?_) (fun k_2 => ?_)
    · have h := br_yes h k_2
      refine lv_aload_n hx hb dX5_freezes_65 rfl (lv_at hl 0 rfl) ?_
      refine x_get (v := .ref (o 2)) 0 0 X hw in_X5_freezes_5 rfl rfl rfl 2 (by decide) (List.mem_of_getElem? (i := 3) rfl) rfl rfl dX5_freezes_66 ?_
      refine lv_aload_n hx hb dX5_freezes_69 rfl (lv_at hl 0 rfl) ?_
      refine x_get (v := .ref (o 3)) 0 0 X hw in_X5_freezes_5 rfl rfl rfl 3 (by decide) (List.mem_of_getElem? (i := 2) rfl) rfl rfl dX5_freezes_70 ?_
      refine lv_iload_n hx hb dX5_freezes_73 rfl (lv_at hl 1 rfl) ?_
      obtain ⟨k_3, h⟩ := ck_ok h
      refine x_iald (f := (M_st v)) 0 3 X hw rfl rfl k_3 dX5_freezes_74 ?_
      refine lv_iload_n hx hb dX5_freezes_75 rfl (lv_at hl 1 rfl) ?_
      obtain ⟨t_4, et_4, h⟩ := nm_ok h
      rw [← et_4]
      obtain ⟨k_5, h⟩ := ck_ok h
      obtain ⟨g_6, eg_6, h⟩ := nm_ok h
      refine x_iast (f := (M_od v)) (bs' := [mB G o ((M_ro v), (M_sa v), g_6, (M_st v), (M_ne v), (M_fd v), (M_tx v), (M_le v), (M_at v), (M_nu v), (M_it v), (M_h v))]) 0 2 X hw rfl rfl k_5 dX5_freezes_76 (by rw [eg_6]; rfl) (fun H locs hw => ?_)
      refine lv_aload_n hx hb dX5_freezes_77 rfl (lv_at hl 0 rfl) ?_
      refine x_get (v := .ref (o 4)) 0 0 X hw in_X5_freezes_5 rfl rfl rfl 4 (by decide) (List.mem_of_getElem? (i := 4) rfl) rfl rfl dX5_freezes_78 ?_
      refine lv_iload_n hx hb dX5_freezes_81 rfl (lv_at hl 1 rfl) ?_
      refine lv_aload_n hx hb dX5_freezes_82 rfl (lv_at hl 0 rfl) ?_
      refine lv_iload_n hx hb dX5_freezes_83 rfl (lv_at hl 1 rfl) ?_
      obtain ⟨r_7, c_8, h⟩ := bd_ok h
      refine x_Vi (As := [.int x1]) (w' := fl [mB G o ((M_ro v), (M_sa v), g_6, (M_st v), (M_ne v), (M_fd v), (M_tx v), (M_le v), (M_at v), (M_nu v), (M_it v), (M_h v))]) X hw (m_X5_firstNeed (G := G) (l := l) (o := o) c_8) Cut.all 0 0 rfl rfl rfl (cwV 1 hts gX5_freezes_X5_firstNeed rfl rfl rfl hd_X5_firstNeed ⟨Nat.le_of_ble_eq_true rfl, Nat.le_of_ble_eq_true rfl⟩) rfl hl.1 rfl (Nat.le_of_ble_eq_true rfl) dX5_freezes_84 ⟨Nat.le_of_ble_eq_true rfl, Nat.le_of_ble_eq_true rfl⟩ (fun H locs hw => ?_)
      obtain ⟨k_9, h⟩ := ck_ok h
      obtain ⟨g_10, eg_10, h⟩ := nm_ok h
      refine x_iast (f := (M_ne v)) (bs' := [mB G o ((M_ro v), (M_sa v), g_6, (M_st v), g_10, (M_fd v), (M_tx v), (M_le v), (M_at v), (M_nu v), (M_it v), (M_h v))]) 0 4 X hw rfl rfl k_9 dX5_freezes_87 (by rw [eg_10]; rfl) (fun H locs hw => ?_)
      obtain ⟨t_11, et_11, h⟩ := nm_ok h
      refine lv_iinc (v := t_11) (lv' := [(1, .int t_11), (0, .ref (o 0)), (2, .int x2)]) hx hb dX5_freezes_88 hl (k := 1) rfl (by rw [et_11]; rfl) (by decide) rfl (fun ls hl => ?_)
      refine lv_goto (tgt := 2) hx hb dX5_freezes_91 (by decide) ?_
      exact hk2 ((M_ro v), (M_sa v), g_6, (M_st v), g_10, (M_fd v), (M_tx v), (M_le v), (M_at v), (M_nu v), (M_it v), (M_h v)) t_11 _ _ _ h hw (lv_sub hl [1, 0] rfl)
    · have h := br_no h k_2
      refine lv_aload_n hx hb dX5_freezes_31 rfl (lv_at hl 0 rfl) ?_
      refine x_get (v := .ref (o 3)) 0 0 X hw in_X5_freezes_5 rfl rfl rfl 3 (by decide) (List.mem_of_getElem? (i := 2) rfl) rfl rfl dX5_freezes_32 ?_
      refine lv_iload_n hx hb dX5_freezes_35 rfl (lv_at hl 1 rfl) ?_
      refine lv_dup2_11 hx hb dX5_freezes_36 rfl rfl ?_
      obtain ⟨k_12, h⟩ := ck_ok h
      refine x_iald (f := (M_st v)) 0 3 X hw rfl rfl k_12 dX5_freezes_37 ?_
      refine lv_iload_n hx hb dX5_freezes_38 rfl (lv_at hl 2 rfl) ?_
      refine lv_iload_n hx hb dX5_freezes_39 rfl (lv_at hl 1 rfl) ?_
      refine lv_icmp_eq (tgt := 56) hx hb dX5_freezes_40 (by decide) (fun k_13 => ?_) (fun k_13 => ?_)
      · have h := br_yes h k_13
        refine lv_iconst (v := 0) hx hb dX5_freezes_56 (by decide) ?_
        refine lv_iadd hx hb dX5_freezes_57 ?_
        obtain ⟨t_14, et_14, h⟩ := nm_ok h
        rw [← et_14]
        obtain ⟨k_15, h⟩ := ck_ok h
        obtain ⟨g_16, eg_16, h⟩ := nm_ok h
        refine x_iast (f := (M_st v)) (bs' := [mB G o ((M_ro v), (M_sa v), (M_od v), g_16, (M_ne v), (M_fd v), (M_tx v), (M_le v), (M_at v), (M_nu v), (M_it v), (M_h v))]) 0 3 X hw rfl rfl k_15 dX5_freezes_58 (by rw [eg_16]; rfl) (fun H locs hw => ?_)
        obtain ⟨t_17, et_17, h⟩ := nm_ok h
        refine lv_iinc (v := t_17) (lv' := [(2, .int t_17), (0, .ref (o 0)), (1, .int x1)]) hx hb dX5_freezes_59 hl (k := 2) rfl (by rw [et_17]; rfl) (by decide) rfl (fun ls hl => ?_)
        refine lv_goto (tgt := 21) hx hb dX5_freezes_62 (by decide) ?_
        exact ih ((M_ro v), (M_sa v), (M_od v), g_16, (M_ne v), (M_fd v), (M_tx v), (M_le v), (M_at v), (M_nu v), (M_it v), (M_h v)) t_17 _ _ _ h hw (lv_sub hl [1, 2, 0] rfl)
      · have h := br_no h k_13
        refine lv_aload_n hx hb dX5_freezes_43 rfl (lv_at hl 0 rfl) ?_
        refine lv_iload_n hx hb dX5_freezes_44 rfl (lv_at hl 2 rfl) ?_
        refine lv_iload_n hx hb dX5_freezes_45 rfl (lv_at hl 1 rfl) ?_
        obtain ⟨r_18, c_19, h⟩ := bd_ok h
        refine x_Vi (As := [.int x2, .int x1]) (w' := fl [mB G o v]) X hw (m_X5_isBefore (G := G) (l := l) (o := o) c_19) Cut.all 0 0 rfl rfl rfl (cwV 2 hts gX5_freezes_X5_isBefore rfl rfl rfl hd_X5_isBefore ⟨Nat.le_of_ble_eq_true rfl, Nat.le_of_ble_eq_true rfl⟩) rfl hl.1 rfl (Nat.le_of_ble_eq_true rfl) dX5_freezes_46 ⟨Nat.le_of_ble_eq_true rfl, Nat.le_of_ble_eq_true rfl⟩ (fun H locs hw => ?_)
        refine lv_if_eq (tgt := 56) hx hb dX5_freezes_49 (by decide) (fun k_20 => ?_) (fun k_20 => ?_)
        · have h := br_yes h k_20
          refine lv_iconst (v := 0) hx hb dX5_freezes_56 (by decide) ?_
          refine lv_iadd hx hb dX5_freezes_57 ?_
          obtain ⟨t_21, et_21, h⟩ := nm_ok h
          rw [← et_21]
          obtain ⟨k_22, h⟩ := ck_ok h
          obtain ⟨g_23, eg_23, h⟩ := nm_ok h
          refine x_iast (f := (M_st v)) (bs' := [mB G o ((M_ro v), (M_sa v), (M_od v), g_23, (M_ne v), (M_fd v), (M_tx v), (M_le v), (M_at v), (M_nu v), (M_it v), (M_h v))]) 0 3 X hw rfl rfl k_22 dX5_freezes_58 (by rw [eg_23]; rfl) (fun H locs hw => ?_)
          obtain ⟨t_24, et_24, h⟩ := nm_ok h
          refine lv_iinc (v := t_24) (lv' := [(2, .int t_24), (0, .ref (o 0)), (1, .int x1)]) hx hb dX5_freezes_59 hl (k := 2) rfl (by rw [et_24]; rfl) (by decide) rfl (fun ls hl => ?_)
          refine lv_goto (tgt := 21) hx hb dX5_freezes_62 (by decide) ?_
          exact ih ((M_ro v), (M_sa v), (M_od v), g_23, (M_ne v), (M_fd v), (M_tx v), (M_le v), (M_at v), (M_nu v), (M_it v), (M_h v)) t_24 _ _ _ h hw (lv_sub hl [1, 2, 0] rfl)
        · have h := br_no h k_20
          refine lv_iconst (v := 1) hx hb dX5_freezes_52 (by decide) ?_
          refine lv_goto (tgt := 57) hx hb dX5_freezes_53 (by decide) ?_
          refine lv_iadd hx hb dX5_freezes_57 ?_
          obtain ⟨t_25, et_25, h⟩ := nm_ok h
          rw [← et_25]
          obtain ⟨k_26, h⟩ := ck_ok h
          obtain ⟨g_27, eg_27, h⟩ := nm_ok h
          refine x_iast (f := (M_st v)) (bs' := [mB G o ((M_ro v), (M_sa v), (M_od v), g_27, (M_ne v), (M_fd v), (M_tx v), (M_le v), (M_at v), (M_nu v), (M_it v), (M_h v))]) 0 3 X hw rfl rfl k_26 dX5_freezes_58 (by rw [eg_27]; rfl) (fun H locs hw => ?_)
          obtain ⟨t_28, et_28, h⟩ := nm_ok h
          refine lv_iinc (v := t_28) (lv' := [(2, .int t_28), (0, .ref (o 0)), (1, .int x1)]) hx hb dX5_freezes_59 hl (k := 2) rfl (by rw [et_28]; rfl) (by decide) rfl (fun ls hl => ?_)
          refine lv_goto (tgt := 21) hx hb dX5_freezes_62 (by decide) ?_
          exact ih ((M_ro v), (M_sa v), (M_od v), g_27, (M_ne v), (M_fd v), (M_tx v), (M_le v), (M_at v), (M_nu v), (M_it v), (M_h v)) t_28 _ _ _ h hw (lv_sub hl [1, 2, 0] rfl)
noncomputable def f_X5_freezes_b2   : Nat → MV → Int32 → Option (MV)
  | 0 => fun _ _ => none
  | n + 1 => fun v x1 =>
    ck (vp_in 0 644) <|
    br (((M_ro v) (0 : Int32).toNatClampNeg) ≤ x1)
      (f_X5_freezes_b96 FU v 0)
      (ck (vp_in x1 12) <|
       nm (upd (M_st v) x1.toNatClampNeg 0) fun g_4 =>
       f_X5_freezes_b21 (f_X5_freezes_b2 n) x1 FU ((M_ro v), (M_sa v), (M_od v), g_4, (M_ne v), (M_fd v), (M_tx v), (M_le v), (M_at v), (M_nu v), (M_it v), (M_h v)) 0)
set_option maxHeartbeats 4000000 in
set_option maxRecDepth 100000 in
theorem w_X5_freezes_b2 {G : GG} {l : Launch} {p : Program} {e : Env} {s : State} {m : MethodId} {args : Array Value} {below : List Frame} {meth : Method} {c : Code} {A : Nat → Prop} {o : Nat → Nat}  {zv : MV}   (X : Cx p s m args meth c cX5_freezes 4 none wsX5_freezes RX5 G A)  :
    ∀ (n : Nat) (v : MV) (x1 : Int32) (H : Heap) (locs : List Loc) (ls : Array Slot), f_X5_freezes_b2 n v x1 = some (zv) → Wd G A s H locs (fl [mB G o v]) → lv_has ls 4 [(0, .ref (o 0)), (1, .int x1)] → W p l e rX5_freezes s m args below meth c H locs 0 0 (MQ below (Qv G A (fl [mB G o zv])) args s 0 0 A) (F0 m 2 ls []) := by
  obtain ⟨⟨hx, hb, hml, hown, hts⟩, hK, hr, hlk, hA⟩ := id X
  intro n
  induction n with
  | zero =>
    intro v x1 H locs ls h
    rw [f_X5_freezes_b2] at h
    cases h
  | succ n ih =>
    intro v x1 H locs ls h hw hl
    rw [f_X5_freezes_b2] at h
    refine lv_iload_n hx hb dX5_freezes_2 rfl (lv_at hl 1 rfl) ?_
    refine lv_aload_n hx hb dX5_freezes_3 rfl (lv_at hl 0 rfl) ?_
    refine x_get (v := .ref (o 1)) 0 0 X hw in_X5_freezes_5 rfl rfl rfl 0 (by decide) (List.mem_of_getElem? (i := 1) rfl) rfl rfl dX5_freezes_4 ?_
    refine lv_iconst (v := 0) hx hb dX5_freezes_7 (by decide) ?_
    obtain ⟨k_1, h⟩ := ck_ok h
    refine x_iald (f := (M_ro v)) 0 1 X hw rfl rfl k_1 dX5_freezes_8 ?_
    refine lv_icmp_ge (tgt := 94) hx hb dX5_freezes_9 (by decide) (fun k_2 => ?_) (fun k_2 => ?_)
    · have h := br_yes h k_2
      refine lv_iconst (v := 0) hx hb dX5_freezes_94 (by decide) ?_
      refine lv_istore_n (lv' := [(1, .int 0), (0, .ref (o 0))]) hx hb dX5_freezes_95 rfl hl (by decide) rfl (fun ls hl => ?_)
      exact w_X5_freezes_b96 X FU v 0 _ _ _ h hw (lv_sub hl [1, 0] rfl)
    · have h := br_no h k_2
      refine lv_aload_n hx hb dX5_freezes_12 rfl (lv_at hl 0 rfl) ?_
      refine x_get (v := .ref (o 3)) 0 0 X hw in_X5_freezes_5 rfl rfl rfl 3 (by decide) (List.mem_of_getElem? (i := 2) rfl) rfl rfl dX5_freezes_13 ?_
      refine lv_iload_n hx hb dX5_freezes_16 rfl (lv_at hl 1 rfl) ?_
      refine lv_iconst (v := 0) hx hb dX5_freezes_17 (by decide) ?_
      obtain ⟨k_3, h⟩ := ck_ok h
      obtain ⟨g_4, eg_4, h⟩ := nm_ok h
      refine x_iast (f := (M_st v)) (bs' := [mB G o ((M_ro v), (M_sa v), (M_od v), g_4, (M_ne v), (M_fd v), (M_tx v), (M_le v), (M_at v), (M_nu v), (M_it v), (M_h v))]) 0 3 X hw rfl rfl k_3 dX5_freezes_18 (by rw [eg_4]; rfl) (fun H locs hw => ?_)
      refine lv_iconst (v := 0) hx hb dX5_freezes_19 (by decide) ?_
      refine lv_istore_n (lv' := [(2, .int 0), (0, .ref (o 0)), (1, .int x1)]) hx hb dX5_freezes_20 rfl hl (by decide) rfl (fun ls hl => ?_)
      exact w_X5_freezes_b21 X ih FU ((M_ro v), (M_sa v), (M_od v), g_4, (M_ne v), (M_fd v), (M_tx v), (M_le v), (M_at v), (M_nu v), (M_it v), (M_h v)) 0 _ _ _ h hw (lv_sub hl [1, 2, 0] rfl)
noncomputable def f_X5_freezes  (v : MV)  : Option (MV) :=
  f_X5_freezes_b2 FU v 0
set_option maxHeartbeats 4000000 in
set_option maxRecDepth 100000 in
theorem m_X5_freezes {G : GG} {l : Launch} {o : Nat → Nat} {v : MV}  {zv : MV} (h : f_X5_freezes v = some (zv)) : Cv G l yX5_freezes wsX5_freezes rX5_freezes [.ref (o 0)] (fl [mB G o v]) (fl [mB G o zv]) := by
  refine Cv.intro cX5_freezes 4 none RX5 (by decide) rfl rfl (Nat.le_of_ble_eq_true rfl) ?_
  intro p e s m below meth c A ls X hw hl
  obtain ⟨⟨hx, hb, hml, hown, hts⟩, hK, hr, hlk, hA⟩ := id X
  unfold f_X5_freezes at h
  have hl : lv_has ls 4 [(0, .ref (o 0))] := hl
  refine lv_iconst (v := 0) hx hb dX5_freezes_0 (by decide) ?_
  refine lv_istore_n (lv' := [(1, .int 0), (0, .ref (o 0))]) hx hb dX5_freezes_1 rfl hl (by decide) rfl (fun ls hl => ?_)
  exact w_X5_freezes_b2 X FU v 0 _ _ _ h hw (lv_sub hl [1, 0] rfl)

def rX5_pores : Room := { frames := 0, cells := 0, slots := 0, locals := 0 }
theorem hd_X5_pores : yX5_pores.cls = RX5 ∧ yX5_pores.cls ≠ "java/lang/invoke/MethodHandle" ∧ yX5_pores.cls ≠ "java/lang/invoke/VarHandle" ∧ (parseMethodDescriptor yX5_pores.desc).map (fun d => d.parameters.length) = some 1 := by decide +kernel
theorem in_X5_pores_5 : ∀ w ∈ u_ws RX5 TX5 12, w ∈ wsX5_pores := fun w h => (List.mem_cons_of_mem _ (List.mem_append_right _ h))
noncomputable def f_X5_pores  (v : MV) (x1 : Int32) : Option (Int32) :=
  ck (vp_in x1 12) <|
  br (((M_fd v) x1.toNatClampNeg) = (-1))
    (ck (vp_in x1 12) <|
     some (((M_ne v) x1.toNatClampNeg)))
    (some (0))
set_option maxHeartbeats 4000000 in
set_option maxRecDepth 100000 in
theorem m_X5_pores {G : GG} {l : Launch} {o : Nat → Nat} {v : MV} {x1 : Int32} {r : Int32}  (h : f_X5_pores v x1 = some (r)) : Ci G l yX5_pores wsX5_pores rX5_pores [.ref (o 0), .int x1] (fl [mB G o v]) r (fl [mB G o v]) := by
  refine Ci.intro cX5_pores 2 (some .int) RX5 (by decide) rfl rfl (Nat.le_of_ble_eq_true rfl) ?_
  intro p e s m below meth c A ls X hw hl
  obtain ⟨⟨hx, hb, hml, hown, hts⟩, hK, hr, hlk, hA⟩ := id X
  unfold f_X5_pores at h
  have hl : lv_has ls 2 [(0, .ref (o 0)), (1, .int x1)] := hl
  refine lv_aload_n hx hb dX5_pores_0 rfl (lv_at hl 0 rfl) ?_
  refine x_get (v := .ref (o 5)) 0 0 X hw in_X5_pores_5 rfl rfl rfl 5 (by decide) (List.mem_of_getElem? (i := 1) rfl) rfl rfl dX5_pores_1 ?_
  refine lv_iload_n hx hb dX5_pores_4 rfl (lv_at hl 1 rfl) ?_
  obtain ⟨k_1, h⟩ := ck_ok h
  refine x_iald (f := (M_fd v)) 0 5 X hw rfl rfl k_1 dX5_pores_5 ?_
  refine lv_iconst (v := (-1)) hx hb dX5_pores_6 (by decide) ?_
  refine lv_icmp_ne (tgt := 19) hx hb dX5_pores_7 (by decide) (fun k_2 => ?_) (fun k_2 => ?_)
  · have h := br_no h k_2
    refine lv_iconst (v := 0) hx hb dX5_pores_19 (by decide) ?_
    cases h
    exact x_iret X (vp_nar_int _) hw rfl rfl dX5_pores_20
  · have h := br_yes h k_2
    refine lv_aload_n hx hb dX5_pores_10 rfl (lv_at hl 0 rfl) ?_
    refine x_get (v := .ref (o 4)) 0 0 X hw in_X5_pores_5 rfl rfl rfl 4 (by decide) (List.mem_of_getElem? (i := 2) rfl) rfl rfl dX5_pores_11 ?_
    refine lv_iload_n hx hb dX5_pores_14 rfl (lv_at hl 1 rfl) ?_
    obtain ⟨k_3, h⟩ := ck_ok h
    refine x_iald (f := (M_ne v)) 0 4 X hw rfl rfl k_3 dX5_pores_15 ?_
    refine lv_goto (tgt := 20) hx hb dX5_pores_16 (by decide) ?_
    cases h
    exact x_iret X (vp_nar_int _) hw rfl rfl dX5_pores_20

def rX5_excess : Room := { frames := 1, cells := 0, slots := 0, locals := 22 }
theorem hd_X5_excess : yX5_excess.cls = RX5 ∧ yX5_excess.cls ≠ "java/lang/invoke/MethodHandle" ∧ yX5_excess.cls ≠ "java/lang/invoke/VarHandle" ∧ (parseMethodDescriptor yX5_excess.desc).map (fun d => d.parameters.length) = some 1 := by decide +kernel
theorem in_X5_excess_5 : ∀ w ∈ u_ws RX5 TX5 12, w ∈ wsX5_excess := fun w h => (List.mem_cons_of_mem _ (List.mem_append_right _ h))
noncomputable def f_X5_excess_b31  (v : MV) (x1 : Int32) (y0 : Int32) : Option (Int32) :=
  bd (f_X5_pores v x1) fun r_1 =>
  br (r_1 ≤ y0)
    (some (0))
    (bd (f_X5_pores v x1) fun r_4 =>
     some ((r_4 - y0)))
set_option maxHeartbeats 4000000 in
set_option maxRecDepth 100000 in
theorem w_X5_excess_b31 {G : GG} {l : Launch} {p : Program} {e : Env} {s : State} {m : MethodId} {args : Array Value} {below : List Frame} {meth : Method} {c : Code} {A : Nat → Prop} {o : Nat → Nat} {v : MV} {r : Int32}    (X : Cx p s m args meth c cX5_excess 3 (some .int) wsX5_excess RX5 G A)  :
    ∀ (x1 : Int32) (y0 : Int32) (H : Heap) (locs : List Loc) (ls : Array Slot), f_X5_excess_b31 v x1 y0 = some (r) → Wd G A s H locs (fl [mB G o v]) → lv_has ls 3 [(0, .ref (o 0)), (1, .int x1)] → W p l e rX5_excess s m args below meth c H locs 0 0 (MQ below (Qi G A r (fl [mB G o v])) args s 0 0 A) (F0 m 31 ls [.int y0]) := by
  obtain ⟨⟨hx, hb, hml, hown, hts⟩, hK, hr, hlk, hA⟩ := id X
  intro x1 y0 H locs ls h hw hl
  unfold f_X5_excess_b31 at h
  refine lv_istore_n (lv' := [(2, .int y0), (0, .ref (o 0)), (1, .int x1)]) hx hb dX5_excess_31 rfl hl (by decide) rfl (fun ls hl => ?_)
  refine lv_aload_n hx hb dX5_excess_32 rfl (lv_at hl 1 rfl) ?_
  refine lv_iload_n hx hb dX5_excess_33 rfl (lv_at hl 2 rfl) ?_
  obtain ⟨r_1, c_2, h⟩ := bd_ok h
  refine x_Vi (As := [.int x1]) (w' := fl [mB G o v]) X hw (m_X5_pores (G := G) (l := l) (o := o) c_2) Cut.all 0 0 rfl rfl rfl (cwV 1 hts gX5_excess_X5_pores rfl rfl rfl hd_X5_pores ⟨Nat.le_of_ble_eq_true rfl, Nat.le_of_ble_eq_true rfl⟩) rfl hl.1 rfl (Nat.le_of_ble_eq_true rfl) dX5_excess_34 ⟨Nat.le_of_ble_eq_true rfl, Nat.le_of_ble_eq_true rfl⟩ (fun H locs hw => ?_)
  refine lv_iload_n hx hb dX5_excess_37 rfl (lv_at hl 0 rfl) ?_
  refine lv_icmp_le (tgt := 51) hx hb dX5_excess_38 (by decide) (fun k_3 => ?_) (fun k_3 => ?_)
  · have h := br_yes h k_3
    refine lv_iconst (v := 0) hx hb dX5_excess_51 (by decide) ?_
    cases h
    exact x_iret X (vp_nar_int _) hw rfl rfl dX5_excess_52
  · have h := br_no h k_3
    refine lv_aload_n hx hb dX5_excess_41 rfl (lv_at hl 1 rfl) ?_
    refine lv_iload_n hx hb dX5_excess_42 rfl (lv_at hl 2 rfl) ?_
    obtain ⟨r_4, c_5, h⟩ := bd_ok h
    refine x_Vi (As := [.int x1]) (w' := fl [mB G o v]) X hw (m_X5_pores (G := G) (l := l) (o := o) c_5) Cut.all 0 0 rfl rfl rfl (cwV 1 hts gX5_excess_X5_pores rfl rfl rfl hd_X5_pores ⟨Nat.le_of_ble_eq_true rfl, Nat.le_of_ble_eq_true rfl⟩) rfl hl.1 rfl (Nat.le_of_ble_eq_true rfl) dX5_excess_43 ⟨Nat.le_of_ble_eq_true rfl, Nat.le_of_ble_eq_true rfl⟩ (fun H locs hw => ?_)
    refine lv_iload_n hx hb dX5_excess_46 rfl (lv_at hl 0 rfl) ?_
    refine lv_isub hx hb dX5_excess_47 ?_
    refine lv_goto (tgt := 52) hx hb dX5_excess_48 (by decide) ?_
    cases h
    exact x_iret X (vp_nar_int _) hw rfl rfl dX5_excess_52
noncomputable def f_X5_excess  (v : MV) (x1 : Int32) : Option (Int32) :=
  bd (f_X5_of v x1 3) fun r_1 =>
  br (r_1 = 1)
    (bd (f_X5_of v x1 0) fun r_4 =>
     ck (vp_in 3 644) <|
     ck (¬ (1000 : Int32) = 0) <|
     nm ((r_4 * ((M_ro v) (3 : Int32).toNatClampNeg)) : Int32) fun t_8 =>
     f_X5_excess_b31 v x1 (t_8 / 1000))
    (f_X5_excess_b31 v x1 0)
set_option maxHeartbeats 4000000 in
set_option maxRecDepth 100000 in
theorem m_X5_excess {G : GG} {l : Launch} {o : Nat → Nat} {v : MV} {x1 : Int32} {r : Int32}  (h : f_X5_excess v x1 = some (r)) : Ci G l yX5_excess wsX5_excess rX5_excess [.ref (o 0), .int x1] (fl [mB G o v]) r (fl [mB G o v]) := by
  refine Ci.intro cX5_excess 3 (some .int) RX5 (by decide) rfl rfl (Nat.le_of_ble_eq_true rfl) ?_
  intro p e s m below meth c A ls X hw hl
  obtain ⟨⟨hx, hb, hml, hown, hts⟩, hK, hr, hlk, hA⟩ := id X
  unfold f_X5_excess at h
  have hl : lv_has ls 3 [(0, .ref (o 0)), (1, .int x1)] := hl
  refine lv_aload_n hx hb dX5_excess_0 rfl (lv_at hl 0 rfl) ?_
  refine lv_iload_n hx hb dX5_excess_1 rfl (lv_at hl 1 rfl) ?_
  refine lv_iconst (v := 3) hx hb dX5_excess_2 (by decide) ?_
  obtain ⟨r_1, c_2, h⟩ := bd_ok h
  refine x_Vi (As := [.int x1, .int 3]) (w' := fl [mB G o v]) X hw (m_X5_of (G := G) (l := l) (o := o) c_2) Cut.all 0 0 rfl rfl rfl (cwV 2 hts gX5_excess_X5_of rfl rfl rfl hd_X5_of ⟨Nat.le_of_ble_eq_true rfl, Nat.le_of_ble_eq_true rfl⟩) rfl hl.1 rfl (Nat.le_of_ble_eq_true rfl) dX5_excess_3 ⟨Nat.le_of_ble_eq_true rfl, Nat.le_of_ble_eq_true rfl⟩ (fun H locs hw => ?_)
  refine lv_iconst (v := 1) hx hb dX5_excess_6 (by decide) ?_
  refine lv_icmp_ne (tgt := 30) hx hb dX5_excess_7 (by decide) (fun k_3 => ?_) (fun k_3 => ?_)
  · have h := br_no h k_3
    refine lv_iconst (v := 0) hx hb dX5_excess_30 (by decide) ?_
    exact w_X5_excess_b31 X x1 0 _ _ _ h hw (lv_sub hl [0, 1] rfl)
  · have h := br_yes h k_3
    refine lv_aload_n hx hb dX5_excess_10 rfl (lv_at hl 0 rfl) ?_
    refine lv_iload_n hx hb dX5_excess_11 rfl (lv_at hl 1 rfl) ?_
    refine lv_iconst (v := 0) hx hb dX5_excess_12 (by decide) ?_
    obtain ⟨r_4, c_5, h⟩ := bd_ok h
    refine x_Vi (As := [.int x1, .int 0]) (w' := fl [mB G o v]) X hw (m_X5_of (G := G) (l := l) (o := o) c_5) Cut.all 0 0 rfl rfl rfl (cwV 2 hts gX5_excess_X5_of rfl rfl rfl hd_X5_of ⟨Nat.le_of_ble_eq_true rfl, Nat.le_of_ble_eq_true rfl⟩) rfl hl.1 rfl (Nat.le_of_ble_eq_true rfl) dX5_excess_13 ⟨Nat.le_of_ble_eq_true rfl, Nat.le_of_ble_eq_true rfl⟩ (fun H locs hw => ?_)
    refine lv_aload_n hx hb dX5_excess_16 rfl (lv_at hl 0 rfl) ?_
    refine x_get (v := .ref (o 1)) 0 0 X hw in_X5_excess_5 rfl rfl rfl 0 (by decide) (List.mem_of_getElem? (i := 1) rfl) rfl rfl dX5_excess_17 ?_
    refine lv_iconst (v := 3) hx hb dX5_excess_20 (by decide) ?_
    obtain ⟨k_6, h⟩ := ck_ok h
    refine x_iald (f := (M_ro v)) 0 1 X hw rfl rfl k_6 dX5_excess_21 ?_
    refine lv_imul hx hb dX5_excess_22 ?_
    refine lv_sipush (v := 1000) hx hb dX5_excess_23 (by decide) ?_
    obtain ⟨k_7, h⟩ := ck_ok h
    obtain ⟨t_8, et_8, h⟩ := nm_ok h
    rw [← et_8]
    refine lv_idiv hx hb dX5_excess_26 k_7 ?_
    refine lv_goto (tgt := 31) hx hb dX5_excess_27 (by decide) ?_
    exact w_X5_excess_b31 X x1 (t_8 / 1000) _ _ _ h hw (lv_sub hl [0, 1] rfl)

def rX5_excesses : Room := { frames := 3, cells := 0, slots := 0, locals := 69 }
theorem hd_X5_excesses : yX5_excesses.cls = RX5 ∧ yX5_excesses.cls ≠ "java/lang/invoke/MethodHandle" ∧ yX5_excesses.cls ≠ "java/lang/invoke/VarHandle" ∧ (parseMethodDescriptor yX5_excesses.desc).map (fun d => d.parameters.length) = some 0 := by decide +kernel
theorem in_X5_excesses_5 : ∀ w ∈ u_ws RX5 TX5 12, w ∈ wsX5_excesses := fun w h => (List.mem_cons_of_mem _ (List.mem_append_right _ h))
noncomputable def f_X5_excesses_b8   : Nat → MV → Int32 → Int32 → Option (Int32 × MV)
  | 0 => fun _ _ _ => none
  | n + 1 => fun v x1 x2 =>
    ck (vp_in 0 644) <|
    br (((M_ro v) (0 : Int32).toNatClampNeg) ≤ x2)
      (some (x1, v))
      (bd (f_X5_excess v x2) fun r_3 =>
       nm ((x1 + r_3) : Int32) fun t_5 =>
       nm (x2 + 1 : Int32) fun t_6 =>
       f_X5_excesses_b8 n v t_5 t_6)
set_option maxHeartbeats 4000000 in
set_option maxRecDepth 100000 in
theorem w_X5_excesses_b8 {G : GG} {l : Launch} {p : Program} {e : Env} {s : State} {m : MethodId} {args : Array Value} {below : List Frame} {meth : Method} {c : Code} {A : Nat → Prop} {o : Nat → Nat}  {r : Int32} {zv : MV}   (X : Cx p s m args meth c cX5_excesses 3 (some .int) wsX5_excesses RX5 G A)  :
    ∀ (n : Nat) (v : MV) (x1 : Int32) (x2 : Int32) (H : Heap) (locs : List Loc) (ls : Array Slot), f_X5_excesses_b8 n v x1 x2 = some (r, zv) → Wd G A s H locs (fl [mB G o v]) → lv_has ls 3 [(0, .ref (o 0)), (1, .int x1), (2, .int x2)] → W p l e rX5_excesses s m args below meth c H locs 0 0 (MQ below (Qi G A r (fl [mB G o zv])) args s 0 0 A) (F0 m 8 ls []) := by
  obtain ⟨⟨hx, hb, hml, hown, hts⟩, hK, hr, hlk, hA⟩ := id X
  intro n
  induction n with
  | zero =>
    intro v x1 x2 H locs ls h
    rw [f_X5_excesses_b8] at h
    cases h
  | succ n ih =>
    intro v x1 x2 H locs ls h hw hl
    rw [f_X5_excesses_b8] at h
    refine lv_iload_n hx hb dX5_excesses_8 rfl (lv_at hl 2 rfl) ?_
    refine lv_aload_n hx hb dX5_excesses_9 rfl (lv_at hl 0 rfl) ?_
    refine x_get (v := .ref (o 1)) 0 0 X hw in_X5_excesses_5 rfl rfl rfl 0 (by decide) (List.mem_of_getElem? (i := 1) rfl) rfl rfl dX5_excesses_10 ?_
    refine lv_iconst (v := 0) hx hb dX5_excesses_13 (by decide) ?_
    obtain ⟨k_1, h⟩ := ck_ok h
    refine x_iald (f := (M_ro v)) 0 1 X hw rfl rfl k_1 dX5_excesses_14 ?_
    refine lv_icmp_ge (tgt := 32) hx hb dX5_excesses_15 (by decide) (fun k_2 => ?_) (fun k_2 => ?_)
    · have h := br_yes h k_2
      refine lv_iload_n hx hb dX5_excesses_32 rfl (lv_at hl 1 rfl) ?_
      cases h
      exact x_iret X (vp_nar_int _) hw rfl rfl dX5_excesses_33
    · have h := br_no h k_2
      refine lv_iload_n hx hb dX5_excesses_18 rfl (lv_at hl 1 rfl) ?_
      refine lv_aload_n hx hb dX5_excesses_19 rfl (lv_at hl 0 rfl) ?_
      refine lv_iload_n hx hb dX5_excesses_20 rfl (lv_at hl 2 rfl) ?_
      obtain ⟨r_3, c_4, h⟩ := bd_ok h
      refine x_Vi (As := [.int x2]) (w' := fl [mB G o v]) X hw (m_X5_excess (G := G) (l := l) (o := o) c_4) Cut.all 0 0 rfl rfl rfl (cwV 1 hts gX5_excesses_X5_excess rfl rfl rfl hd_X5_excess ⟨Nat.le_of_ble_eq_true rfl, Nat.le_of_ble_eq_true rfl⟩) rfl hl.1 rfl (Nat.le_of_ble_eq_true rfl) dX5_excesses_21 ⟨Nat.le_of_ble_eq_true rfl, Nat.le_of_ble_eq_true rfl⟩ (fun H locs hw => ?_)
      refine lv_iadd hx hb dX5_excesses_24 ?_
      obtain ⟨t_5, et_5, h⟩ := nm_ok h
      refine lv_istore_n (lv' := [(1, .int t_5), (0, .ref (o 0)), (2, .int x2)]) hx hb dX5_excesses_25 rfl hl (by decide) (by rw [et_5]; rfl) (fun ls hl => ?_)
      obtain ⟨t_6, et_6, h⟩ := nm_ok h
      refine lv_iinc (v := t_6) (lv' := [(2, .int t_6), (1, .int t_5), (0, .ref (o 0))]) hx hb dX5_excesses_26 hl (k := 2) rfl (by rw [et_6]; rfl) (by decide) rfl (fun ls hl => ?_)
      refine lv_goto (tgt := 8) hx hb dX5_excesses_29 (by decide) ?_
      exact ih v t_5 t_6 _ _ _ h hw (lv_sub hl [2, 1, 0] rfl)
noncomputable def f_X5_excesses  (v : MV)  : Option (Int32 × MV) :=
  bd (f_X5_freezes v) fun v_1 =>
  f_X5_excesses_b8 FU v_1 0 0
set_option maxHeartbeats 4000000 in
set_option maxRecDepth 100000 in
theorem m_X5_excesses {G : GG} {l : Launch} {o : Nat → Nat} {v : MV}  {r : Int32} {zv : MV} (h : f_X5_excesses v = some (r, zv)) : Ci G l yX5_excesses wsX5_excesses rX5_excesses [.ref (o 0)] (fl [mB G o v]) r (fl [mB G o zv]) := by
  refine Ci.intro cX5_excesses 3 (some .int) RX5 (by decide) rfl rfl (Nat.le_of_ble_eq_true rfl) ?_
  intro p e s m below meth c A ls X hw hl
  obtain ⟨⟨hx, hb, hml, hown, hts⟩, hK, hr, hlk, hA⟩ := id X
  unfold f_X5_excesses at h
  have hl : lv_has ls 3 [(0, .ref (o 0))] := hl
  refine lv_aload_n hx hb dX5_excesses_0 rfl (lv_at hl 0 rfl) ?_
  obtain ⟨v_1, c_2, h⟩ := bd_ok h
  refine x_Vv (As := []) (w' := fl [mB G o v_1]) X hw (m_X5_freezes (G := G) (l := l) (o := o) c_2) Cut.all 0 0 rfl rfl rfl (cwV 0 hts gX5_excesses_X5_freezes rfl rfl rfl hd_X5_freezes ⟨Nat.le_of_ble_eq_true rfl, Nat.le_of_ble_eq_true rfl⟩) rfl hl.1 rfl (Nat.le_of_ble_eq_true rfl) dX5_excesses_1 ⟨Nat.le_of_ble_eq_true rfl, Nat.le_of_ble_eq_true rfl⟩ (fun H locs hw => ?_)
  refine lv_iconst (v := 0) hx hb dX5_excesses_4 (by decide) ?_
  refine lv_istore_n (lv' := [(1, .int 0), (0, .ref (o 0))]) hx hb dX5_excesses_5 rfl hl (by decide) rfl (fun ls hl => ?_)
  refine lv_iconst (v := 0) hx hb dX5_excesses_6 (by decide) ?_
  refine lv_istore_n (lv' := [(2, .int 0), (1, .int 0), (0, .ref (o 0))]) hx hb dX5_excesses_7 rfl hl (by decide) rfl (fun ls hl => ?_)
  exact w_X5_excesses_b8 X FU v_1 0 0 _ _ _ h hw (lv_sub hl [2, 1, 0] rfl)

def rX5_yields : Room := { frames := 1, cells := 0, slots := 0, locals := 22 }
theorem hd_X5_yields : yX5_yields.cls = RX5 ∧ yX5_yields.cls ≠ "java/lang/invoke/MethodHandle" ∧ yX5_yields.cls ≠ "java/lang/invoke/VarHandle" ∧ (parseMethodDescriptor yX5_yields.desc).map (fun d => d.parameters.length) = some 0 := by decide +kernel
theorem in_X5_yields_5 : ∀ w ∈ u_ws RX5 TX5 12, w ∈ wsX5_yields := fun w h => (List.mem_cons_of_mem _ (List.mem_append_right _ h))
noncomputable def f_X5_yields_b46  (k6 : Int32 → Int32 → Int32 → Option (Int32)) (v : MV) (x1 : Int32) (x3 : Int32) (y0 : Int32) (y1 : Int32) : Option (Int32) :=
  nm ((y1 + y0) : Int32) fun t_1 =>
  nm (x3 + 1 : Int32) fun t_2 =>
  k6 x1 t_1 t_2
set_option maxHeartbeats 4000000 in
set_option maxRecDepth 100000 in
theorem w_X5_yields_b46 {G : GG} {l : Launch} {p : Program} {e : Env} {s : State} {m : MethodId} {args : Array Value} {below : List Frame} {meth : Method} {c : Code} {A : Nat → Prop} {o : Nat → Nat} {v : MV} {r : Int32}   {k6 : Int32 → Int32 → Int32 → Option (Int32)} (X : Cx p s m args meth c cX5_yields 4 (some .int) wsX5_yields RX5 G A) (hk6 : ∀ (x1 : Int32) (x2 : Int32) (x3 : Int32) (H : Heap) (locs : List Loc) (ls : Array Slot), k6 x1 x2 x3 = some (r) → Wd G A s H locs (fl [mB G o v]) → lv_has ls 4 [(0, .ref (o 0)), (1, .int x1), (2, .int x2), (3, .int x3)] → W p l e rX5_yields s m args below meth c H locs 0 0 (MQ below (Qi G A r (fl [mB G o v])) args s 0 0 A) (F0 m 6 ls [])) :
    ∀ (x1 : Int32) (x3 : Int32) (y0 : Int32) (y1 : Int32) (H : Heap) (locs : List Loc) (ls : Array Slot), f_X5_yields_b46 k6 v x1 x3 y0 y1 = some (r) → Wd G A s H locs (fl [mB G o v]) → lv_has ls 4 [(0, .ref (o 0)), (1, .int x1), (3, .int x3)] → W p l e rX5_yields s m args below meth c H locs 0 0 (MQ below (Qi G A r (fl [mB G o v])) args s 0 0 A) (F0 m 46 ls [.int y0, .int y1]) := by
  obtain ⟨⟨hx, hb, hml, hown, hts⟩, hK, hr, hlk, hA⟩ := id X
  intro x1 x3 y0 y1 H locs ls h hw hl
  unfold f_X5_yields_b46 at h
  refine lv_iadd hx hb dX5_yields_46 ?_
  obtain ⟨t_1, et_1, h⟩ := nm_ok h
  refine lv_istore_n (lv' := [(2, .int t_1), (0, .ref (o 0)), (1, .int x1), (3, .int x3)]) hx hb dX5_yields_47 rfl hl (by decide) (by rw [et_1]; rfl) (fun ls hl => ?_)
  obtain ⟨t_2, et_2, h⟩ := nm_ok h
  refine lv_iinc (v := t_2) (lv' := [(3, .int t_2), (2, .int t_1), (0, .ref (o 0)), (1, .int x1)]) hx hb dX5_yields_48 hl (k := 3) rfl (by rw [et_2]; rfl) (by decide) rfl (fun ls hl => ?_)
  refine lv_goto (tgt := 6) hx hb dX5_yields_51 (by decide) ?_
  exact hk6 x1 t_1 t_2 _ _ _ h hw (lv_sub hl [2, 3, 1, 0] rfl)
noncomputable def f_X5_yields_b6  (v : MV) : Nat → Int32 → Int32 → Int32 → Option (Int32)
  | 0 => fun _ _ _ => none
  | n + 1 => fun x1 x2 x3 =>
    ck (vp_in 0 644) <|
    br (((M_ro v) (0 : Int32).toNatClampNeg) ≤ x3)
      (br (x1 = 0)
         (some (0))
         (ck (¬ (x1 : Int32) = 0) <|
          nm ((1000 * x2) : Int32) fun t_5 =>
          some ((t_5 / x1))))
      (bd (f_X5_of v x3 0) fun r_6 =>
       nm ((x1 + r_6) : Int32) fun t_8 =>
       bd (f_X5_of v x3 3) fun r_9 =>
       br (r_9 = 1)
         (f_X5_yields_b46 (f_X5_yields_b6 v n) v t_8 x3 0 x2)
         (bd (f_X5_of v x3 0) fun r_12 =>
          f_X5_yields_b46 (f_X5_yields_b6 v n) v t_8 x3 r_12 x2))
set_option maxHeartbeats 4000000 in
set_option maxRecDepth 100000 in
theorem w_X5_yields_b6 {G : GG} {l : Launch} {p : Program} {e : Env} {s : State} {m : MethodId} {args : Array Value} {below : List Frame} {meth : Method} {c : Code} {A : Nat → Prop} {o : Nat → Nat} {v : MV} {r : Int32}    (X : Cx p s m args meth c cX5_yields 4 (some .int) wsX5_yields RX5 G A)  :
    ∀ (n : Nat) (x1 : Int32) (x2 : Int32) (x3 : Int32) (H : Heap) (locs : List Loc) (ls : Array Slot), f_X5_yields_b6 v n x1 x2 x3 = some (r) → Wd G A s H locs (fl [mB G o v]) → lv_has ls 4 [(0, .ref (o 0)), (1, .int x1), (2, .int x2), (3, .int x3)] → W p l e rX5_yields s m args below meth c H locs 0 0 (MQ below (Qi G A r (fl [mB G o v])) args s 0 0 A) (F0 m 6 ls []) := by
  obtain ⟨⟨hx, hb, hml, hown, hts⟩, hK, hr, hlk, hA⟩ := id X
  intro n
  induction n with
  | zero =>
    intro x1 x2 x3 H locs ls h
    rw [f_X5_yields_b6] at h
    cases h
  | succ n ih =>
    intro x1 x2 x3 H locs ls h hw hl
    rw [f_X5_yields_b6] at h
    refine lv_iload_n hx hb dX5_yields_6 rfl (lv_at hl 3 rfl) ?_
    refine lv_aload_n hx hb dX5_yields_7 rfl (lv_at hl 0 rfl) ?_
    refine x_get (v := .ref (o 1)) 0 0 X hw in_X5_yields_5 rfl rfl rfl 0 (by decide) (List.mem_of_getElem? (i := 1) rfl) rfl rfl dX5_yields_8 ?_
    refine lv_iconst (v := 0) hx hb dX5_yields_11 (by decide) ?_
    obtain ⟨k_1, h⟩ := ck_ok h
    refine x_iald (f := (M_ro v)) 0 1 X hw rfl rfl k_1 dX5_yields_12 ?_
    refine lv_icmp_ge (tgt := 54) hx hb dX5_yields_13 (by decide) (fun k_2 => ?_) (fun k_2 => ?_)
    · have h := br_yes h k_2
      refine lv_iload_n hx hb dX5_yields_54 rfl (lv_at hl 1 rfl) ?_
      refine lv_if_ne (tgt := 62) hx hb dX5_yields_55 (by decide) (fun k_3 => ?_) (fun k_3 => ?_)
      · have h := br_no h k_3
        refine lv_sipush (v := 1000) hx hb dX5_yields_62 (by decide) ?_
        refine lv_iload_n hx hb dX5_yields_65 rfl (lv_at hl 2 rfl) ?_
        refine lv_imul hx hb dX5_yields_66 ?_
        refine lv_iload_n hx hb dX5_yields_67 rfl (lv_at hl 1 rfl) ?_
        obtain ⟨k_4, h⟩ := ck_ok h
        obtain ⟨t_5, et_5, h⟩ := nm_ok h
        rw [← et_5]
        refine lv_idiv hx hb dX5_yields_68 k_4 ?_
        cases h
        exact x_iret X (vp_nar_int _) hw rfl rfl dX5_yields_69
      · have h := br_yes h k_3
        refine lv_iconst (v := 0) hx hb dX5_yields_58 (by decide) ?_
        refine lv_goto (tgt := 69) hx hb dX5_yields_59 (by decide) ?_
        cases h
        exact x_iret X (vp_nar_int _) hw rfl rfl dX5_yields_69
    · have h := br_no h k_2
      refine lv_iload_n hx hb dX5_yields_16 rfl (lv_at hl 1 rfl) ?_
      refine lv_aload_n hx hb dX5_yields_17 rfl (lv_at hl 0 rfl) ?_
      refine lv_iload_n hx hb dX5_yields_18 rfl (lv_at hl 3 rfl) ?_
      refine lv_iconst (v := 0) hx hb dX5_yields_19 (by decide) ?_
      obtain ⟨r_6, c_7, h⟩ := bd_ok h
      refine x_Vi (As := [.int x3, .int 0]) (w' := fl [mB G o v]) X hw (m_X5_of (G := G) (l := l) (o := o) c_7) Cut.all 0 0 rfl rfl rfl (cwV 2 hts gX5_yields_X5_of rfl rfl rfl hd_X5_of ⟨Nat.le_of_ble_eq_true rfl, Nat.le_of_ble_eq_true rfl⟩) rfl hl.1 rfl (Nat.le_of_ble_eq_true rfl) dX5_yields_20 ⟨Nat.le_of_ble_eq_true rfl, Nat.le_of_ble_eq_true rfl⟩ (fun H locs hw => ?_)
      refine lv_iadd hx hb dX5_yields_23 ?_
      obtain ⟨t_8, et_8, h⟩ := nm_ok h
      refine lv_istore_n (lv' := [(1, .int t_8), (0, .ref (o 0)), (2, .int x2), (3, .int x3)]) hx hb dX5_yields_24 rfl hl (by decide) (by rw [et_8]; rfl) (fun ls hl => ?_)
      refine lv_iload_n hx hb dX5_yields_25 rfl (lv_at hl 2 rfl) ?_
      refine lv_aload_n hx hb dX5_yields_26 rfl (lv_at hl 1 rfl) ?_
      refine lv_iload_n hx hb dX5_yields_27 rfl (lv_at hl 3 rfl) ?_
      refine lv_iconst (v := 3) hx hb dX5_yields_28 (by decide) ?_
      obtain ⟨r_9, c_10, h⟩ := bd_ok h
      refine x_Vi (As := [.int x3, .int 3]) (w' := fl [mB G o v]) X hw (m_X5_of (G := G) (l := l) (o := o) c_10) Cut.all 0 0 rfl rfl rfl (cwV 2 hts gX5_yields_X5_of rfl rfl rfl hd_X5_of ⟨Nat.le_of_ble_eq_true rfl, Nat.le_of_ble_eq_true rfl⟩) rfl hl.1 rfl (Nat.le_of_ble_eq_true rfl) dX5_yields_29 ⟨Nat.le_of_ble_eq_true rfl, Nat.le_of_ble_eq_true rfl⟩ (fun H locs hw => ?_)
      refine lv_iconst (v := 1) hx hb dX5_yields_32 (by decide) ?_
      refine lv_icmp_ne (tgt := 40) hx hb dX5_yields_33 (by decide) (fun k_11 => ?_) (fun k_11 => ?_)
      · have h := br_no h k_11
        refine lv_aload_n hx hb dX5_yields_40 rfl (lv_at hl 1 rfl) ?_
        refine lv_iload_n hx hb dX5_yields_41 rfl (lv_at hl 3 rfl) ?_
        refine lv_iconst (v := 0) hx hb dX5_yields_42 (by decide) ?_
        obtain ⟨r_12, c_13, h⟩ := bd_ok h
        refine x_Vi (As := [.int x3, .int 0]) (w' := fl [mB G o v]) X hw (m_X5_of (G := G) (l := l) (o := o) c_13) Cut.all 0 0 rfl rfl rfl (cwV 2 hts gX5_yields_X5_of rfl rfl rfl hd_X5_of ⟨Nat.le_of_ble_eq_true rfl, Nat.le_of_ble_eq_true rfl⟩) rfl hl.1 rfl (Nat.le_of_ble_eq_true rfl) dX5_yields_43 ⟨Nat.le_of_ble_eq_true rfl, Nat.le_of_ble_eq_true rfl⟩ (fun H locs hw => ?_)
        exact w_X5_yields_b46 X ih t_8 x3 r_12 x2 _ _ _ h hw (lv_sub hl [1, 0, 3] rfl)
      · have h := br_yes h k_11
        refine lv_iconst (v := 0) hx hb dX5_yields_36 (by decide) ?_
        refine lv_goto (tgt := 46) hx hb dX5_yields_37 (by decide) ?_
        exact w_X5_yields_b46 X ih t_8 x3 0 x2 _ _ _ h hw (lv_sub hl [1, 0, 3] rfl)
noncomputable def f_X5_yields  (v : MV)  : Option (Int32) :=
  f_X5_yields_b6 v FU 0 0 0
set_option maxHeartbeats 4000000 in
set_option maxRecDepth 100000 in
theorem m_X5_yields {G : GG} {l : Launch} {o : Nat → Nat} {v : MV}  {r : Int32}  (h : f_X5_yields v = some (r)) : Ci G l yX5_yields wsX5_yields rX5_yields [.ref (o 0)] (fl [mB G o v]) r (fl [mB G o v]) := by
  refine Ci.intro cX5_yields 4 (some .int) RX5 (by decide) rfl rfl (Nat.le_of_ble_eq_true rfl) ?_
  intro p e s m below meth c A ls X hw hl
  obtain ⟨⟨hx, hb, hml, hown, hts⟩, hK, hr, hlk, hA⟩ := id X
  unfold f_X5_yields at h
  have hl : lv_has ls 4 [(0, .ref (o 0))] := hl
  refine lv_iconst (v := 0) hx hb dX5_yields_0 (by decide) ?_
  refine lv_istore_n (lv' := [(1, .int 0), (0, .ref (o 0))]) hx hb dX5_yields_1 rfl hl (by decide) rfl (fun ls hl => ?_)
  refine lv_iconst (v := 0) hx hb dX5_yields_2 (by decide) ?_
  refine lv_istore_n (lv' := [(2, .int 0), (1, .int 0), (0, .ref (o 0))]) hx hb dX5_yields_3 rfl hl (by decide) rfl (fun ls hl => ?_)
  refine lv_iconst (v := 0) hx hb dX5_yields_4 (by decide) ?_
  refine lv_istore_n (lv' := [(3, .int 0), (2, .int 0), (1, .int 0), (0, .ref (o 0))]) hx hb dX5_yields_5 rfl hl (by decide) rfl (fun ls hl => ?_)
  exact w_X5_yields_b6 X FU 0 0 0 _ _ _ h hw (lv_sub hl [3, 2, 1, 0] rfl)

def rX5_count : Room := { frames := 4, cells := 0, slots := 0, locals := 91 }
theorem hd_X5_count : yX5_count.cls = RX5 ∧ yX5_count.cls ≠ "java/lang/invoke/MethodHandle" ∧ yX5_count.cls ≠ "java/lang/invoke/VarHandle" ∧ (parseMethodDescriptor yX5_count.desc).map (fun d => d.parameters.length) = some 1 := by decide +kernel
theorem in_X5_count_5 : ∀ w ∈ u_ws RX5 TX5 12, w ∈ wsX5_count := fun w h => (List.mem_cons_of_mem _ (List.mem_append_right _ h))
noncomputable def f_X5_count_b92  (k35 : MV → Int32 → Int32 → Option (Int32 × MV)) (x1 : Int32) (x2 : Int32) (v : MV) (x4 : Int32) (y0 : Int32) (y1 : Int32) : Option (Int32 × MV) :=
  nm ((y1 + y0) : Int32) fun t_1 =>
  nm (x4 + 1 : Int32) fun t_2 =>
  k35 v t_1 t_2
set_option maxHeartbeats 4000000 in
set_option maxRecDepth 100000 in
theorem w_X5_count_b92 {G : GG} {l : Launch} {p : Program} {e : Env} {s : State} {m : MethodId} {args : Array Value} {below : List Frame} {meth : Method} {c : Code} {A : Nat → Prop} {o : Nat → Nat} {x1 : Int32} {x2 : Int32} {r : Int32} {zv : MV}  {k35 : MV → Int32 → Int32 → Option (Int32 × MV)} (X : Cx p s m args meth c cX5_count 5 (some .int) wsX5_count RX5 G A) (hk35 : ∀ (v : MV) (x3 : Int32) (x4 : Int32) (H : Heap) (locs : List Loc) (ls : Array Slot), k35 v x3 x4 = some (r, zv) → Wd G A s H locs (fl [mB G o v]) → lv_has ls 5 [(0, .ref (o 0)), (1, .int x1), (2, .int x2), (3, .int x3), (4, .int x4)] → W p l e rX5_count s m args below meth c H locs 0 0 (MQ below (Qi G A r (fl [mB G o zv])) args s 0 0 A) (F0 m 35 ls [])) :
    ∀ (v : MV) (x4 : Int32) (y0 : Int32) (y1 : Int32) (H : Heap) (locs : List Loc) (ls : Array Slot), f_X5_count_b92 k35 x1 x2 v x4 y0 y1 = some (r, zv) → Wd G A s H locs (fl [mB G o v]) → lv_has ls 5 [(0, .ref (o 0)), (1, .int x1), (2, .int x2), (4, .int x4)] → W p l e rX5_count s m args below meth c H locs 0 0 (MQ below (Qi G A r (fl [mB G o zv])) args s 0 0 A) (F0 m 92 ls [.int y0, .int y1]) := by
  obtain ⟨⟨hx, hb, hml, hown, hts⟩, hK, hr, hlk, hA⟩ := id X
  intro v x4 y0 y1 H locs ls h hw hl
  unfold f_X5_count_b92 at h
  refine lv_iadd hx hb dX5_count_92 ?_
  obtain ⟨t_1, et_1, h⟩ := nm_ok h
  refine lv_istore_n (lv' := [(3, .int t_1), (0, .ref (o 0)), (1, .int x1), (2, .int x2), (4, .int x4)]) hx hb dX5_count_93 rfl hl (by decide) (by rw [et_1]; rfl) (fun ls hl => ?_)
  obtain ⟨t_2, et_2, h⟩ := nm_ok h
  refine lv_iinc (v := t_2) (lv' := [(4, .int t_2), (3, .int t_1), (0, .ref (o 0)), (1, .int x1), (2, .int x2)]) hx hb dX5_count_94 hl (k := 4) rfl (by rw [et_2]; rfl) (by decide) rfl (fun ls hl => ?_)
  refine lv_goto (tgt := 35) hx hb dX5_count_97 (by decide) ?_
  exact hk35 v t_1 t_2 _ _ _ h hw (lv_sub hl [2, 3, 4, 1, 0] rfl)
noncomputable def f_X5_count_b35  (x1 : Int32) (x2 : Int32) : Nat → MV → Int32 → Int32 → Option (Int32 × MV)
  | 0 => fun _ _ _ => none
  | n + 1 => fun v x3 x4 =>
    ck (vp_in 0 644) <|
    br (((M_ro v) (0 : Int32).toNatClampNeg) ≤ x4)
      (br (7 ≤ x1)
         (br (x1 = 7)
            (some (x2, v))
            (br (x1 = 8)
               (bd (f_X5_yields v) fun r_7 =>
                some (r_7, v))
               (br (x2 = 0)
                  (some (1, v))
                  (some (0, v)))))
         (some (x3, v)))
      (br (x1 = 4)
         (bd (f_X5_of v x4 3) fun r_15 =>
          f_X5_count_b92 (f_X5_count_b35 x1 x2 n) x1 x2 v x4 r_15 x3)
         (br (x1 = 5)
            (ck (vp_in x4 12) <|
             br (((M_fd v) x4.toNatClampNeg) = (-1))
               (f_X5_count_b92 (f_X5_count_b35 x1 x2 n) x1 x2 v x4 1 x3)
               (f_X5_count_b92 (f_X5_count_b35 x1 x2 n) x1 x2 v x4 0 x3))
            (bd (f_X5_pores v x4) fun r_11 =>
             f_X5_count_b92 (f_X5_count_b35 x1 x2 n) x1 x2 v x4 r_11 x3)))
set_option maxHeartbeats 4000000 in
set_option maxRecDepth 100000 in
theorem w_X5_count_b35 {G : GG} {l : Launch} {p : Program} {e : Env} {s : State} {m : MethodId} {args : Array Value} {below : List Frame} {meth : Method} {c : Code} {A : Nat → Prop} {o : Nat → Nat} {x1 : Int32} {x2 : Int32} {r : Int32} {zv : MV}   (X : Cx p s m args meth c cX5_count 5 (some .int) wsX5_count RX5 G A)  :
    ∀ (n : Nat) (v : MV) (x3 : Int32) (x4 : Int32) (H : Heap) (locs : List Loc) (ls : Array Slot), f_X5_count_b35 x1 x2 n v x3 x4 = some (r, zv) → Wd G A s H locs (fl [mB G o v]) → lv_has ls 5 [(0, .ref (o 0)), (1, .int x1), (2, .int x2), (3, .int x3), (4, .int x4)] → W p l e rX5_count s m args below meth c H locs 0 0 (MQ below (Qi G A r (fl [mB G o zv])) args s 0 0 A) (F0 m 35 ls []) := by
  obtain ⟨⟨hx, hb, hml, hown, hts⟩, hK, hr, hlk, hA⟩ := id X
  intro n
  induction n with
  | zero =>
    intro v x3 x4 H locs ls h
    rw [f_X5_count_b35] at h
    cases h
  | succ n ih =>
    intro v x3 x4 H locs ls h hw hl
    rw [f_X5_count_b35] at h
    refine lv_iload hx hb dX5_count_35 (lv_at hl 4 rfl) ?_
    refine lv_aload_n hx hb dX5_count_37 rfl (lv_at hl 0 rfl) ?_
    refine x_get (v := .ref (o 1)) 0 0 X hw in_X5_count_5 rfl rfl rfl 0 (by decide) (List.mem_of_getElem? (i := 1) rfl) rfl rfl dX5_count_38 ?_
    refine lv_iconst (v := 0) hx hb dX5_count_41 (by decide) ?_
    obtain ⟨k_1, h⟩ := ck_ok h
    refine x_iald (f := (M_ro v)) 0 1 X hw rfl rfl k_1 dX5_count_42 ?_
    refine lv_icmp_ge (tgt := 100) hx hb dX5_count_43 (by decide) (fun k_2 => ?_) (fun k_2 => ?_)
    · have h := br_yes h k_2
      refine lv_iload_n hx hb dX5_count_100 rfl (lv_at hl 1 rfl) ?_
      refine lv_bipush (v := 7) hx hb dX5_count_101 (by decide) ?_
      refine lv_icmp_ge (tgt := 110) hx hb dX5_count_103 (by decide) (fun k_3 => ?_) (fun k_3 => ?_)
      · have h := br_yes h k_3
        refine lv_iload_n hx hb dX5_count_110 rfl (lv_at hl 1 rfl) ?_
        refine lv_bipush (v := 7) hx hb dX5_count_111 (by decide) ?_
        refine lv_icmp_ne (tgt := 120) hx hb dX5_count_113 (by decide) (fun k_4 => ?_) (fun k_4 => ?_)
        · have h := br_no h k_4
          refine lv_iload_n hx hb dX5_count_120 rfl (lv_at hl 1 rfl) ?_
          refine lv_bipush (v := 8) hx hb dX5_count_121 (by decide) ?_
          refine lv_icmp_ne (tgt := 133) hx hb dX5_count_123 (by decide) (fun k_5 => ?_) (fun k_5 => ?_)
          · have h := br_no h k_5
            refine lv_iload_n hx hb dX5_count_133 rfl (lv_at hl 2 rfl) ?_
            refine lv_if_ne (tgt := 141) hx hb dX5_count_134 (by decide) (fun k_6 => ?_) (fun k_6 => ?_)
            · have h := br_no h k_6
              refine lv_iconst (v := 0) hx hb dX5_count_141 (by decide) ?_
              cases h
              exact x_iret X (vp_nar_int _) hw rfl rfl dX5_count_142
            · have h := br_yes h k_6
              refine lv_iconst (v := 1) hx hb dX5_count_137 (by decide) ?_
              refine lv_goto (tgt := 142) hx hb dX5_count_138 (by decide) ?_
              cases h
              exact x_iret X (vp_nar_int _) hw rfl rfl dX5_count_142
          · have h := br_yes h k_5
            refine lv_aload_n hx hb dX5_count_126 rfl (lv_at hl 0 rfl) ?_
            obtain ⟨r_7, c_8, h⟩ := bd_ok h
            refine x_Vi (As := []) (w' := fl [mB G o v]) X hw (m_X5_yields (G := G) (l := l) (o := o) c_8) Cut.all 0 0 rfl rfl rfl (cwV 0 hts gX5_count_X5_yields rfl rfl rfl hd_X5_yields ⟨Nat.le_of_ble_eq_true rfl, Nat.le_of_ble_eq_true rfl⟩) rfl hl.1 rfl (Nat.le_of_ble_eq_true rfl) dX5_count_127 ⟨Nat.le_of_ble_eq_true rfl, Nat.le_of_ble_eq_true rfl⟩ (fun H locs hw => ?_)
            refine lv_goto (tgt := 142) hx hb dX5_count_130 (by decide) ?_
            cases h
            exact x_iret X (vp_nar_int _) hw rfl rfl dX5_count_142
        · have h := br_yes h k_4
          refine lv_iload_n hx hb dX5_count_116 rfl (lv_at hl 2 rfl) ?_
          refine lv_goto (tgt := 142) hx hb dX5_count_117 (by decide) ?_
          cases h
          exact x_iret X (vp_nar_int _) hw rfl rfl dX5_count_142
      · have h := br_no h k_3
        refine lv_iload_n hx hb dX5_count_106 rfl (lv_at hl 3 rfl) ?_
        refine lv_goto (tgt := 142) hx hb dX5_count_107 (by decide) ?_
        cases h
        exact x_iret X (vp_nar_int _) hw rfl rfl dX5_count_142
    · have h := br_no h k_2
      refine lv_iload_n hx hb dX5_count_46 rfl (lv_at hl 3 rfl) ?_
      refine lv_iload_n hx hb dX5_count_47 rfl (lv_at hl 1 rfl) ?_
      refine lv_iconst (v := 4) hx hb dX5_count_48 (by decide) ?_
      refine lv_icmp_ne (tgt := 62) hx hb dX5_count_49 (by decide) (fun k_9 => ?_) (fun k_9 => ?_)
      · have h := br_no h k_9
        refine lv_iload_n hx hb dX5_count_62 rfl (lv_at hl 1 rfl) ?_
        refine lv_iconst (v := 5) hx hb dX5_count_63 (by decide) ?_
        refine lv_icmp_ne (tgt := 86) hx hb dX5_count_64 (by decide) (fun k_10 => ?_) (fun k_10 => ?_)
        · have h := br_no h k_10
          refine lv_aload_n hx hb dX5_count_86 rfl (lv_at hl 0 rfl) ?_
          refine lv_iload hx hb dX5_count_87 (lv_at hl 4 rfl) ?_
          obtain ⟨r_11, c_12, h⟩ := bd_ok h
          refine x_Vi (As := [.int x4]) (w' := fl [mB G o v]) X hw (m_X5_pores (G := G) (l := l) (o := o) c_12) Cut.all 0 0 rfl rfl rfl (cwV 1 hts gX5_count_X5_pores rfl rfl rfl hd_X5_pores ⟨Nat.le_of_ble_eq_true rfl, Nat.le_of_ble_eq_true rfl⟩) rfl hl.1 rfl (Nat.le_of_ble_eq_true rfl) dX5_count_89 ⟨Nat.le_of_ble_eq_true rfl, Nat.le_of_ble_eq_true rfl⟩ (fun H locs hw => ?_)
          exact w_X5_count_b92 X ih v x4 r_11 x3 _ _ _ h hw (lv_sub hl [0, 1, 2, 4] rfl)
        · have h := br_yes h k_10
          refine lv_aload_n hx hb dX5_count_67 rfl (lv_at hl 0 rfl) ?_
          refine x_get (v := .ref (o 5)) 0 0 X hw in_X5_count_5 rfl rfl rfl 5 (by decide) (List.mem_of_getElem? (i := 2) rfl) rfl rfl dX5_count_68 ?_
          refine lv_iload hx hb dX5_count_71 (lv_at hl 4 rfl) ?_
          obtain ⟨k_13, h⟩ := ck_ok h
          refine x_iald (f := (M_fd v)) 0 5 X hw rfl rfl k_13 dX5_count_73 ?_
          refine lv_iconst (v := (-1)) hx hb dX5_count_74 (by decide) ?_
          refine lv_icmp_ne (tgt := 82) hx hb dX5_count_75 (by decide) (fun k_14 => ?_) (fun k_14 => ?_)
          · have h := br_no h k_14
            refine lv_iconst (v := 0) hx hb dX5_count_82 (by decide) ?_
            refine lv_goto (tgt := 92) hx hb dX5_count_83 (by decide) ?_
            exact w_X5_count_b92 X ih v x4 0 x3 _ _ _ h hw (lv_sub hl [0, 1, 2, 4] rfl)
          · have h := br_yes h k_14
            refine lv_iconst (v := 1) hx hb dX5_count_78 (by decide) ?_
            refine lv_goto (tgt := 92) hx hb dX5_count_79 (by decide) ?_
            exact w_X5_count_b92 X ih v x4 1 x3 _ _ _ h hw (lv_sub hl [0, 1, 2, 4] rfl)
      · have h := br_yes h k_9
        refine lv_aload_n hx hb dX5_count_52 rfl (lv_at hl 0 rfl) ?_
        refine lv_iload hx hb dX5_count_53 (lv_at hl 4 rfl) ?_
        refine lv_iconst (v := 3) hx hb dX5_count_55 (by decide) ?_
        obtain ⟨r_15, c_16, h⟩ := bd_ok h
        refine x_Vi (As := [.int x4, .int 3]) (w' := fl [mB G o v]) X hw (m_X5_of (G := G) (l := l) (o := o) c_16) Cut.all 0 0 rfl rfl rfl (cwV 2 hts gX5_count_X5_of rfl rfl rfl hd_X5_of ⟨Nat.le_of_ble_eq_true rfl, Nat.le_of_ble_eq_true rfl⟩) rfl hl.1 rfl (Nat.le_of_ble_eq_true rfl) dX5_count_56 ⟨Nat.le_of_ble_eq_true rfl, Nat.le_of_ble_eq_true rfl⟩ (fun H locs hw => ?_)
        refine lv_goto (tgt := 92) hx hb dX5_count_59 (by decide) ?_
        exact w_X5_count_b92 X ih v x4 r_15 x3 _ _ _ h hw (lv_sub hl [0, 1, 2, 4] rfl)
noncomputable def f_X5_count  (v : MV) (x1 : Int32) : Option (Int32 × MV) :=
  bd (f_X5_in x1 0 9) fun r_1 =>
  br (r_1 = 0)
    (some ((-3), v))
    (br (4 ≤ x1)
       (bd2 (f_X5_excesses v) fun r_5 v_6 =>
        f_X5_count_b35 x1 r_5 FU v_6 0 0)
       (ck (vp_in x1 644) <|
        some (((M_ro v) x1.toNatClampNeg), v)))
set_option maxHeartbeats 4000000 in
set_option maxRecDepth 100000 in
theorem m_X5_count {G : GG} {l : Launch} {o : Nat → Nat} {v : MV} {x1 : Int32} {r : Int32} {zv : MV} (h : f_X5_count v x1 = some (r, zv)) : Ci G l yX5_count wsX5_count rX5_count [.ref (o 0), .int x1] (fl [mB G o v]) r (fl [mB G o zv]) := by
  refine Ci.intro cX5_count 5 (some .int) RX5 (by decide) rfl rfl (Nat.le_of_ble_eq_true rfl) ?_
  intro p e s m below meth c A ls X hw hl
  obtain ⟨⟨hx, hb, hml, hown, hts⟩, hK, hr, hlk, hA⟩ := id X
  unfold f_X5_count at h
  have hl : lv_has ls 5 [(0, .ref (o 0)), (1, .int x1)] := hl
  refine lv_iload_n hx hb dX5_count_0 rfl (lv_at hl 1 rfl) ?_
  refine lv_iconst (v := 0) hx hb dX5_count_1 (by decide) ?_
  refine lv_bipush (v := 9) hx hb dX5_count_2 (by decide) ?_
  obtain ⟨r_1, c_2, h⟩ := bd_ok h
  refine x_Si (As := [.int x1, .int 0, .int 9]) (w' := fl [mB G o v]) X hw (m_X5_in (G := G) (l := l) c_2) Cut.nil (va_cwS 3 hts gX5_count_X5_in rfl rfl rfl hd_X5_in.2 ⟨Nat.le_of_ble_eq_true rfl, Nat.le_of_ble_eq_true rfl⟩) rfl hl.1 rfl (Nat.le_of_ble_eq_true rfl) dX5_count_4 ⟨Nat.le_of_ble_eq_true rfl, Nat.le_of_ble_eq_true rfl⟩ (fun H locs hw => ?_)
  refine lv_if_ne (tgt := 13) hx hb dX5_count_7 (by decide) (fun k_3 => ?_) (fun k_3 => ?_)
  · have h := br_no h k_3
    refine lv_iload_n hx hb dX5_count_13 rfl (lv_at hl 1 rfl) ?_
    refine lv_iconst (v := 4) hx hb dX5_count_14 (by decide) ?_
    refine lv_icmp_ge (tgt := 25) hx hb dX5_count_15 (by decide) (fun k_4 => ?_) (fun k_4 => ?_)
    · have h := br_yes h k_4
      refine lv_aload_n hx hb dX5_count_25 rfl (lv_at hl 0 rfl) ?_
      obtain ⟨r_5, v_6, c_7, h⟩ := bd2_ok h
      refine x_Vi (As := []) (w' := fl [mB G o v_6]) X hw (m_X5_excesses (G := G) (l := l) (o := o) c_7) Cut.all 0 0 rfl rfl rfl (cwV 0 hts gX5_count_X5_excesses rfl rfl rfl hd_X5_excesses ⟨Nat.le_of_ble_eq_true rfl, Nat.le_of_ble_eq_true rfl⟩) rfl hl.1 rfl (Nat.le_of_ble_eq_true rfl) dX5_count_26 ⟨Nat.le_of_ble_eq_true rfl, Nat.le_of_ble_eq_true rfl⟩ (fun H locs hw => ?_)
      refine lv_istore_n (lv' := [(2, .int r_5), (0, .ref (o 0)), (1, .int x1)]) hx hb dX5_count_29 rfl hl (by decide) rfl (fun ls hl => ?_)
      refine lv_iconst (v := 0) hx hb dX5_count_30 (by decide) ?_
      refine lv_istore_n (lv' := [(3, .int 0), (2, .int r_5), (0, .ref (o 0)), (1, .int x1)]) hx hb dX5_count_31 rfl hl (by decide) rfl (fun ls hl => ?_)
      refine lv_iconst (v := 0) hx hb dX5_count_32 (by decide) ?_
      refine lv_istore (lv' := [(4, .int 0), (3, .int 0), (2, .int r_5), (0, .ref (o 0)), (1, .int x1)]) hx hb dX5_count_33 hl (by decide) rfl (fun ls hl => ?_)
      exact w_X5_count_b35 X FU v_6 0 0 _ _ _ h hw (lv_sub hl [3, 4, 2, 1, 0] rfl)
    · have h := br_no h k_4
      refine lv_aload_n hx hb dX5_count_18 rfl (lv_at hl 0 rfl) ?_
      refine x_get (v := .ref (o 1)) 0 0 X hw in_X5_count_5 rfl rfl rfl 0 (by decide) (List.mem_of_getElem? (i := 1) rfl) rfl rfl dX5_count_19 ?_
      refine lv_iload_n hx hb dX5_count_22 rfl (lv_at hl 1 rfl) ?_
      obtain ⟨k_8, h⟩ := ck_ok h
      refine x_iald (f := (M_ro v)) 0 1 X hw rfl rfl k_8 dX5_count_23 ?_
      cases h
      exact x_iret X (vp_nar_int _) hw rfl rfl dX5_count_24
  · have h := br_yes h k_3
    refine lv_bipush (v := (-3)) hx hb dX5_count_10 (by decide) ?_
    cases h
    exact x_iret X (vp_nar_int _) hw rfl rfl dX5_count_12

def rX5_property : Room := { frames := 2, cells := 0, slots := 0, locals := 44 }
theorem hd_X5_property : yX5_property.cls = RX5 ∧ yX5_property.cls ≠ "java/lang/invoke/MethodHandle" ∧ yX5_property.cls ≠ "java/lang/invoke/VarHandle" ∧ (parseMethodDescriptor yX5_property.desc).map (fun d => d.parameters.length) = some 2 := by decide +kernel
theorem in_X5_property_5 : ∀ w ∈ u_ws RX5 TX5 12, w ∈ wsX5_property := fun w h => (List.mem_cons_of_mem _ (List.mem_append_right _ h))
noncomputable def f_X5_property_b69  (k17 : Int32 → Int32 → Option (Int32)) (v : MV) (x1 : Int32) (x2 : Int32) (x4 : Int32) (y0 : Int32) (y1 : Int32) : Option (Int32) :=
  nm ((y1 + y0) : Int32) fun t_1 =>
  nm (x4 + 1 : Int32) fun t_2 =>
  k17 t_1 t_2
set_option maxHeartbeats 4000000 in
set_option maxRecDepth 100000 in
theorem w_X5_property_b69 {G : GG} {l : Launch} {p : Program} {e : Env} {s : State} {m : MethodId} {args : Array Value} {below : List Frame} {meth : Method} {c : Code} {A : Nat → Prop} {o : Nat → Nat} {v : MV} {x1 : Int32} {x2 : Int32} {r : Int32}   {k17 : Int32 → Int32 → Option (Int32)} (X : Cx p s m args meth c cX5_property 5 (some .int) wsX5_property RX5 G A) (hk17 : ∀ (x3 : Int32) (x4 : Int32) (H : Heap) (locs : List Loc) (ls : Array Slot), k17 x3 x4 = some (r) → Wd G A s H locs (fl [mB G o v]) → lv_has ls 5 [(0, .ref (o 0)), (1, .int x1), (2, .int x2), (3, .int x3), (4, .int x4)] → W p l e rX5_property s m args below meth c H locs 0 0 (MQ below (Qi G A r (fl [mB G o v])) args s 0 0 A) (F0 m 17 ls [])) :
    ∀ (x4 : Int32) (y0 : Int32) (y1 : Int32) (H : Heap) (locs : List Loc) (ls : Array Slot), f_X5_property_b69 k17 v x1 x2 x4 y0 y1 = some (r) → Wd G A s H locs (fl [mB G o v]) → lv_has ls 5 [(0, .ref (o 0)), (1, .int x1), (2, .int x2), (4, .int x4)] → W p l e rX5_property s m args below meth c H locs 0 0 (MQ below (Qi G A r (fl [mB G o v])) args s 0 0 A) (F0 m 69 ls [.int y0, .int y1]) := by
  obtain ⟨⟨hx, hb, hml, hown, hts⟩, hK, hr, hlk, hA⟩ := id X
  intro x4 y0 y1 H locs ls h hw hl
  unfold f_X5_property_b69 at h
  refine lv_iadd hx hb dX5_property_69 ?_
  obtain ⟨t_1, et_1, h⟩ := nm_ok h
  refine lv_istore_n (lv' := [(3, .int t_1), (0, .ref (o 0)), (1, .int x1), (2, .int x2), (4, .int x4)]) hx hb dX5_property_70 rfl hl (by decide) (by rw [et_1]; rfl) (fun ls hl => ?_)
  obtain ⟨t_2, et_2, h⟩ := nm_ok h
  refine lv_iinc (v := t_2) (lv' := [(4, .int t_2), (3, .int t_1), (0, .ref (o 0)), (1, .int x1), (2, .int x2)]) hx hb dX5_property_71 hl (k := 4) rfl (by rw [et_2]; rfl) (by decide) rfl (fun ls hl => ?_)
  refine lv_goto (tgt := 17) hx hb dX5_property_74 (by decide) ?_
  exact hk17 t_1 t_2 _ _ _ h hw (lv_sub hl [2, 3, 4, 1, 0] rfl)
noncomputable def f_X5_property_b17  (v : MV) (x1 : Int32) (x2 : Int32) : Nat → Int32 → Int32 → Option (Int32)
  | 0 => fun _ _ => none
  | n + 1 => fun x3 x4 =>
    ck (vp_in 0 644) <|
    br (((M_ro v) (0 : Int32).toNatClampNeg) ≤ x4)
      (br (x2 = 4)
         (ck (vp_in x1 12) <|
          some (((M_st v) x1.toNatClampNeg)))
         (br (x2 = 5)
            (ck (vp_in x1 12) <|
             some (((M_ne v) x1.toNatClampNeg)))
            (br (x2 = 6)
               (bd (f_X5_pores v x1) fun r_11 =>
                some (r_11))
               (br (x2 = 7)
                  (bd (f_X5_excess v x1) fun r_9 =>
                   some (r_9))
                  (br (x2 = 8)
                     (ck (vp_in x1 12) <|
                      some (((M_fd v) x1.toNatClampNeg)))
                     (some (x3)))))))
      (br (x2 = 9)
         (ck (vp_in x4 12) <|
          br (((M_fd v) x4.toNatClampNeg) = x1)
            (f_X5_property_b69 (f_X5_property_b17 v x1 x2 n) v x1 x2 x4 1 x3)
            (f_X5_property_b69 (f_X5_property_b17 v x1 x2 n) v x1 x2 x4 0 x3))
         (bd (f_X5_areNeighbours v x1 x4) fun r_16 =>
          br (r_16 = 0)
            (f_X5_property_b69 (f_X5_property_b17 v x1 x2 n) v x1 x2 x4 0 x3)
            (f_X5_property_b69 (f_X5_property_b17 v x1 x2 n) v x1 x2 x4 1 x3)))
set_option maxHeartbeats 4000000 in
set_option maxRecDepth 100000 in
theorem w_X5_property_b17 {G : GG} {l : Launch} {p : Program} {e : Env} {s : State} {m : MethodId} {args : Array Value} {below : List Frame} {meth : Method} {c : Code} {A : Nat → Prop} {o : Nat → Nat} {v : MV} {x1 : Int32} {x2 : Int32} {r : Int32}    (X : Cx p s m args meth c cX5_property 5 (some .int) wsX5_property RX5 G A)  :
    ∀ (n : Nat) (x3 : Int32) (x4 : Int32) (H : Heap) (locs : List Loc) (ls : Array Slot), f_X5_property_b17 v x1 x2 n x3 x4 = some (r) → Wd G A s H locs (fl [mB G o v]) → lv_has ls 5 [(0, .ref (o 0)), (1, .int x1), (2, .int x2), (3, .int x3), (4, .int x4)] → W p l e rX5_property s m args below meth c H locs 0 0 (MQ below (Qi G A r (fl [mB G o v])) args s 0 0 A) (F0 m 17 ls []) := by
  obtain ⟨⟨hx, hb, hml, hown, hts⟩, hK, hr, hlk, hA⟩ := id X
  intro n
  induction n with
  | zero =>
    intro x3 x4 H locs ls h
    rw [f_X5_property_b17] at h
    cases h
  | succ n ih =>
    intro x3 x4 H locs ls h hw hl
    rw [f_X5_property_b17] at h
    refine lv_iload hx hb dX5_property_17 (lv_at hl 4 rfl) ?_
    refine lv_aload_n hx hb dX5_property_19 rfl (lv_at hl 0 rfl) ?_
    refine x_get (v := .ref (o 1)) 0 0 X hw in_X5_property_5 rfl rfl rfl 0 (by decide) (List.mem_of_getElem? (i := 1) rfl) rfl rfl dX5_property_20 ?_
    refine lv_iconst (v := 0) hx hb dX5_property_23 (by decide) ?_
    obtain ⟨k_1, h⟩ := ck_ok h
    refine x_iald (f := (M_ro v)) 0 1 X hw rfl rfl k_1 dX5_property_24 ?_
    refine lv_icmp_ge (tgt := 77) hx hb dX5_property_25 (by decide) (fun k_2 => ?_) (fun k_2 => ?_)
    · have h := br_yes h k_2
      refine lv_iload_n hx hb dX5_property_77 rfl (lv_at hl 2 rfl) ?_
      refine lv_iconst (v := 4) hx hb dX5_property_78 (by decide) ?_
      refine lv_icmp_ne (tgt := 91) hx hb dX5_property_79 (by decide) (fun k_3 => ?_) (fun k_3 => ?_)
      · have h := br_no h k_3
        refine lv_iload_n hx hb dX5_property_91 rfl (lv_at hl 2 rfl) ?_
        refine lv_iconst (v := 5) hx hb dX5_property_92 (by decide) ?_
        refine lv_icmp_ne (tgt := 105) hx hb dX5_property_93 (by decide) (fun k_4 => ?_) (fun k_4 => ?_)
        · have h := br_no h k_4
          refine lv_iload_n hx hb dX5_property_105 rfl (lv_at hl 2 rfl) ?_
          refine lv_bipush (v := 6) hx hb dX5_property_106 (by decide) ?_
          refine lv_icmp_ne (tgt := 119) hx hb dX5_property_108 (by decide) (fun k_5 => ?_) (fun k_5 => ?_)
          · have h := br_no h k_5
            refine lv_iload_n hx hb dX5_property_119 rfl (lv_at hl 2 rfl) ?_
            refine lv_bipush (v := 7) hx hb dX5_property_120 (by decide) ?_
            refine lv_icmp_ne (tgt := 133) hx hb dX5_property_122 (by decide) (fun k_6 => ?_) (fun k_6 => ?_)
            · have h := br_no h k_6
              refine lv_iload_n hx hb dX5_property_133 rfl (lv_at hl 2 rfl) ?_
              refine lv_bipush (v := 8) hx hb dX5_property_134 (by decide) ?_
              refine lv_icmp_ne (tgt := 148) hx hb dX5_property_136 (by decide) (fun k_7 => ?_) (fun k_7 => ?_)
              · have h := br_no h k_7
                refine lv_iload_n hx hb dX5_property_148 rfl (lv_at hl 3 rfl) ?_
                cases h
                exact x_iret X (vp_nar_int _) hw rfl rfl dX5_property_149
              · have h := br_yes h k_7
                refine lv_aload_n hx hb dX5_property_139 rfl (lv_at hl 0 rfl) ?_
                refine x_get (v := .ref (o 5)) 0 0 X hw in_X5_property_5 rfl rfl rfl 5 (by decide) (List.mem_of_getElem? (i := 2) rfl) rfl rfl dX5_property_140 ?_
                refine lv_iload_n hx hb dX5_property_143 rfl (lv_at hl 1 rfl) ?_
                obtain ⟨k_8, h⟩ := ck_ok h
                refine x_iald (f := (M_fd v)) 0 5 X hw rfl rfl k_8 dX5_property_144 ?_
                refine lv_goto (tgt := 149) hx hb dX5_property_145 (by decide) ?_
                cases h
                exact x_iret X (vp_nar_int _) hw rfl rfl dX5_property_149
            · have h := br_yes h k_6
              refine lv_aload_n hx hb dX5_property_125 rfl (lv_at hl 0 rfl) ?_
              refine lv_iload_n hx hb dX5_property_126 rfl (lv_at hl 1 rfl) ?_
              obtain ⟨r_9, c_10, h⟩ := bd_ok h
              refine x_Vi (As := [.int x1]) (w' := fl [mB G o v]) X hw (m_X5_excess (G := G) (l := l) (o := o) c_10) Cut.all 0 0 rfl rfl rfl (cwV 1 hts gX5_property_X5_excess rfl rfl rfl hd_X5_excess ⟨Nat.le_of_ble_eq_true rfl, Nat.le_of_ble_eq_true rfl⟩) rfl hl.1 rfl (Nat.le_of_ble_eq_true rfl) dX5_property_127 ⟨Nat.le_of_ble_eq_true rfl, Nat.le_of_ble_eq_true rfl⟩ (fun H locs hw => ?_)
              refine lv_goto (tgt := 149) hx hb dX5_property_130 (by decide) ?_
              cases h
              exact x_iret X (vp_nar_int _) hw rfl rfl dX5_property_149
          · have h := br_yes h k_5
            refine lv_aload_n hx hb dX5_property_111 rfl (lv_at hl 0 rfl) ?_
            refine lv_iload_n hx hb dX5_property_112 rfl (lv_at hl 1 rfl) ?_
            obtain ⟨r_11, c_12, h⟩ := bd_ok h
            refine x_Vi (As := [.int x1]) (w' := fl [mB G o v]) X hw (m_X5_pores (G := G) (l := l) (o := o) c_12) Cut.all 0 0 rfl rfl rfl (cwV 1 hts gX5_property_X5_pores rfl rfl rfl hd_X5_pores ⟨Nat.le_of_ble_eq_true rfl, Nat.le_of_ble_eq_true rfl⟩) rfl hl.1 rfl (Nat.le_of_ble_eq_true rfl) dX5_property_113 ⟨Nat.le_of_ble_eq_true rfl, Nat.le_of_ble_eq_true rfl⟩ (fun H locs hw => ?_)
            refine lv_goto (tgt := 149) hx hb dX5_property_116 (by decide) ?_
            cases h
            exact x_iret X (vp_nar_int _) hw rfl rfl dX5_property_149
        · have h := br_yes h k_4
          refine lv_aload_n hx hb dX5_property_96 rfl (lv_at hl 0 rfl) ?_
          refine x_get (v := .ref (o 4)) 0 0 X hw in_X5_property_5 rfl rfl rfl 4 (by decide) (List.mem_of_getElem? (i := 4) rfl) rfl rfl dX5_property_97 ?_
          refine lv_iload_n hx hb dX5_property_100 rfl (lv_at hl 1 rfl) ?_
          obtain ⟨k_13, h⟩ := ck_ok h
          refine x_iald (f := (M_ne v)) 0 4 X hw rfl rfl k_13 dX5_property_101 ?_
          refine lv_goto (tgt := 149) hx hb dX5_property_102 (by decide) ?_
          cases h
          exact x_iret X (vp_nar_int _) hw rfl rfl dX5_property_149
      · have h := br_yes h k_3
        refine lv_aload_n hx hb dX5_property_82 rfl (lv_at hl 0 rfl) ?_
        refine x_get (v := .ref (o 3)) 0 0 X hw in_X5_property_5 rfl rfl rfl 3 (by decide) (List.mem_of_getElem? (i := 3) rfl) rfl rfl dX5_property_83 ?_
        refine lv_iload_n hx hb dX5_property_86 rfl (lv_at hl 1 rfl) ?_
        obtain ⟨k_14, h⟩ := ck_ok h
        refine x_iald (f := (M_st v)) 0 3 X hw rfl rfl k_14 dX5_property_87 ?_
        refine lv_goto (tgt := 149) hx hb dX5_property_88 (by decide) ?_
        cases h
        exact x_iret X (vp_nar_int _) hw rfl rfl dX5_property_149
    · have h := br_no h k_2
      refine lv_iload_n hx hb dX5_property_28 rfl (lv_at hl 3 rfl) ?_
      refine lv_iload_n hx hb dX5_property_29 rfl (lv_at hl 2 rfl) ?_
      refine lv_bipush (v := 9) hx hb dX5_property_30 (by decide) ?_
      refine lv_icmp_ne (tgt := 54) hx hb dX5_property_32 (by decide) (fun k_15 => ?_) (fun k_15 => ?_)
      · have h := br_no h k_15
        refine lv_aload_n hx hb dX5_property_54 rfl (lv_at hl 0 rfl) ?_
        refine lv_iload_n hx hb dX5_property_55 rfl (lv_at hl 1 rfl) ?_
        refine lv_iload hx hb dX5_property_56 (lv_at hl 4 rfl) ?_
        obtain ⟨r_16, c_17, h⟩ := bd_ok h
        refine x_Vi (As := [.int x1, .int x4]) (w' := fl [mB G o v]) X hw (m_X5_areNeighbours (G := G) (l := l) (o := o) c_17) Cut.all 0 0 rfl rfl rfl (cwV 2 hts gX5_property_X5_areNeighbours rfl rfl rfl hd_X5_areNeighbours ⟨Nat.le_of_ble_eq_true rfl, Nat.le_of_ble_eq_true rfl⟩) rfl hl.1 rfl (Nat.le_of_ble_eq_true rfl) dX5_property_58 ⟨Nat.le_of_ble_eq_true rfl, Nat.le_of_ble_eq_true rfl⟩ (fun H locs hw => ?_)
        refine lv_if_eq (tgt := 68) hx hb dX5_property_61 (by decide) (fun k_18 => ?_) (fun k_18 => ?_)
        · have h := br_yes h k_18
          refine lv_iconst (v := 0) hx hb dX5_property_68 (by decide) ?_
          exact w_X5_property_b69 X ih x4 0 x3 _ _ _ h hw (lv_sub hl [0, 1, 2, 4] rfl)
        · have h := br_no h k_18
          refine lv_iconst (v := 1) hx hb dX5_property_64 (by decide) ?_
          refine lv_goto (tgt := 69) hx hb dX5_property_65 (by decide) ?_
          exact w_X5_property_b69 X ih x4 1 x3 _ _ _ h hw (lv_sub hl [0, 1, 2, 4] rfl)
      · have h := br_yes h k_15
        refine lv_aload_n hx hb dX5_property_35 rfl (lv_at hl 0 rfl) ?_
        refine x_get (v := .ref (o 5)) 0 0 X hw in_X5_property_5 rfl rfl rfl 5 (by decide) (List.mem_of_getElem? (i := 2) rfl) rfl rfl dX5_property_36 ?_
        refine lv_iload hx hb dX5_property_39 (lv_at hl 4 rfl) ?_
        obtain ⟨k_19, h⟩ := ck_ok h
        refine x_iald (f := (M_fd v)) 0 5 X hw rfl rfl k_19 dX5_property_41 ?_
        refine lv_iload_n hx hb dX5_property_42 rfl (lv_at hl 1 rfl) ?_
        refine lv_icmp_ne (tgt := 50) hx hb dX5_property_43 (by decide) (fun k_20 => ?_) (fun k_20 => ?_)
        · have h := br_no h k_20
          refine lv_iconst (v := 0) hx hb dX5_property_50 (by decide) ?_
          refine lv_goto (tgt := 69) hx hb dX5_property_51 (by decide) ?_
          exact w_X5_property_b69 X ih x4 0 x3 _ _ _ h hw (lv_sub hl [0, 1, 2, 4] rfl)
        · have h := br_yes h k_20
          refine lv_iconst (v := 1) hx hb dX5_property_46 (by decide) ?_
          refine lv_goto (tgt := 69) hx hb dX5_property_47 (by decide) ?_
          exact w_X5_property_b69 X ih x4 1 x3 _ _ _ h hw (lv_sub hl [0, 1, 2, 4] rfl)
noncomputable def f_X5_property  (v : MV) (x1 : Int32) (x2 : Int32) : Option (Int32) :=
  br (4 ≤ x2)
    (f_X5_property_b17 v x1 x2 FU 0 0)
    (bd (f_X5_of v x1 x2) fun r_2 =>
     some (r_2))
set_option maxHeartbeats 4000000 in
set_option maxRecDepth 100000 in
theorem m_X5_property {G : GG} {l : Launch} {o : Nat → Nat} {v : MV} {x1 : Int32} {x2 : Int32} {r : Int32}  (h : f_X5_property v x1 x2 = some (r)) : Ci G l yX5_property wsX5_property rX5_property [.ref (o 0), .int x1, .int x2] (fl [mB G o v]) r (fl [mB G o v]) := by
  refine Ci.intro cX5_property 5 (some .int) RX5 (by decide) rfl rfl (Nat.le_of_ble_eq_true rfl) ?_
  intro p e s m below meth c A ls X hw hl
  obtain ⟨⟨hx, hb, hml, hown, hts⟩, hK, hr, hlk, hA⟩ := id X
  unfold f_X5_property at h
  have hl : lv_has ls 5 [(0, .ref (o 0)), (1, .int x1), (2, .int x2)] := hl
  refine lv_iload_n hx hb dX5_property_0 rfl (lv_at hl 2 rfl) ?_
  refine lv_iconst (v := 4) hx hb dX5_property_1 (by decide) ?_
  refine lv_icmp_ge (tgt := 12) hx hb dX5_property_2 (by decide) (fun k_1 => ?_) (fun k_1 => ?_)
  · have h := br_yes h k_1
    refine lv_iconst (v := 0) hx hb dX5_property_12 (by decide) ?_
    refine lv_istore_n (lv' := [(3, .int 0), (0, .ref (o 0)), (1, .int x1), (2, .int x2)]) hx hb dX5_property_13 rfl hl (by decide) rfl (fun ls hl => ?_)
    refine lv_iconst (v := 0) hx hb dX5_property_14 (by decide) ?_
    refine lv_istore (lv' := [(4, .int 0), (3, .int 0), (0, .ref (o 0)), (1, .int x1), (2, .int x2)]) hx hb dX5_property_15 hl (by decide) rfl (fun ls hl => ?_)
    exact w_X5_property_b17 X FU 0 0 _ _ _ h hw (lv_sub hl [2, 3, 4, 1, 0] rfl)
  · have h := br_no h k_1
    refine lv_aload_n hx hb dX5_property_5 rfl (lv_at hl 0 rfl) ?_
    refine lv_iload_n hx hb dX5_property_6 rfl (lv_at hl 1 rfl) ?_
    refine lv_iload_n hx hb dX5_property_7 rfl (lv_at hl 2 rfl) ?_
    obtain ⟨r_2, c_3, h⟩ := bd_ok h
    refine x_Vi (As := [.int x1, .int x2]) (w' := fl [mB G o v]) X hw (m_X5_of (G := G) (l := l) (o := o) c_3) Cut.all 0 0 rfl rfl rfl (cwV 2 hts gX5_property_X5_of rfl rfl rfl hd_X5_of ⟨Nat.le_of_ble_eq_true rfl, Nat.le_of_ble_eq_true rfl⟩) rfl hl.1 rfl (Nat.le_of_ble_eq_true rfl) dX5_property_8 ⟨Nat.le_of_ble_eq_true rfl, Nat.le_of_ble_eq_true rfl⟩ (fun H locs hw => ?_)
    cases h
    exact x_iret X (vp_nar_int _) hw rfl rfl dX5_property_11

def rX5_section : Room := { frames := 3, cells := 0, slots := 0, locals := 69 }
theorem hd_X5_section : yX5_section.cls = RX5 ∧ yX5_section.cls ≠ "java/lang/invoke/MethodHandle" ∧ yX5_section.cls ≠ "java/lang/invoke/VarHandle" ∧ (parseMethodDescriptor yX5_section.desc).map (fun d => d.parameters.length) = some 2 := by decide +kernel
noncomputable def f_X5_section  (v : MV) (x1 : Int32) (x2 : Int32) : Option (Int32 × MV) :=
  bd (f_X5_isSection v x1) fun r_1 =>
  br (r_1 = 0)
    (some ((-2), v))
    (bd (f_X5_in x2 0 10) fun r_4 =>
     br (r_4 = 0)
       (some ((-3), v))
       (bd (f_X5_freezes v) fun v_7 =>
        bd (f_X5_property v_7 x1 x2) fun r_9 =>
        some (r_9, v_7)))
set_option maxHeartbeats 4000000 in
set_option maxRecDepth 100000 in
theorem m_X5_section {G : GG} {l : Launch} {o : Nat → Nat} {v : MV} {x1 : Int32} {x2 : Int32} {r : Int32} {zv : MV} (h : f_X5_section v x1 x2 = some (r, zv)) : Ci G l yX5_section wsX5_section rX5_section [.ref (o 0), .int x1, .int x2] (fl [mB G o v]) r (fl [mB G o zv]) := by
  refine Ci.intro cX5_section 3 (some .int) RX5 (by decide) rfl rfl (Nat.le_of_ble_eq_true rfl) ?_
  intro p e s m below meth c A ls X hw hl
  obtain ⟨⟨hx, hb, hml, hown, hts⟩, hK, hr, hlk, hA⟩ := id X
  unfold f_X5_section at h
  have hl : lv_has ls 3 [(0, .ref (o 0)), (1, .int x1), (2, .int x2)] := hl
  refine lv_aload_n hx hb dX5_section_0 rfl (lv_at hl 0 rfl) ?_
  refine lv_iload_n hx hb dX5_section_1 rfl (lv_at hl 1 rfl) ?_
  obtain ⟨r_1, c_2, h⟩ := bd_ok h
  refine x_Vi (As := [.int x1]) (w' := fl [mB G o v]) X hw (m_X5_isSection (G := G) (l := l) (o := o) c_2) Cut.all 0 0 rfl rfl rfl (cwV 1 hts gX5_section_X5_isSection rfl rfl rfl hd_X5_isSection ⟨Nat.le_of_ble_eq_true rfl, Nat.le_of_ble_eq_true rfl⟩) rfl hl.1 rfl (Nat.le_of_ble_eq_true rfl) dX5_section_2 ⟨Nat.le_of_ble_eq_true rfl, Nat.le_of_ble_eq_true rfl⟩ (fun H locs hw => ?_)
  refine lv_if_ne (tgt := 11) hx hb dX5_section_5 (by decide) (fun k_3 => ?_) (fun k_3 => ?_)
  · have h := br_no h k_3
    refine lv_iload_n hx hb dX5_section_11 rfl (lv_at hl 2 rfl) ?_
    refine lv_iconst (v := 0) hx hb dX5_section_12 (by decide) ?_
    refine lv_bipush (v := 10) hx hb dX5_section_13 (by decide) ?_
    obtain ⟨r_4, c_5, h⟩ := bd_ok h
    refine x_Si (As := [.int x2, .int 0, .int 10]) (w' := fl [mB G o v]) X hw (m_X5_in (G := G) (l := l) c_5) Cut.nil (va_cwS 3 hts gX5_section_X5_in rfl rfl rfl hd_X5_in.2 ⟨Nat.le_of_ble_eq_true rfl, Nat.le_of_ble_eq_true rfl⟩) rfl hl.1 rfl (Nat.le_of_ble_eq_true rfl) dX5_section_15 ⟨Nat.le_of_ble_eq_true rfl, Nat.le_of_ble_eq_true rfl⟩ (fun H locs hw => ?_)
    refine lv_if_ne (tgt := 24) hx hb dX5_section_18 (by decide) (fun k_6 => ?_) (fun k_6 => ?_)
    · have h := br_no h k_6
      refine lv_aload_n hx hb dX5_section_24 rfl (lv_at hl 0 rfl) ?_
      obtain ⟨v_7, c_8, h⟩ := bd_ok h
      refine x_Vv (As := []) (w' := fl [mB G o v_7]) X hw (m_X5_freezes (G := G) (l := l) (o := o) c_8) Cut.all 0 0 rfl rfl rfl (cwV 0 hts gX5_section_X5_freezes rfl rfl rfl hd_X5_freezes ⟨Nat.le_of_ble_eq_true rfl, Nat.le_of_ble_eq_true rfl⟩) rfl hl.1 rfl (Nat.le_of_ble_eq_true rfl) dX5_section_25 ⟨Nat.le_of_ble_eq_true rfl, Nat.le_of_ble_eq_true rfl⟩ (fun H locs hw => ?_)
      refine lv_aload_n hx hb dX5_section_28 rfl (lv_at hl 0 rfl) ?_
      refine lv_iload_n hx hb dX5_section_29 rfl (lv_at hl 1 rfl) ?_
      refine lv_iload_n hx hb dX5_section_30 rfl (lv_at hl 2 rfl) ?_
      obtain ⟨r_9, c_10, h⟩ := bd_ok h
      refine x_Vi (As := [.int x1, .int x2]) (w' := fl [mB G o v_7]) X hw (m_X5_property (G := G) (l := l) (o := o) c_10) Cut.all 0 0 rfl rfl rfl (cwV 2 hts gX5_section_X5_property rfl rfl rfl hd_X5_property ⟨Nat.le_of_ble_eq_true rfl, Nat.le_of_ble_eq_true rfl⟩) rfl hl.1 rfl (Nat.le_of_ble_eq_true rfl) dX5_section_31 ⟨Nat.le_of_ble_eq_true rfl, Nat.le_of_ble_eq_true rfl⟩ (fun H locs hw => ?_)
      cases h
      exact x_iret X (vp_nar_int _) hw rfl rfl dX5_section_34
    · have h := br_yes h k_6
      refine lv_bipush (v := (-3)) hx hb dX5_section_21 (by decide) ?_
      cases h
      exact x_iret X (vp_nar_int _) hw rfl rfl dX5_section_23
  · have h := br_yes h k_3
    refine lv_bipush (v := (-2)) hx hb dX5_section_8 (by decide) ?_
    cases h
    exact x_iret X (vp_nar_int _) hw rfl rfl dX5_section_10

def rX5_modulus : Room := { frames := 2, cells := 0, slots := 0, locals := 43 }
theorem hd_X5_modulus : yX5_modulus.cls = RX5 ∧ yX5_modulus.cls ≠ "java/lang/invoke/MethodHandle" ∧ yX5_modulus.cls ≠ "java/lang/invoke/VarHandle" ∧ (parseMethodDescriptor yX5_modulus.desc).map (fun d => d.parameters.length) = some 2 := by decide +kernel
noncomputable def f_X5_modulus_b40  (v : MV) (x2 : Int32) (x3 : Int32) (x4 : Int32) : Nat → Int32 → Int32 → Option (Int32)
  | 0 => fun _ _ => none
  | n + 1 => fun x5 x6 =>
    br (x6 ≤ 0)
      (br (x2 = 0)
         (ck (¬ (x5 : Int32) = 0) <|
          some ((x3 / x5)))
         (ck (¬ (x5 : Int32) = 0) <|
          some ((x4 / x5))))
      (ck (¬ (x6 : Int32) = 0) <|
       nm ((x5 - x5 / x6 * x6) : Int32) fun t_6 =>
       f_X5_modulus_b40 v x2 x3 x4 n x6 t_6)
set_option maxHeartbeats 4000000 in
set_option maxRecDepth 100000 in
theorem w_X5_modulus_b40 {G : GG} {l : Launch} {p : Program} {e : Env} {s : State} {m : MethodId} {args : Array Value} {below : List Frame} {meth : Method} {c : Code} {A : Nat → Prop} {o : Nat → Nat} {v : MV} {x2 : Int32} {x3 : Int32} {x4 : Int32} {r : Int32}    (X : Cx p s m args meth c cX5_modulus 8 (some .int) wsX5_modulus RX5 G A)  :
    ∀ (n : Nat) (x5 : Int32) (x6 : Int32) (H : Heap) (locs : List Loc) (ls : Array Slot), f_X5_modulus_b40 v x2 x3 x4 n x5 x6 = some (r) → Wd G A s H locs (fl [mB G o v]) → lv_has ls 8 [(2, .int x2), (3, .int x3), (4, .int x4), (5, .int x5), (6, .int x6)] → W p l e rX5_modulus s m args below meth c H locs 0 0 (MQ below (Qi G A r (fl [mB G o v])) args s 0 0 A) (F0 m 40 ls []) := by
  obtain ⟨⟨hx, hb, hml, hown, hts⟩, hK, hr, hlk, hA⟩ := id X
  intro n
  induction n with
  | zero =>
    intro x5 x6 H locs ls h
    rw [f_X5_modulus_b40] at h
    cases h
  | succ n ih =>
    intro x5 x6 H locs ls h hw hl
    rw [f_X5_modulus_b40] at h
    refine lv_iload hx hb dX5_modulus_40 (lv_at hl 4 rfl) ?_
    refine lv_if_le (tgt := 63) hx hb dX5_modulus_42 (by decide) (fun k_1 => ?_) (fun k_1 => ?_)
    · have h := br_yes h k_1
      refine lv_iload_n hx hb dX5_modulus_63 rfl (lv_at hl 0 rfl) ?_
      refine lv_if_eq (tgt := 75) hx hb dX5_modulus_64 (by decide) (fun k_2 => ?_) (fun k_2 => ?_)
      · have h := br_yes h k_2
        refine lv_iload_n hx hb dX5_modulus_75 rfl (lv_at hl 1 rfl) ?_
        refine lv_iload hx hb dX5_modulus_76 (lv_at hl 3 rfl) ?_
        obtain ⟨k_3, h⟩ := ck_ok h
        refine lv_idiv hx hb dX5_modulus_78 k_3 ?_
        cases h
        exact x_iret X (vp_nar_int _) hw rfl rfl dX5_modulus_79
      · have h := br_no h k_2
        refine lv_iload hx hb dX5_modulus_67 (lv_at hl 2 rfl) ?_
        refine lv_iload hx hb dX5_modulus_69 (lv_at hl 3 rfl) ?_
        obtain ⟨k_4, h⟩ := ck_ok h
        refine lv_idiv hx hb dX5_modulus_71 k_4 ?_
        refine lv_goto (tgt := 79) hx hb dX5_modulus_72 (by decide) ?_
        cases h
        exact x_iret X (vp_nar_int _) hw rfl rfl dX5_modulus_79
    · have h := br_no h k_1
      refine lv_iload hx hb dX5_modulus_45 (lv_at hl 3 rfl) ?_
      refine lv_iload hx hb dX5_modulus_47 (lv_at hl 4 rfl) ?_
      obtain ⟨k_5, h⟩ := ck_ok h
      refine lv_irem hx hb dX5_modulus_49 k_5 ?_
      obtain ⟨t_6, et_6, h⟩ := nm_ok h
      refine lv_istore (lv' := [(7, .int t_6), (2, .int x2), (3, .int x3), (4, .int x4), (5, .int x5), (6, .int x6)]) hx hb dX5_modulus_50 hl (by decide) (by rw [et_6]; rfl) (fun ls hl => ?_)
      refine lv_iload hx hb dX5_modulus_52 (lv_at hl 5 rfl) ?_
      refine lv_istore (lv' := [(5, .int x6), (7, .int t_6), (2, .int x2), (3, .int x3), (4, .int x4), (6, .int x6)]) hx hb dX5_modulus_54 hl (by decide) rfl (fun ls hl => ?_)
      refine lv_iload hx hb dX5_modulus_56 (lv_at hl 1 rfl) ?_
      refine lv_istore (lv' := [(6, .int t_6), (5, .int x6), (7, .int t_6), (2, .int x2), (3, .int x3), (4, .int x4)]) hx hb dX5_modulus_58 hl (by decide) rfl (fun ls hl => ?_)
      refine lv_goto (tgt := 40) hx hb dX5_modulus_60 (by decide) ?_
      exact ih x6 t_6 _ _ _ h hw (lv_sub hl [3, 4, 5, 1, 0] rfl)
noncomputable def f_X5_modulus  (v : MV) (x1 : Int32) (x2 : Int32) : Option (Int32) :=
  bd (f_X5_isSection v x1) fun r_1 =>
  br (r_1 = 0)
    (some ((-2)))
    (bd (f_X5_of v x1 0) fun r_4 =>
     bd (f_X5_of v x1 1) fun r_6 =>
     bd (f_X5_of v x1 2) fun r_8 =>
     nm ((r_6 + r_8) : Int32) fun t_10 =>
     f_X5_modulus_b40 v x2 r_4 t_10 FU r_4 t_10)
set_option maxHeartbeats 4000000 in
set_option maxRecDepth 100000 in
theorem m_X5_modulus {G : GG} {l : Launch} {o : Nat → Nat} {v : MV} {x1 : Int32} {x2 : Int32} {r : Int32}  (h : f_X5_modulus v x1 x2 = some (r)) : Ci G l yX5_modulus wsX5_modulus rX5_modulus [.ref (o 0), .int x1, .int x2] (fl [mB G o v]) r (fl [mB G o v]) := by
  refine Ci.intro cX5_modulus 8 (some .int) RX5 (by decide) rfl rfl (Nat.le_of_ble_eq_true rfl) ?_
  intro p e s m below meth c A ls X hw hl
  obtain ⟨⟨hx, hb, hml, hown, hts⟩, hK, hr, hlk, hA⟩ := id X
  unfold f_X5_modulus at h
  have hl : lv_has ls 8 [(0, .ref (o 0)), (1, .int x1), (2, .int x2)] := hl
  refine lv_aload_n hx hb dX5_modulus_0 rfl (lv_at hl 0 rfl) ?_
  refine lv_iload_n hx hb dX5_modulus_1 rfl (lv_at hl 1 rfl) ?_
  obtain ⟨r_1, c_2, h⟩ := bd_ok h
  refine x_Vi (As := [.int x1]) (w' := fl [mB G o v]) X hw (m_X5_isSection (G := G) (l := l) (o := o) c_2) Cut.all 0 0 rfl rfl rfl (cwV 1 hts gX5_modulus_X5_isSection rfl rfl rfl hd_X5_isSection ⟨Nat.le_of_ble_eq_true rfl, Nat.le_of_ble_eq_true rfl⟩) rfl hl.1 rfl (Nat.le_of_ble_eq_true rfl) dX5_modulus_2 ⟨Nat.le_of_ble_eq_true rfl, Nat.le_of_ble_eq_true rfl⟩ (fun H locs hw => ?_)
  refine lv_if_ne (tgt := 11) hx hb dX5_modulus_5 (by decide) (fun k_3 => ?_) (fun k_3 => ?_)
  · have h := br_no h k_3
    refine lv_aload_n hx hb dX5_modulus_11 rfl (lv_at hl 0 rfl) ?_
    refine lv_iload_n hx hb dX5_modulus_12 rfl (lv_at hl 1 rfl) ?_
    refine lv_iconst (v := 0) hx hb dX5_modulus_13 (by decide) ?_
    obtain ⟨r_4, c_5, h⟩ := bd_ok h
    refine x_Vi (As := [.int x1, .int 0]) (w' := fl [mB G o v]) X hw (m_X5_of (G := G) (l := l) (o := o) c_5) Cut.all 0 0 rfl rfl rfl (cwV 2 hts gX5_modulus_X5_of rfl rfl rfl hd_X5_of ⟨Nat.le_of_ble_eq_true rfl, Nat.le_of_ble_eq_true rfl⟩) rfl hl.1 rfl (Nat.le_of_ble_eq_true rfl) dX5_modulus_14 ⟨Nat.le_of_ble_eq_true rfl, Nat.le_of_ble_eq_true rfl⟩ (fun H locs hw => ?_)
    refine lv_istore_n (lv' := [(3, .int r_4), (0, .ref (o 0)), (1, .int x1), (2, .int x2)]) hx hb dX5_modulus_17 rfl hl (by decide) rfl (fun ls hl => ?_)
    refine lv_aload_n hx hb dX5_modulus_18 rfl (lv_at hl 1 rfl) ?_
    refine lv_iload_n hx hb dX5_modulus_19 rfl (lv_at hl 2 rfl) ?_
    refine lv_iconst (v := 1) hx hb dX5_modulus_20 (by decide) ?_
    obtain ⟨r_6, c_7, h⟩ := bd_ok h
    refine x_Vi (As := [.int x1, .int 1]) (w' := fl [mB G o v]) X hw (m_X5_of (G := G) (l := l) (o := o) c_7) Cut.all 0 0 rfl rfl rfl (cwV 2 hts gX5_modulus_X5_of rfl rfl rfl hd_X5_of ⟨Nat.le_of_ble_eq_true rfl, Nat.le_of_ble_eq_true rfl⟩) rfl hl.1 rfl (Nat.le_of_ble_eq_true rfl) dX5_modulus_21 ⟨Nat.le_of_ble_eq_true rfl, Nat.le_of_ble_eq_true rfl⟩ (fun H locs hw => ?_)
    refine lv_aload_n hx hb dX5_modulus_24 rfl (lv_at hl 1 rfl) ?_
    refine lv_iload_n hx hb dX5_modulus_25 rfl (lv_at hl 2 rfl) ?_
    refine lv_iconst (v := 2) hx hb dX5_modulus_26 (by decide) ?_
    obtain ⟨r_8, c_9, h⟩ := bd_ok h
    refine x_Vi (As := [.int x1, .int 2]) (w' := fl [mB G o v]) X hw (m_X5_of (G := G) (l := l) (o := o) c_9) Cut.all 0 0 rfl rfl rfl (cwV 2 hts gX5_modulus_X5_of rfl rfl rfl hd_X5_of ⟨Nat.le_of_ble_eq_true rfl, Nat.le_of_ble_eq_true rfl⟩) rfl hl.1 rfl (Nat.le_of_ble_eq_true rfl) dX5_modulus_27 ⟨Nat.le_of_ble_eq_true rfl, Nat.le_of_ble_eq_true rfl⟩ (fun H locs hw => ?_)
    refine lv_iadd hx hb dX5_modulus_30 ?_
    obtain ⟨t_10, et_10, h⟩ := nm_ok h
    refine lv_istore (lv' := [(4, .int t_10), (3, .int r_4), (0, .ref (o 0)), (1, .int x1), (2, .int x2)]) hx hb dX5_modulus_31 hl (by decide) (by rw [et_10]; rfl) (fun ls hl => ?_)
    refine lv_iload_n hx hb dX5_modulus_33 rfl (lv_at hl 1 rfl) ?_
    refine lv_istore (lv' := [(5, .int r_4), (4, .int t_10), (3, .int r_4), (0, .ref (o 0)), (1, .int x1), (2, .int x2)]) hx hb dX5_modulus_34 hl (by decide) rfl (fun ls hl => ?_)
    refine lv_iload hx hb dX5_modulus_36 (lv_at hl 1 rfl) ?_
    refine lv_istore (lv' := [(6, .int t_10), (5, .int r_4), (4, .int t_10), (3, .int r_4), (0, .ref (o 0)), (1, .int x1), (2, .int x2)]) hx hb dX5_modulus_38 hl (by decide) rfl (fun ls hl => ?_)
    exact w_X5_modulus_b40 X FU r_4 t_10 _ _ _ h hw (lv_sub hl [6, 3, 2, 1, 0] rfl)
  · have h := br_yes h k_3
    refine lv_bipush (v := (-2)) hx hb dX5_modulus_8 (by decide) ?_
    cases h
    exact x_iret X (vp_nar_int _) hw rfl rfl dX5_modulus_10

def rX5_joint : Room := { frames := 2, cells := 0, slots := 0, locals := 43 }
theorem hd_X5_joint : yX5_joint.cls = RX5 ∧ yX5_joint.cls ≠ "java/lang/invoke/MethodHandle" ∧ yX5_joint.cls ≠ "java/lang/invoke/VarHandle" ∧ (parseMethodDescriptor yX5_joint.desc).map (fun d => d.parameters.length) = some 2 := by decide +kernel
theorem in_X5_joint_5 : ∀ w ∈ u_ws RX5 TX5 12, w ∈ wsX5_joint := fun w h => (List.mem_cons_of_mem _ (List.mem_append_right _ h))
noncomputable def f_X5_joint  (v : MV) (x1 : Int32) (x2 : Int32) : Option (Int32) :=
  bd (f_X5_isJoint v x1) fun r_1 =>
  br (r_1 = 0)
    (some ((-2)))
    (bd (f_X5_in x2 0 1) fun r_4 =>
     br (r_4 = 0)
       (some ((-3)))
       (nm (((52 + (2 * x1)) + x2) : Int32) fun t_7 =>
        ck (vp_in t_7 644) <|
        some (((M_ro v) t_7.toNatClampNeg))))
set_option maxHeartbeats 4000000 in
set_option maxRecDepth 100000 in
theorem m_X5_joint {G : GG} {l : Launch} {o : Nat → Nat} {v : MV} {x1 : Int32} {x2 : Int32} {r : Int32}  (h : f_X5_joint v x1 x2 = some (r)) : Ci G l yX5_joint wsX5_joint rX5_joint [.ref (o 0), .int x1, .int x2] (fl [mB G o v]) r (fl [mB G o v]) := by
  refine Ci.intro cX5_joint 3 (some .int) RX5 (by decide) rfl rfl (Nat.le_of_ble_eq_true rfl) ?_
  intro p e s m below meth c A ls X hw hl
  obtain ⟨⟨hx, hb, hml, hown, hts⟩, hK, hr, hlk, hA⟩ := id X
  unfold f_X5_joint at h
  have hl : lv_has ls 3 [(0, .ref (o 0)), (1, .int x1), (2, .int x2)] := hl
  refine lv_aload_n hx hb dX5_joint_0 rfl (lv_at hl 0 rfl) ?_
  refine lv_iload_n hx hb dX5_joint_1 rfl (lv_at hl 1 rfl) ?_
  obtain ⟨r_1, c_2, h⟩ := bd_ok h
  refine x_Vi (As := [.int x1]) (w' := fl [mB G o v]) X hw (m_X5_isJoint (G := G) (l := l) (o := o) c_2) Cut.all 0 0 rfl rfl rfl (cwV 1 hts gX5_joint_X5_isJoint rfl rfl rfl hd_X5_isJoint ⟨Nat.le_of_ble_eq_true rfl, Nat.le_of_ble_eq_true rfl⟩) rfl hl.1 rfl (Nat.le_of_ble_eq_true rfl) dX5_joint_2 ⟨Nat.le_of_ble_eq_true rfl, Nat.le_of_ble_eq_true rfl⟩ (fun H locs hw => ?_)
  refine lv_if_ne (tgt := 11) hx hb dX5_joint_5 (by decide) (fun k_3 => ?_) (fun k_3 => ?_)
  · have h := br_no h k_3
    refine lv_iload_n hx hb dX5_joint_11 rfl (lv_at hl 2 rfl) ?_
    refine lv_iconst (v := 0) hx hb dX5_joint_12 (by decide) ?_
    refine lv_iconst (v := 1) hx hb dX5_joint_13 (by decide) ?_
    obtain ⟨r_4, c_5, h⟩ := bd_ok h
    refine x_Si (As := [.int x2, .int 0, .int 1]) (w' := fl [mB G o v]) X hw (m_X5_in (G := G) (l := l) c_5) Cut.nil (va_cwS 3 hts gX5_joint_X5_in rfl rfl rfl hd_X5_in.2 ⟨Nat.le_of_ble_eq_true rfl, Nat.le_of_ble_eq_true rfl⟩) rfl hl.1 rfl (Nat.le_of_ble_eq_true rfl) dX5_joint_14 ⟨Nat.le_of_ble_eq_true rfl, Nat.le_of_ble_eq_true rfl⟩ (fun H locs hw => ?_)
    refine lv_if_eq (tgt := 36) hx hb dX5_joint_17 (by decide) (fun k_6 => ?_) (fun k_6 => ?_)
    · have h := br_yes h k_6
      refine lv_bipush (v := (-3)) hx hb dX5_joint_36 (by decide) ?_
      cases h
      exact x_iret X (vp_nar_int _) hw rfl rfl dX5_joint_38
    · have h := br_no h k_6
      refine lv_aload_n hx hb dX5_joint_20 rfl (lv_at hl 0 rfl) ?_
      refine x_get (v := .ref (o 1)) 0 0 X hw in_X5_joint_5 rfl rfl rfl 0 (by decide) (List.mem_of_getElem? (i := 1) rfl) rfl rfl dX5_joint_21 ?_
      refine lv_bipush (v := 52) hx hb dX5_joint_24 (by decide) ?_
      refine lv_iconst (v := 2) hx hb dX5_joint_26 (by decide) ?_
      refine lv_iload_n hx hb dX5_joint_27 rfl (lv_at hl 1 rfl) ?_
      refine lv_imul hx hb dX5_joint_28 ?_
      refine lv_iadd hx hb dX5_joint_29 ?_
      refine lv_iload_n hx hb dX5_joint_30 rfl (lv_at hl 2 rfl) ?_
      refine lv_iadd hx hb dX5_joint_31 ?_
      obtain ⟨t_7, et_7, h⟩ := nm_ok h
      rw [← et_7]
      obtain ⟨k_8, h⟩ := ck_ok h
      refine x_iald (f := (M_ro v)) 0 1 X hw rfl rfl k_8 dX5_joint_32 ?_
      refine lv_goto (tgt := 38) hx hb dX5_joint_33 (by decide) ?_
      cases h
      exact x_iret X (vp_nar_int _) hw rfl rfl dX5_joint_38
  · have h := br_yes h k_3
    refine lv_bipush (v := (-2)) hx hb dX5_joint_8 (by decide) ?_
    cases h
    exact x_iret X (vp_nar_int _) hw rfl rfl dX5_joint_10

def rX5_atStep : Room := { frames := 3, cells := 0, slots := 0, locals := 69 }
theorem hd_X5_atStep : yX5_atStep.cls = RX5 ∧ yX5_atStep.cls ≠ "java/lang/invoke/MethodHandle" ∧ yX5_atStep.cls ≠ "java/lang/invoke/VarHandle" ∧ (parseMethodDescriptor yX5_atStep.desc).map (fun d => d.parameters.length) = some 1 := by decide +kernel
theorem in_X5_atStep_5 : ∀ w ∈ u_ws RX5 TX5 12, w ∈ wsX5_atStep := fun w h => (List.mem_cons_of_mem _ (List.mem_append_right _ h))
noncomputable def f_X5_atStep  (v : MV) (x1 : Int32) : Option (Int32 × MV) :=
  br (0 ≤ x1)
    (bd (f_X5_freezes v) fun v_2 =>
     ck (vp_in 0 644) <|
     br (((M_ro v_2) (0 : Int32).toNatClampNeg) ≤ x1)
       (some ((-1), v_2))
       (ck (vp_in x1 12) <|
        some (((M_od v_2) x1.toNatClampNeg), v_2)))
    (some ((-3), v))
set_option maxHeartbeats 4000000 in
set_option maxRecDepth 100000 in
theorem m_X5_atStep {G : GG} {l : Launch} {o : Nat → Nat} {v : MV} {x1 : Int32} {r : Int32} {zv : MV} (h : f_X5_atStep v x1 = some (r, zv)) : Ci G l yX5_atStep wsX5_atStep rX5_atStep [.ref (o 0), .int x1] (fl [mB G o v]) r (fl [mB G o zv]) := by
  refine Ci.intro cX5_atStep 2 (some .int) RX5 (by decide) rfl rfl (Nat.le_of_ble_eq_true rfl) ?_
  intro p e s m below meth c A ls X hw hl
  obtain ⟨⟨hx, hb, hml, hown, hts⟩, hK, hr, hlk, hA⟩ := id X
  unfold f_X5_atStep at h
  have hl : lv_has ls 2 [(0, .ref (o 0)), (1, .int x1)] := hl
  refine lv_iload_n hx hb dX5_atStep_0 rfl (lv_at hl 1 rfl) ?_
  refine lv_if_ge (tgt := 7) hx hb dX5_atStep_1 (by decide) (fun k_1 => ?_) (fun k_1 => ?_)
  · have h := br_yes h k_1
    refine lv_aload_n hx hb dX5_atStep_7 rfl (lv_at hl 0 rfl) ?_
    obtain ⟨v_2, c_3, h⟩ := bd_ok h
    refine x_Vv (As := []) (w' := fl [mB G o v_2]) X hw (m_X5_freezes (G := G) (l := l) (o := o) c_3) Cut.all 0 0 rfl rfl rfl (cwV 0 hts gX5_atStep_X5_freezes rfl rfl rfl hd_X5_freezes ⟨Nat.le_of_ble_eq_true rfl, Nat.le_of_ble_eq_true rfl⟩) rfl hl.1 rfl (Nat.le_of_ble_eq_true rfl) dX5_atStep_8 ⟨Nat.le_of_ble_eq_true rfl, Nat.le_of_ble_eq_true rfl⟩ (fun H locs hw => ?_)
    refine lv_iload_n hx hb dX5_atStep_11 rfl (lv_at hl 1 rfl) ?_
    refine lv_aload_n hx hb dX5_atStep_12 rfl (lv_at hl 0 rfl) ?_
    refine x_get (v := .ref (o 1)) 0 0 X hw in_X5_atStep_5 rfl rfl rfl 0 (by decide) (List.mem_of_getElem? (i := 1) rfl) rfl rfl dX5_atStep_13 ?_
    refine lv_iconst (v := 0) hx hb dX5_atStep_16 (by decide) ?_
    obtain ⟨k_4, h⟩ := ck_ok h
    refine x_iald (f := (M_ro v_2)) 0 1 X hw rfl rfl k_4 dX5_atStep_17 ?_
    refine lv_icmp_ge (tgt := 30) hx hb dX5_atStep_18 (by decide) (fun k_5 => ?_) (fun k_5 => ?_)
    · have h := br_yes h k_5
      refine lv_iconst (v := (-1)) hx hb dX5_atStep_30 (by decide) ?_
      cases h
      exact x_iret X (vp_nar_int _) hw rfl rfl dX5_atStep_31
    · have h := br_no h k_5
      refine lv_aload_n hx hb dX5_atStep_21 rfl (lv_at hl 0 rfl) ?_
      refine x_get (v := .ref (o 2)) 0 0 X hw in_X5_atStep_5 rfl rfl rfl 2 (by decide) (List.mem_of_getElem? (i := 2) rfl) rfl rfl dX5_atStep_22 ?_
      refine lv_iload_n hx hb dX5_atStep_25 rfl (lv_at hl 1 rfl) ?_
      obtain ⟨k_6, h⟩ := ck_ok h
      refine x_iald (f := (M_od v_2)) 0 2 X hw rfl rfl k_6 dX5_atStep_26 ?_
      refine lv_goto (tgt := 31) hx hb dX5_atStep_27 (by decide) ?_
      cases h
      exact x_iret X (vp_nar_int _) hw rfl rfl dX5_atStep_31
  · have h := br_no h k_1
    refine lv_bipush (v := (-3)) hx hb dX5_atStep_4 (by decide) ?_
    cases h
    exact x_iret X (vp_nar_int _) hw rfl rfl dX5_atStep_6

def rX5_way : Room := { frames := 3, cells := 0, slots := 0, locals := 69 }
theorem hd_X5_way : yX5_way.cls = RX5 ∧ yX5_way.cls ≠ "java/lang/invoke/MethodHandle" ∧ yX5_way.cls ≠ "java/lang/invoke/VarHandle" ∧ (parseMethodDescriptor yX5_way.desc).map (fun d => d.parameters.length) = some 2 := by decide +kernel
theorem in_X5_way_5 : ∀ w ∈ u_ws RX5 TX5 12, w ∈ wsX5_way := fun w h => (List.mem_cons_of_mem _ (List.mem_append_right _ h))
noncomputable def f_X5_way_b27  (x2 : Int32) : Nat → MV → Int32 → Int32 → Option (Int32 × MV)
  | 0 => fun _ _ _ => none
  | n + 1 => fun v x3 x4 =>
    br (x2 ≤ x4)
      (some (x3, v))
      (br (x3 = (-1))
         (some (x3, v))
         (ck (vp_in x3 12) <|
          nm (((M_fd v) x3.toNatClampNeg) : Int32) fun t_4 =>
          nm (x4 + 1 : Int32) fun t_5 =>
          f_X5_way_b27 x2 n v t_4 t_5))
set_option maxHeartbeats 4000000 in
set_option maxRecDepth 100000 in
theorem w_X5_way_b27 {G : GG} {l : Launch} {p : Program} {e : Env} {s : State} {m : MethodId} {args : Array Value} {below : List Frame} {meth : Method} {c : Code} {A : Nat → Prop} {o : Nat → Nat} {x2 : Int32} {r : Int32} {zv : MV}   (X : Cx p s m args meth c cX5_way 5 (some .int) wsX5_way RX5 G A)  :
    ∀ (n : Nat) (v : MV) (x3 : Int32) (x4 : Int32) (H : Heap) (locs : List Loc) (ls : Array Slot), f_X5_way_b27 x2 n v x3 x4 = some (r, zv) → Wd G A s H locs (fl [mB G o v]) → lv_has ls 5 [(0, .ref (o 0)), (2, .int x2), (3, .int x3), (4, .int x4)] → W p l e rX5_way s m args below meth c H locs 0 0 (MQ below (Qi G A r (fl [mB G o zv])) args s 0 0 A) (F0 m 27 ls []) := by
  obtain ⟨⟨hx, hb, hml, hown, hts⟩, hK, hr, hlk, hA⟩ := id X
  intro n
  induction n with
  | zero =>
    intro v x3 x4 H locs ls h
    rw [f_X5_way_b27] at h
    cases h
  | succ n ih =>
    intro v x3 x4 H locs ls h hw hl
    rw [f_X5_way_b27] at h
    refine lv_iload hx hb dX5_way_27 (lv_at hl 3 rfl) ?_
    refine lv_iload_n hx hb dX5_way_29 rfl (lv_at hl 1 rfl) ?_
    refine lv_icmp_ge (tgt := 51) hx hb dX5_way_30 (by decide) (fun k_1 => ?_) (fun k_1 => ?_)
    · have h := br_yes h k_1
      refine lv_iload_n hx hb dX5_way_51 rfl (lv_at hl 2 rfl) ?_
      cases h
      exact x_iret X (vp_nar_int _) hw rfl rfl dX5_way_52
    · have h := br_no h k_1
      refine lv_iload_n hx hb dX5_way_33 rfl (lv_at hl 2 rfl) ?_
      refine lv_iconst (v := (-1)) hx hb dX5_way_34 (by decide) ?_
      refine lv_icmp_eq (tgt := 51) hx hb dX5_way_35 (by decide) (fun k_2 => ?_) (fun k_2 => ?_)
      · have h := br_yes h k_2
        refine lv_iload_n hx hb dX5_way_51 rfl (lv_at hl 2 rfl) ?_
        cases h
        exact x_iret X (vp_nar_int _) hw rfl rfl dX5_way_52
      · have h := br_no h k_2
        refine lv_aload_n hx hb dX5_way_38 rfl (lv_at hl 0 rfl) ?_
        refine x_get (v := .ref (o 5)) 0 0 X hw in_X5_way_5 rfl rfl rfl 5 (by decide) (List.mem_of_getElem? (i := 1) rfl) rfl rfl dX5_way_39 ?_
        refine lv_iload_n hx hb dX5_way_42 rfl (lv_at hl 2 rfl) ?_
        obtain ⟨k_3, h⟩ := ck_ok h
        refine x_iald (f := (M_fd v)) 0 5 X hw rfl rfl k_3 dX5_way_43 ?_
        obtain ⟨t_4, et_4, h⟩ := nm_ok h
        refine lv_istore_n (lv' := [(3, .int t_4), (0, .ref (o 0)), (2, .int x2), (4, .int x4)]) hx hb dX5_way_44 rfl hl (by decide) (by rw [et_4]; rfl) (fun ls hl => ?_)
        obtain ⟨t_5, et_5, h⟩ := nm_ok h
        refine lv_iinc (v := t_5) (lv' := [(4, .int t_5), (3, .int t_4), (0, .ref (o 0)), (2, .int x2)]) hx hb dX5_way_45 hl (k := 3) rfl (by rw [et_5]; rfl) (by decide) rfl (fun ls hl => ?_)
        refine lv_goto (tgt := 27) hx hb dX5_way_48 (by decide) ?_
        exact ih v t_4 t_5 _ _ _ h hw (lv_sub hl [2, 3, 1, 0] rfl)
noncomputable def f_X5_way  (v : MV) (x1 : Int32) (x2 : Int32) : Option (Int32 × MV) :=
  bd (f_X5_isSection v x1) fun r_1 =>
  br (r_1 = 0)
    (some ((-2), v))
    (br (0 ≤ x2)
       (bd (f_X5_freezes v) fun v_5 =>
        f_X5_way_b27 x2 FU v_5 x1 0)
       (some ((-3), v)))
set_option maxHeartbeats 4000000 in
set_option maxRecDepth 100000 in
theorem m_X5_way {G : GG} {l : Launch} {o : Nat → Nat} {v : MV} {x1 : Int32} {x2 : Int32} {r : Int32} {zv : MV} (h : f_X5_way v x1 x2 = some (r, zv)) : Ci G l yX5_way wsX5_way rX5_way [.ref (o 0), .int x1, .int x2] (fl [mB G o v]) r (fl [mB G o zv]) := by
  refine Ci.intro cX5_way 5 (some .int) RX5 (by decide) rfl rfl (Nat.le_of_ble_eq_true rfl) ?_
  intro p e s m below meth c A ls X hw hl
  obtain ⟨⟨hx, hb, hml, hown, hts⟩, hK, hr, hlk, hA⟩ := id X
  unfold f_X5_way at h
  have hl : lv_has ls 5 [(0, .ref (o 0)), (1, .int x1), (2, .int x2)] := hl
  refine lv_aload_n hx hb dX5_way_0 rfl (lv_at hl 0 rfl) ?_
  refine lv_iload_n hx hb dX5_way_1 rfl (lv_at hl 1 rfl) ?_
  obtain ⟨r_1, c_2, h⟩ := bd_ok h
  refine x_Vi (As := [.int x1]) (w' := fl [mB G o v]) X hw (m_X5_isSection (G := G) (l := l) (o := o) c_2) Cut.all 0 0 rfl rfl rfl (cwV 1 hts gX5_way_X5_isSection rfl rfl rfl hd_X5_isSection ⟨Nat.le_of_ble_eq_true rfl, Nat.le_of_ble_eq_true rfl⟩) rfl hl.1 rfl (Nat.le_of_ble_eq_true rfl) dX5_way_2 ⟨Nat.le_of_ble_eq_true rfl, Nat.le_of_ble_eq_true rfl⟩ (fun H locs hw => ?_)
  refine lv_if_ne (tgt := 11) hx hb dX5_way_5 (by decide) (fun k_3 => ?_) (fun k_3 => ?_)
  · have h := br_no h k_3
    refine lv_iload_n hx hb dX5_way_11 rfl (lv_at hl 2 rfl) ?_
    refine lv_if_ge (tgt := 18) hx hb dX5_way_12 (by decide) (fun k_4 => ?_) (fun k_4 => ?_)
    · have h := br_yes h k_4
      refine lv_aload_n hx hb dX5_way_18 rfl (lv_at hl 0 rfl) ?_
      obtain ⟨v_5, c_6, h⟩ := bd_ok h
      refine x_Vv (As := []) (w' := fl [mB G o v_5]) X hw (m_X5_freezes (G := G) (l := l) (o := o) c_6) Cut.all 0 0 rfl rfl rfl (cwV 0 hts gX5_way_X5_freezes rfl rfl rfl hd_X5_freezes ⟨Nat.le_of_ble_eq_true rfl, Nat.le_of_ble_eq_true rfl⟩) rfl hl.1 rfl (Nat.le_of_ble_eq_true rfl) dX5_way_19 ⟨Nat.le_of_ble_eq_true rfl, Nat.le_of_ble_eq_true rfl⟩ (fun H locs hw => ?_)
      refine lv_iload_n hx hb dX5_way_22 rfl (lv_at hl 1 rfl) ?_
      refine lv_istore_n (lv' := [(3, .int x1), (0, .ref (o 0)), (1, .int x1), (2, .int x2)]) hx hb dX5_way_23 rfl hl (by decide) rfl (fun ls hl => ?_)
      refine lv_iconst (v := 0) hx hb dX5_way_24 (by decide) ?_
      refine lv_istore (lv' := [(4, .int 0), (3, .int x1), (0, .ref (o 0)), (1, .int x1), (2, .int x2)]) hx hb dX5_way_25 hl (by decide) rfl (fun ls hl => ?_)
      exact w_X5_way_b27 X FU v_5 x1 0 _ _ _ h hw (lv_sub hl [2, 4, 1, 0] rfl)
    · have h := br_no h k_4
      refine lv_bipush (v := (-3)) hx hb dX5_way_15 (by decide) ?_
      cases h
      exact x_iret X (vp_nar_int _) hw rfl rfl dX5_way_17
  · have h := br_yes h k_3
    refine lv_bipush (v := (-2)) hx hb dX5_way_8 (by decide) ?_
    cases h
    exact x_iret X (vp_nar_int _) hw rfl rfl dX5_way_10

def rX5_endOf : Room := { frames := 0, cells := 0, slots := 0, locals := 0 }
theorem hd_X5_endOf : yX5_endOf.cls = RX5 ∧ yX5_endOf.cls ≠ "java/lang/invoke/MethodHandle" ∧ yX5_endOf.cls ≠ "java/lang/invoke/VarHandle" ∧ (parseMethodDescriptor yX5_endOf.desc).map (fun d => d.parameters.length) = some 1 := by decide +kernel
theorem in_X5_endOf_5 : ∀ w ∈ u_ws RX5 TX5 12, w ∈ wsX5_endOf := fun w h => (List.mem_cons_of_mem _ (List.mem_append_right _ h))
noncomputable def f_X5_endOf_b2  (v : MV) : Nat → Int32 → Option (Int32)
  | 0 => fun _ => none
  | n + 1 => fun x2 =>
    ck (vp_in x2 12) <|
    br (((M_fd v) x2.toNatClampNeg) = (-1))
      (some (x2))
      (ck (vp_in x2 12) <|
       nm (((M_fd v) x2.toNatClampNeg) : Int32) fun t_4 =>
       f_X5_endOf_b2 v n t_4)
set_option maxHeartbeats 4000000 in
set_option maxRecDepth 100000 in
theorem w_X5_endOf_b2 {G : GG} {l : Launch} {p : Program} {e : Env} {s : State} {m : MethodId} {args : Array Value} {below : List Frame} {meth : Method} {c : Code} {A : Nat → Prop} {o : Nat → Nat} {v : MV} {r : Int32}    (X : Cx p s m args meth c cX5_endOf 3 (some .int) wsX5_endOf RX5 G A)  :
    ∀ (n : Nat) (x2 : Int32) (H : Heap) (locs : List Loc) (ls : Array Slot), f_X5_endOf_b2 v n x2 = some (r) → Wd G A s H locs (fl [mB G o v]) → lv_has ls 3 [(0, .ref (o 0)), (2, .int x2)] → W p l e rX5_endOf s m args below meth c H locs 0 0 (MQ below (Qi G A r (fl [mB G o v])) args s 0 0 A) (F0 m 2 ls []) := by
  obtain ⟨⟨hx, hb, hml, hown, hts⟩, hK, hr, hlk, hA⟩ := id X
  intro n
  induction n with
  | zero =>
    intro x2 H locs ls h
    rw [f_X5_endOf_b2] at h
    cases h
  | succ n ih =>
    intro x2 H locs ls h hw hl
    rw [f_X5_endOf_b2] at h
    refine lv_aload_n hx hb dX5_endOf_2 rfl (lv_at hl 0 rfl) ?_
    refine x_get (v := .ref (o 5)) 0 0 X hw in_X5_endOf_5 rfl rfl rfl 5 (by decide) (List.mem_of_getElem? (i := 1) rfl) rfl rfl dX5_endOf_3 ?_
    refine lv_iload_n hx hb dX5_endOf_6 rfl (lv_at hl 1 rfl) ?_
    obtain ⟨k_1, h⟩ := ck_ok h
    refine x_iald (f := (M_fd v)) 0 5 X hw rfl rfl k_1 dX5_endOf_7 ?_
    refine lv_iconst (v := (-1)) hx hb dX5_endOf_8 (by decide) ?_
    refine lv_icmp_eq (tgt := 22) hx hb dX5_endOf_9 (by decide) (fun k_2 => ?_) (fun k_2 => ?_)
    · have h := br_yes h k_2
      refine lv_iload_n hx hb dX5_endOf_22 rfl (lv_at hl 1 rfl) ?_
      cases h
      exact x_iret X (vp_nar_int _) hw rfl rfl dX5_endOf_23
    · have h := br_no h k_2
      refine lv_aload_n hx hb dX5_endOf_12 rfl (lv_at hl 0 rfl) ?_
      refine x_get (v := .ref (o 5)) 0 0 X hw in_X5_endOf_5 rfl rfl rfl 5 (by decide) (List.mem_of_getElem? (i := 1) rfl) rfl rfl dX5_endOf_13 ?_
      refine lv_iload_n hx hb dX5_endOf_16 rfl (lv_at hl 1 rfl) ?_
      obtain ⟨k_3, h⟩ := ck_ok h
      refine x_iald (f := (M_fd v)) 0 5 X hw rfl rfl k_3 dX5_endOf_17 ?_
      obtain ⟨t_4, et_4, h⟩ := nm_ok h
      refine lv_istore_n (lv' := [(2, .int t_4), (0, .ref (o 0))]) hx hb dX5_endOf_18 rfl hl (by decide) (by rw [et_4]; rfl) (fun ls hl => ?_)
      refine lv_goto (tgt := 2) hx hb dX5_endOf_19 (by decide) ?_
      exact ih t_4 _ _ _ h hw (lv_sub hl [1, 0] rfl)
noncomputable def f_X5_endOf  (v : MV) (x1 : Int32) : Option (Int32) :=
  f_X5_endOf_b2 v FU x1
set_option maxHeartbeats 4000000 in
set_option maxRecDepth 100000 in
theorem m_X5_endOf {G : GG} {l : Launch} {o : Nat → Nat} {v : MV} {x1 : Int32} {r : Int32}  (h : f_X5_endOf v x1 = some (r)) : Ci G l yX5_endOf wsX5_endOf rX5_endOf [.ref (o 0), .int x1] (fl [mB G o v]) r (fl [mB G o v]) := by
  refine Ci.intro cX5_endOf 3 (some .int) RX5 (by decide) rfl rfl (Nat.le_of_ble_eq_true rfl) ?_
  intro p e s m below meth c A ls X hw hl
  obtain ⟨⟨hx, hb, hml, hown, hts⟩, hK, hr, hlk, hA⟩ := id X
  unfold f_X5_endOf at h
  have hl : lv_has ls 3 [(0, .ref (o 0)), (1, .int x1)] := hl
  refine lv_iload_n hx hb dX5_endOf_0 rfl (lv_at hl 1 rfl) ?_
  refine lv_istore_n (lv' := [(2, .int x1), (0, .ref (o 0)), (1, .int x1)]) hx hb dX5_endOf_1 rfl hl (by decide) rfl (fun ls hl => ?_)
  exact w_X5_endOf_b2 X FU x1 _ _ _ h hw (lv_sub hl [1, 0] rfl)

def rX5_end : Room := { frames := 3, cells := 0, slots := 0, locals := 69 }
theorem hd_X5_end : yX5_end.cls = RX5 ∧ yX5_end.cls ≠ "java/lang/invoke/MethodHandle" ∧ yX5_end.cls ≠ "java/lang/invoke/VarHandle" ∧ (parseMethodDescriptor yX5_end.desc).map (fun d => d.parameters.length) = some 1 := by decide +kernel
noncomputable def f_X5_end  (v : MV) (x1 : Int32) : Option (Int32 × MV) :=
  bd (f_X5_isSection v x1) fun r_1 =>
  br (r_1 = 0)
    (some ((-2), v))
    (bd (f_X5_freezes v) fun v_4 =>
     bd (f_X5_endOf v_4 x1) fun r_6 =>
     some (r_6, v_4))
set_option maxHeartbeats 4000000 in
set_option maxRecDepth 100000 in
theorem m_X5_end {G : GG} {l : Launch} {o : Nat → Nat} {v : MV} {x1 : Int32} {r : Int32} {zv : MV} (h : f_X5_end v x1 = some (r, zv)) : Ci G l yX5_end wsX5_end rX5_end [.ref (o 0), .int x1] (fl [mB G o v]) r (fl [mB G o zv]) := by
  refine Ci.intro cX5_end 2 (some .int) RX5 (by decide) rfl rfl (Nat.le_of_ble_eq_true rfl) ?_
  intro p e s m below meth c A ls X hw hl
  obtain ⟨⟨hx, hb, hml, hown, hts⟩, hK, hr, hlk, hA⟩ := id X
  unfold f_X5_end at h
  have hl : lv_has ls 2 [(0, .ref (o 0)), (1, .int x1)] := hl
  refine lv_aload_n hx hb dX5_end_0 rfl (lv_at hl 0 rfl) ?_
  refine lv_iload_n hx hb dX5_end_1 rfl (lv_at hl 1 rfl) ?_
  obtain ⟨r_1, c_2, h⟩ := bd_ok h
  refine x_Vi (As := [.int x1]) (w' := fl [mB G o v]) X hw (m_X5_isSection (G := G) (l := l) (o := o) c_2) Cut.all 0 0 rfl rfl rfl (cwV 1 hts gX5_end_X5_isSection rfl rfl rfl hd_X5_isSection ⟨Nat.le_of_ble_eq_true rfl, Nat.le_of_ble_eq_true rfl⟩) rfl hl.1 rfl (Nat.le_of_ble_eq_true rfl) dX5_end_2 ⟨Nat.le_of_ble_eq_true rfl, Nat.le_of_ble_eq_true rfl⟩ (fun H locs hw => ?_)
  refine lv_if_ne (tgt := 11) hx hb dX5_end_5 (by decide) (fun k_3 => ?_) (fun k_3 => ?_)
  · have h := br_no h k_3
    refine lv_aload_n hx hb dX5_end_11 rfl (lv_at hl 0 rfl) ?_
    obtain ⟨v_4, c_5, h⟩ := bd_ok h
    refine x_Vv (As := []) (w' := fl [mB G o v_4]) X hw (m_X5_freezes (G := G) (l := l) (o := o) c_5) Cut.all 0 0 rfl rfl rfl (cwV 0 hts gX5_end_X5_freezes rfl rfl rfl hd_X5_freezes ⟨Nat.le_of_ble_eq_true rfl, Nat.le_of_ble_eq_true rfl⟩) rfl hl.1 rfl (Nat.le_of_ble_eq_true rfl) dX5_end_12 ⟨Nat.le_of_ble_eq_true rfl, Nat.le_of_ble_eq_true rfl⟩ (fun H locs hw => ?_)
    refine lv_aload_n hx hb dX5_end_15 rfl (lv_at hl 0 rfl) ?_
    refine lv_iload_n hx hb dX5_end_16 rfl (lv_at hl 1 rfl) ?_
    obtain ⟨r_6, c_7, h⟩ := bd_ok h
    refine x_Vi (As := [.int x1]) (w' := fl [mB G o v_4]) X hw (m_X5_endOf (G := G) (l := l) (o := o) c_7) Cut.all 0 0 rfl rfl rfl (cwV 1 hts gX5_end_X5_endOf rfl rfl rfl hd_X5_endOf ⟨Nat.le_of_ble_eq_true rfl, Nat.le_of_ble_eq_true rfl⟩) rfl hl.1 rfl (Nat.le_of_ble_eq_true rfl) dX5_end_17 ⟨Nat.le_of_ble_eq_true rfl, Nat.le_of_ble_eq_true rfl⟩ (fun H locs hw => ?_)
    cases h
    exact x_iret X (vp_nar_int _) hw rfl rfl dX5_end_20
  · have h := br_yes h k_3
    refine lv_bipush (v := (-2)) hx hb dX5_end_8 (by decide) ?_
    cases h
    exact x_iret X (vp_nar_int _) hw rfl rfl dX5_end_10

def rX5_gathers : Room := { frames := 3, cells := 0, slots := 0, locals := 69 }
theorem hd_X5_gathers : yX5_gathers.cls = RX5 ∧ yX5_gathers.cls ≠ "java/lang/invoke/MethodHandle" ∧ yX5_gathers.cls ≠ "java/lang/invoke/VarHandle" ∧ (parseMethodDescriptor yX5_gathers.desc).map (fun d => d.parameters.length) = some 1 := by decide +kernel
theorem in_X5_gathers_5 : ∀ w ∈ u_ws RX5 TX5 12, w ∈ wsX5_gathers := fun w h => (List.mem_cons_of_mem _ (List.mem_append_right _ h))
noncomputable def f_X5_gathers_b48  (k19 : MV → Int32 → Int32 → Option (Int32 × MV)) (x1 : Int32) (v : MV) (x3 : Int32) (y0 : Int32) (y1 : Int32) : Option (Int32 × MV) :=
  nm ((y1 + y0) : Int32) fun t_1 =>
  nm (x3 + 1 : Int32) fun t_2 =>
  k19 v t_1 t_2
set_option maxHeartbeats 4000000 in
set_option maxRecDepth 100000 in
theorem w_X5_gathers_b48 {G : GG} {l : Launch} {p : Program} {e : Env} {s : State} {m : MethodId} {args : Array Value} {below : List Frame} {meth : Method} {c : Code} {A : Nat → Prop} {o : Nat → Nat} {x1 : Int32} {r : Int32} {zv : MV}  {k19 : MV → Int32 → Int32 → Option (Int32 × MV)} (X : Cx p s m args meth c cX5_gathers 4 (some .int) wsX5_gathers RX5 G A) (hk19 : ∀ (v : MV) (x2 : Int32) (x3 : Int32) (H : Heap) (locs : List Loc) (ls : Array Slot), k19 v x2 x3 = some (r, zv) → Wd G A s H locs (fl [mB G o v]) → lv_has ls 4 [(0, .ref (o 0)), (1, .int x1), (2, .int x2), (3, .int x3)] → W p l e rX5_gathers s m args below meth c H locs 0 0 (MQ below (Qi G A r (fl [mB G o zv])) args s 0 0 A) (F0 m 19 ls [])) :
    ∀ (v : MV) (x3 : Int32) (y0 : Int32) (y1 : Int32) (H : Heap) (locs : List Loc) (ls : Array Slot), f_X5_gathers_b48 k19 x1 v x3 y0 y1 = some (r, zv) → Wd G A s H locs (fl [mB G o v]) → lv_has ls 4 [(0, .ref (o 0)), (1, .int x1), (3, .int x3)] → W p l e rX5_gathers s m args below meth c H locs 0 0 (MQ below (Qi G A r (fl [mB G o zv])) args s 0 0 A) (F0 m 48 ls [.int y0, .int y1]) := by
  obtain ⟨⟨hx, hb, hml, hown, hts⟩, hK, hr, hlk, hA⟩ := id X
  intro v x3 y0 y1 H locs ls h hw hl
  unfold f_X5_gathers_b48 at h
  refine lv_iadd hx hb dX5_gathers_48 ?_
  obtain ⟨t_1, et_1, h⟩ := nm_ok h
  refine lv_istore_n (lv' := [(2, .int t_1), (0, .ref (o 0)), (1, .int x1), (3, .int x3)]) hx hb dX5_gathers_49 rfl hl (by decide) (by rw [et_1]; rfl) (fun ls hl => ?_)
  obtain ⟨t_2, et_2, h⟩ := nm_ok h
  refine lv_iinc (v := t_2) (lv' := [(3, .int t_2), (2, .int t_1), (0, .ref (o 0)), (1, .int x1)]) hx hb dX5_gathers_50 hl (k := 3) rfl (by rw [et_2]; rfl) (by decide) rfl (fun ls hl => ?_)
  refine lv_goto (tgt := 19) hx hb dX5_gathers_53 (by decide) ?_
  exact hk19 v t_1 t_2 _ _ _ h hw (lv_sub hl [2, 3, 1, 0] rfl)
noncomputable def f_X5_gathers_b19  (x1 : Int32) : Nat → MV → Int32 → Int32 → Option (Int32 × MV)
  | 0 => fun _ _ _ => none
  | n + 1 => fun v x2 x3 =>
    ck (vp_in 0 644) <|
    br (((M_ro v) (0 : Int32).toNatClampNeg) ≤ x3)
      (some (x2, v))
      (bd (f_X5_endOf v x3) fun r_3 =>
       br (r_3 = x1)
         (bd (f_X5_firstNeed v x3) fun r_6 =>
          f_X5_gathers_b48 (f_X5_gathers_b19 x1 n) x1 v x3 r_6 x2)
         (f_X5_gathers_b48 (f_X5_gathers_b19 x1 n) x1 v x3 0 x2))
set_option maxHeartbeats 4000000 in
set_option maxRecDepth 100000 in
theorem w_X5_gathers_b19 {G : GG} {l : Launch} {p : Program} {e : Env} {s : State} {m : MethodId} {args : Array Value} {below : List Frame} {meth : Method} {c : Code} {A : Nat → Prop} {o : Nat → Nat} {x1 : Int32} {r : Int32} {zv : MV}   (X : Cx p s m args meth c cX5_gathers 4 (some .int) wsX5_gathers RX5 G A)  :
    ∀ (n : Nat) (v : MV) (x2 : Int32) (x3 : Int32) (H : Heap) (locs : List Loc) (ls : Array Slot), f_X5_gathers_b19 x1 n v x2 x3 = some (r, zv) → Wd G A s H locs (fl [mB G o v]) → lv_has ls 4 [(0, .ref (o 0)), (1, .int x1), (2, .int x2), (3, .int x3)] → W p l e rX5_gathers s m args below meth c H locs 0 0 (MQ below (Qi G A r (fl [mB G o zv])) args s 0 0 A) (F0 m 19 ls []) := by
  obtain ⟨⟨hx, hb, hml, hown, hts⟩, hK, hr, hlk, hA⟩ := id X
  intro n
  induction n with
  | zero =>
    intro v x2 x3 H locs ls h
    rw [f_X5_gathers_b19] at h
    cases h
  | succ n ih =>
    intro v x2 x3 H locs ls h hw hl
    rw [f_X5_gathers_b19] at h
    refine lv_iload_n hx hb dX5_gathers_19 rfl (lv_at hl 3 rfl) ?_
    refine lv_aload_n hx hb dX5_gathers_20 rfl (lv_at hl 0 rfl) ?_
    refine x_get (v := .ref (o 1)) 0 0 X hw in_X5_gathers_5 rfl rfl rfl 0 (by decide) (List.mem_of_getElem? (i := 1) rfl) rfl rfl dX5_gathers_21 ?_
    refine lv_iconst (v := 0) hx hb dX5_gathers_24 (by decide) ?_
    obtain ⟨k_1, h⟩ := ck_ok h
    refine x_iald (f := (M_ro v)) 0 1 X hw rfl rfl k_1 dX5_gathers_25 ?_
    refine lv_icmp_ge (tgt := 56) hx hb dX5_gathers_26 (by decide) (fun k_2 => ?_) (fun k_2 => ?_)
    · have h := br_yes h k_2
      refine lv_iload_n hx hb dX5_gathers_56 rfl (lv_at hl 2 rfl) ?_
      cases h
      exact x_iret X (vp_nar_int _) hw rfl rfl dX5_gathers_57
    · have h := br_no h k_2
      refine lv_iload_n hx hb dX5_gathers_29 rfl (lv_at hl 2 rfl) ?_
      refine lv_aload_n hx hb dX5_gathers_30 rfl (lv_at hl 0 rfl) ?_
      refine lv_iload_n hx hb dX5_gathers_31 rfl (lv_at hl 3 rfl) ?_
      obtain ⟨r_3, c_4, h⟩ := bd_ok h
      refine x_Vi (As := [.int x3]) (w' := fl [mB G o v]) X hw (m_X5_endOf (G := G) (l := l) (o := o) c_4) Cut.all 0 0 rfl rfl rfl (cwV 1 hts gX5_gathers_X5_endOf rfl rfl rfl hd_X5_endOf ⟨Nat.le_of_ble_eq_true rfl, Nat.le_of_ble_eq_true rfl⟩) rfl hl.1 rfl (Nat.le_of_ble_eq_true rfl) dX5_gathers_32 ⟨Nat.le_of_ble_eq_true rfl, Nat.le_of_ble_eq_true rfl⟩ (fun H locs hw => ?_)
      refine lv_iload_n hx hb dX5_gathers_35 rfl (lv_at hl 1 rfl) ?_
      refine lv_icmp_ne (tgt := 47) hx hb dX5_gathers_36 (by decide) (fun k_5 => ?_) (fun k_5 => ?_)
      · have h := br_no h k_5
        refine lv_iconst (v := 0) hx hb dX5_gathers_47 (by decide) ?_
        exact w_X5_gathers_b48 X ih v x3 0 x2 _ _ _ h hw (lv_sub hl [0, 1, 3] rfl)
      · have h := br_yes h k_5
        refine lv_aload_n hx hb dX5_gathers_39 rfl (lv_at hl 0 rfl) ?_
        refine lv_iload_n hx hb dX5_gathers_40 rfl (lv_at hl 3 rfl) ?_
        obtain ⟨r_6, c_7, h⟩ := bd_ok h
        refine x_Vi (As := [.int x3]) (w' := fl [mB G o v]) X hw (m_X5_firstNeed (G := G) (l := l) (o := o) c_7) Cut.all 0 0 rfl rfl rfl (cwV 1 hts gX5_gathers_X5_firstNeed rfl rfl rfl hd_X5_firstNeed ⟨Nat.le_of_ble_eq_true rfl, Nat.le_of_ble_eq_true rfl⟩) rfl hl.1 rfl (Nat.le_of_ble_eq_true rfl) dX5_gathers_41 ⟨Nat.le_of_ble_eq_true rfl, Nat.le_of_ble_eq_true rfl⟩ (fun H locs hw => ?_)
        refine lv_goto (tgt := 48) hx hb dX5_gathers_44 (by decide) ?_
        exact w_X5_gathers_b48 X ih v x3 r_6 x2 _ _ _ h hw (lv_sub hl [0, 1, 3] rfl)
noncomputable def f_X5_gathers  (v : MV) (x1 : Int32) : Option (Int32 × MV) :=
  bd (f_X5_isSection v x1) fun r_1 =>
  br (r_1 = 0)
    (some ((-2), v))
    (bd (f_X5_freezes v) fun v_4 =>
     f_X5_gathers_b19 x1 FU v_4 0 0)
set_option maxHeartbeats 4000000 in
set_option maxRecDepth 100000 in
theorem m_X5_gathers {G : GG} {l : Launch} {o : Nat → Nat} {v : MV} {x1 : Int32} {r : Int32} {zv : MV} (h : f_X5_gathers v x1 = some (r, zv)) : Ci G l yX5_gathers wsX5_gathers rX5_gathers [.ref (o 0), .int x1] (fl [mB G o v]) r (fl [mB G o zv]) := by
  refine Ci.intro cX5_gathers 4 (some .int) RX5 (by decide) rfl rfl (Nat.le_of_ble_eq_true rfl) ?_
  intro p e s m below meth c A ls X hw hl
  obtain ⟨⟨hx, hb, hml, hown, hts⟩, hK, hr, hlk, hA⟩ := id X
  unfold f_X5_gathers at h
  have hl : lv_has ls 4 [(0, .ref (o 0)), (1, .int x1)] := hl
  refine lv_aload_n hx hb dX5_gathers_0 rfl (lv_at hl 0 rfl) ?_
  refine lv_iload_n hx hb dX5_gathers_1 rfl (lv_at hl 1 rfl) ?_
  obtain ⟨r_1, c_2, h⟩ := bd_ok h
  refine x_Vi (As := [.int x1]) (w' := fl [mB G o v]) X hw (m_X5_isSection (G := G) (l := l) (o := o) c_2) Cut.all 0 0 rfl rfl rfl (cwV 1 hts gX5_gathers_X5_isSection rfl rfl rfl hd_X5_isSection ⟨Nat.le_of_ble_eq_true rfl, Nat.le_of_ble_eq_true rfl⟩) rfl hl.1 rfl (Nat.le_of_ble_eq_true rfl) dX5_gathers_2 ⟨Nat.le_of_ble_eq_true rfl, Nat.le_of_ble_eq_true rfl⟩ (fun H locs hw => ?_)
  refine lv_if_ne (tgt := 11) hx hb dX5_gathers_5 (by decide) (fun k_3 => ?_) (fun k_3 => ?_)
  · have h := br_no h k_3
    refine lv_aload_n hx hb dX5_gathers_11 rfl (lv_at hl 0 rfl) ?_
    obtain ⟨v_4, c_5, h⟩ := bd_ok h
    refine x_Vv (As := []) (w' := fl [mB G o v_4]) X hw (m_X5_freezes (G := G) (l := l) (o := o) c_5) Cut.all 0 0 rfl rfl rfl (cwV 0 hts gX5_gathers_X5_freezes rfl rfl rfl hd_X5_freezes ⟨Nat.le_of_ble_eq_true rfl, Nat.le_of_ble_eq_true rfl⟩) rfl hl.1 rfl (Nat.le_of_ble_eq_true rfl) dX5_gathers_12 ⟨Nat.le_of_ble_eq_true rfl, Nat.le_of_ble_eq_true rfl⟩ (fun H locs hw => ?_)
    refine lv_iconst (v := 0) hx hb dX5_gathers_15 (by decide) ?_
    refine lv_istore_n (lv' := [(2, .int 0), (0, .ref (o 0)), (1, .int x1)]) hx hb dX5_gathers_16 rfl hl (by decide) rfl (fun ls hl => ?_)
    refine lv_iconst (v := 0) hx hb dX5_gathers_17 (by decide) ?_
    refine lv_istore_n (lv' := [(3, .int 0), (2, .int 0), (0, .ref (o 0)), (1, .int x1)]) hx hb dX5_gathers_18 rfl hl (by decide) rfl (fun ls hl => ?_)
    exact w_X5_gathers_b19 X FU v_4 0 0 _ _ _ h hw (lv_sub hl [2, 3, 1, 0] rfl)
  · have h := br_yes h k_3
    refine lv_bipush (v := (-2)) hx hb dX5_gathers_8 (by decide) ?_
    cases h
    exact x_iret X (vp_nar_int _) hw rfl rfl dX5_gathers_10

def rX5_isSoundWith : Room := { frames := 4, cells := 0, slots := 0, locals := 91 }
theorem hd_X5_isSoundWith : yX5_isSoundWith.cls = RX5 ∧ yX5_isSoundWith.cls ≠ "java/lang/invoke/MethodHandle" ∧ yX5_isSoundWith.cls ≠ "java/lang/invoke/VarHandle" ∧ (parseMethodDescriptor yX5_isSoundWith.desc).map (fun d => d.parameters.length) = some 2 := by decide +kernel
theorem in_X5_isSoundWith_5 : ∀ w ∈ u_ws RX5 TX5 12, w ∈ wsX5_isSoundWith := fun w h => (List.mem_cons_of_mem _ (List.mem_append_right _ h))
noncomputable def f_X5_isSoundWith_b48  (v : MV) (y0 : Int32) : Option (Int32 × MV) :=
  bd (f_X5_copies v 6 0) fun v_1 =>
  ck (y0 = 0 ∨ y0 = 1) <|
  some (y0, v_1)
set_option maxHeartbeats 4000000 in
set_option maxRecDepth 100000 in
theorem w_X5_isSoundWith_b48 {G : GG} {l : Launch} {p : Program} {e : Env} {s : State} {m : MethodId} {args : Array Value} {below : List Frame} {meth : Method} {c : Code} {A : Nat → Prop} {o : Nat → Nat}  {r : Int32} {zv : MV}   (X : Cx p s m args meth c cX5_isSoundWith 4 (some .boolean) wsX5_isSoundWith RX5 G A)  :
    ∀ (v : MV) (y0 : Int32) (H : Heap) (locs : List Loc) (ls : Array Slot), f_X5_isSoundWith_b48 v y0 = some (r, zv) → Wd G A s H locs (fl [mB G o v]) → lv_has ls 4 [(0, .ref (o 0))] → W p l e rX5_isSoundWith s m args below meth c H locs 0 0 (MQ below (Qi G A r (fl [mB G o zv])) args s 0 0 A) (F0 m 48 ls [.int y0]) := by
  obtain ⟨⟨hx, hb, hml, hown, hts⟩, hK, hr, hlk, hA⟩ := id X
  intro v y0 H locs ls h hw hl
  unfold f_X5_isSoundWith_b48 at h
  refine lv_istore_n (lv' := [(3, .int y0), (0, .ref (o 0))]) hx hb dX5_isSoundWith_48 rfl hl (by decide) rfl (fun ls hl => ?_)
  refine lv_aload_n hx hb dX5_isSoundWith_49 rfl (lv_at hl 1 rfl) ?_
  refine lv_bipush (v := 6) hx hb dX5_isSoundWith_50 (by decide) ?_
  refine lv_iconst (v := 0) hx hb dX5_isSoundWith_52 (by decide) ?_
  obtain ⟨v_1, c_2, h⟩ := bd_ok h
  refine x_Vv (As := [.int 6, .int 0]) (w' := fl [mB G o v_1]) X hw (m_X5_copies (G := G) (l := l) (o := o) c_2) Cut.all 0 0 rfl rfl rfl (cwV 2 hts gX5_isSoundWith_X5_copies rfl rfl rfl hd_X5_copies ⟨Nat.le_of_ble_eq_true rfl, Nat.le_of_ble_eq_true rfl⟩) rfl hl.1 rfl (Nat.le_of_ble_eq_true rfl) dX5_isSoundWith_53 ⟨Nat.le_of_ble_eq_true rfl, Nat.le_of_ble_eq_true rfl⟩ (fun H locs hw => ?_)
  refine lv_iload_n hx hb dX5_isSoundWith_56 rfl (lv_at hl 0 rfl) ?_
  obtain ⟨k_3, h⟩ := ck_ok h
  cases h
  exact x_iret X (narz k_3) hw rfl rfl dX5_isSoundWith_57
noncomputable def f_X5_isSoundWith  (v : MV) (x1 : Int32) (x2 : Int32) : Option (Int32 × MV) :=
  bd (f_X5_copies v 0 6) fun v_1 =>
  bd (f_X5_lays v_1 ((x1 * x1) * x1) ((5 * x1) * x1) 0 1) fun v_3 =>
  ck (vp_in 0 644) <|
  bd (f_X5_joins v_3 x2 (((M_ro v_3) (0 : Int32).toNatClampNeg) - 1)) fun v_6 =>
  bd2 (f_X5_excesses v_6) fun r_8 v_9 =>
  br (r_8 = 0)
    (f_X5_isSoundWith_b48 v_9 1)
    (f_X5_isSoundWith_b48 v_9 0)
set_option maxHeartbeats 4000000 in
set_option maxRecDepth 100000 in
theorem m_X5_isSoundWith {G : GG} {l : Launch} {o : Nat → Nat} {v : MV} {x1 : Int32} {x2 : Int32} {r : Int32} {zv : MV} (h : f_X5_isSoundWith v x1 x2 = some (r, zv)) : Ci G l yX5_isSoundWith wsX5_isSoundWith rX5_isSoundWith [.ref (o 0), .int x1, .int x2] (fl [mB G o v]) r (fl [mB G o zv]) := by
  refine Ci.intro cX5_isSoundWith 4 (some .boolean) RX5 (by decide) rfl rfl (Nat.le_of_ble_eq_true rfl) ?_
  intro p e s m below meth c A ls X hw hl
  obtain ⟨⟨hx, hb, hml, hown, hts⟩, hK, hr, hlk, hA⟩ := id X
  unfold f_X5_isSoundWith at h
  have hl : lv_has ls 4 [(0, .ref (o 0)), (1, .int x1), (2, .int x2)] := hl
  refine lv_aload_n hx hb dX5_isSoundWith_0 rfl (lv_at hl 0 rfl) ?_
  refine lv_iconst (v := 0) hx hb dX5_isSoundWith_1 (by decide) ?_
  refine lv_bipush (v := 6) hx hb dX5_isSoundWith_2 (by decide) ?_
  obtain ⟨v_1, c_2, h⟩ := bd_ok h
  refine x_Vv (As := [.int 0, .int 6]) (w' := fl [mB G o v_1]) X hw (m_X5_copies (G := G) (l := l) (o := o) c_2) Cut.all 0 0 rfl rfl rfl (cwV 2 hts gX5_isSoundWith_X5_copies rfl rfl rfl hd_X5_copies ⟨Nat.le_of_ble_eq_true rfl, Nat.le_of_ble_eq_true rfl⟩) rfl hl.1 rfl (Nat.le_of_ble_eq_true rfl) dX5_isSoundWith_4 ⟨Nat.le_of_ble_eq_true rfl, Nat.le_of_ble_eq_true rfl⟩ (fun H locs hw => ?_)
  refine lv_aload_n hx hb dX5_isSoundWith_7 rfl (lv_at hl 0 rfl) ?_
  refine lv_iload_n hx hb dX5_isSoundWith_8 rfl (lv_at hl 1 rfl) ?_
  refine lv_iload_n hx hb dX5_isSoundWith_9 rfl (lv_at hl 1 rfl) ?_
  refine lv_imul hx hb dX5_isSoundWith_10 ?_
  refine lv_iload_n hx hb dX5_isSoundWith_11 rfl (lv_at hl 1 rfl) ?_
  refine lv_imul hx hb dX5_isSoundWith_12 ?_
  refine lv_iconst (v := 5) hx hb dX5_isSoundWith_13 (by decide) ?_
  refine lv_iload_n hx hb dX5_isSoundWith_14 rfl (lv_at hl 1 rfl) ?_
  refine lv_imul hx hb dX5_isSoundWith_15 ?_
  refine lv_iload_n hx hb dX5_isSoundWith_16 rfl (lv_at hl 1 rfl) ?_
  refine lv_imul hx hb dX5_isSoundWith_17 ?_
  refine lv_iconst (v := 0) hx hb dX5_isSoundWith_18 (by decide) ?_
  refine lv_iconst (v := 1) hx hb dX5_isSoundWith_19 (by decide) ?_
  obtain ⟨v_3, c_4, h⟩ := bd_ok h
  refine x_Vv (As := [.int ((x1 * x1) * x1), .int ((5 * x1) * x1), .int 0, .int 1]) (w' := fl [mB G o v_3]) X hw (m_X5_lays (G := G) (l := l) (o := o) c_4) Cut.all 0 0 rfl rfl rfl (cwV 4 hts gX5_isSoundWith_X5_lays rfl rfl rfl hd_X5_lays ⟨Nat.le_of_ble_eq_true rfl, Nat.le_of_ble_eq_true rfl⟩) rfl hl.1 rfl (Nat.le_of_ble_eq_true rfl) dX5_isSoundWith_20 ⟨Nat.le_of_ble_eq_true rfl, Nat.le_of_ble_eq_true rfl⟩ (fun H locs hw => ?_)
  refine lv_aload_n hx hb dX5_isSoundWith_23 rfl (lv_at hl 0 rfl) ?_
  refine lv_iload_n hx hb dX5_isSoundWith_24 rfl (lv_at hl 2 rfl) ?_
  refine lv_aload_n hx hb dX5_isSoundWith_25 rfl (lv_at hl 0 rfl) ?_
  refine x_get (v := .ref (o 1)) 0 0 X hw in_X5_isSoundWith_5 rfl rfl rfl 0 (by decide) (List.mem_of_getElem? (i := 1) rfl) rfl rfl dX5_isSoundWith_26 ?_
  refine lv_iconst (v := 0) hx hb dX5_isSoundWith_29 (by decide) ?_
  obtain ⟨k_5, h⟩ := ck_ok h
  refine x_iald (f := (M_ro v_3)) 0 1 X hw rfl rfl k_5 dX5_isSoundWith_30 ?_
  refine lv_iconst (v := 1) hx hb dX5_isSoundWith_31 (by decide) ?_
  refine lv_isub hx hb dX5_isSoundWith_32 ?_
  obtain ⟨v_6, c_7, h⟩ := bd_ok h
  refine x_Vv (As := [.int x2, .int (((M_ro v_3) (0 : Int32).toNatClampNeg) - 1)]) (w' := fl [mB G o v_6]) X hw (m_X5_joins (G := G) (l := l) (o := o) c_7) Cut.all 0 0 rfl rfl rfl (cwV 2 hts gX5_isSoundWith_X5_joins rfl rfl rfl hd_X5_joins ⟨Nat.le_of_ble_eq_true rfl, Nat.le_of_ble_eq_true rfl⟩) rfl hl.1 rfl (Nat.le_of_ble_eq_true rfl) dX5_isSoundWith_33 ⟨Nat.le_of_ble_eq_true rfl, Nat.le_of_ble_eq_true rfl⟩ (fun H locs hw => ?_)
  refine lv_aload_n hx hb dX5_isSoundWith_36 rfl (lv_at hl 0 rfl) ?_
  obtain ⟨r_8, v_9, c_10, h⟩ := bd2_ok h
  refine x_Vi (As := []) (w' := fl [mB G o v_9]) X hw (m_X5_excesses (G := G) (l := l) (o := o) c_10) Cut.all 0 0 rfl rfl rfl (cwV 0 hts gX5_isSoundWith_X5_excesses rfl rfl rfl hd_X5_excesses ⟨Nat.le_of_ble_eq_true rfl, Nat.le_of_ble_eq_true rfl⟩) rfl hl.1 rfl (Nat.le_of_ble_eq_true rfl) dX5_isSoundWith_37 ⟨Nat.le_of_ble_eq_true rfl, Nat.le_of_ble_eq_true rfl⟩ (fun H locs hw => ?_)
  refine lv_if_ne (tgt := 47) hx hb dX5_isSoundWith_40 (by decide) (fun k_11 => ?_) (fun k_11 => ?_)
  · have h := br_no h k_11
    refine lv_iconst (v := 0) hx hb dX5_isSoundWith_47 (by decide) ?_
    exact w_X5_isSoundWith_b48 X v_9 0 _ _ _ h hw (lv_sub hl [0] rfl)
  · have h := br_yes h k_11
    refine lv_iconst (v := 1) hx hb dX5_isSoundWith_43 (by decide) ?_
    refine lv_goto (tgt := 48) hx hb dX5_isSoundWith_44 (by decide) ?_
    exact w_X5_isSoundWith_b48 X v_9 1 _ _ _ h hw (lv_sub hl [0] rfl)

def rX5_isFull : Room := { frames := 0, cells := 0, slots := 0, locals := 0 }
theorem hd_X5_isFull : yX5_isFull.cls = RX5 ∧ yX5_isFull.cls ≠ "java/lang/invoke/MethodHandle" ∧ yX5_isFull.cls ≠ "java/lang/invoke/VarHandle" ∧ (parseMethodDescriptor yX5_isFull.desc).map (fun d => d.parameters.length) = some 0 := by decide +kernel
theorem in_X5_isFull_5 : ∀ w ∈ u_ws RX5 TX5 12, w ∈ wsX5_isFull := fun w h => (List.mem_cons_of_mem _ (List.mem_append_right _ h))
noncomputable def f_X5_isFull_b22  (v : MV) : Option (Int32) :=
  some (1)
set_option maxHeartbeats 4000000 in
set_option maxRecDepth 100000 in
theorem w_X5_isFull_b22 {G : GG} {l : Launch} {p : Program} {e : Env} {s : State} {m : MethodId} {args : Array Value} {below : List Frame} {meth : Method} {c : Code} {A : Nat → Prop} {o : Nat → Nat} {v : MV} {r : Int32}    (X : Cx p s m args meth c cX5_isFull 1 (some .boolean) wsX5_isFull RX5 G A)  :
    ∀  (H : Heap) (locs : List Loc) (ls : Array Slot), f_X5_isFull_b22 v = some (r) → Wd G A s H locs (fl [mB G o v]) → lv_has ls 1 [] → W p l e rX5_isFull s m args below meth c H locs 0 0 (MQ below (Qi G A r (fl [mB G o v])) args s 0 0 A) (F0 m 22 ls []) := by
  obtain ⟨⟨hx, hb, hml, hown, hts⟩, hK, hr, hlk, hA⟩ := id X
  intro  H locs ls h hw hl
  unfold f_X5_isFull_b22 at h
  refine lv_iconst (v := 1) hx hb dX5_isFull_22 (by decide) ?_
  refine lv_goto (tgt := 27) hx hb dX5_isFull_23 (by decide) ?_
  cases h
  exact x_iret X (narz (Or.inr rfl)) hw rfl rfl dX5_isFull_27
noncomputable def f_X5_isFull  (v : MV)  : Option (Int32) :=
  ck (vp_in 0 644) <|
  br (((M_ro v) (0 : Int32).toNatClampNeg) = 12)
    (f_X5_isFull_b22 v)
    (ck (vp_in 1 644) <|
     br (((M_ro v) (1 : Int32).toNatClampNeg) = 20)
       (f_X5_isFull_b22 v)
       (some (0)))
set_option maxHeartbeats 4000000 in
set_option maxRecDepth 100000 in
theorem m_X5_isFull {G : GG} {l : Launch} {o : Nat → Nat} {v : MV}  {r : Int32}  (h : f_X5_isFull v = some (r)) : Ci G l yX5_isFull wsX5_isFull rX5_isFull [.ref (o 0)] (fl [mB G o v]) r (fl [mB G o v]) := by
  refine Ci.intro cX5_isFull 1 (some .boolean) RX5 (by decide) rfl rfl (Nat.le_of_ble_eq_true rfl) ?_
  intro p e s m below meth c A ls X hw hl
  obtain ⟨⟨hx, hb, hml, hown, hts⟩, hK, hr, hlk, hA⟩ := id X
  unfold f_X5_isFull at h
  have hl : lv_has ls 1 [(0, .ref (o 0))] := hl
  refine lv_aload_n hx hb dX5_isFull_0 rfl (lv_at hl 0 rfl) ?_
  refine x_get (v := .ref (o 1)) 0 0 X hw in_X5_isFull_5 rfl rfl rfl 0 (by decide) (List.mem_of_getElem? (i := 1) rfl) rfl rfl dX5_isFull_1 ?_
  refine lv_iconst (v := 0) hx hb dX5_isFull_4 (by decide) ?_
  obtain ⟨k_1, h⟩ := ck_ok h
  refine x_iald (f := (M_ro v)) 0 1 X hw rfl rfl k_1 dX5_isFull_5 ?_
  refine lv_bipush (v := 12) hx hb dX5_isFull_6 (by decide) ?_
  refine lv_icmp_eq (tgt := 22) hx hb dX5_isFull_8 (by decide) (fun k_2 => ?_) (fun k_2 => ?_)
  · have h := br_yes h k_2
    exact w_X5_isFull_b22 X _ _ _ h hw (lv_sub hl [] rfl)
  · have h := br_no h k_2
    refine lv_aload_n hx hb dX5_isFull_11 rfl (lv_at hl 0 rfl) ?_
    refine x_get (v := .ref (o 1)) 0 0 X hw in_X5_isFull_5 rfl rfl rfl 0 (by decide) (List.mem_of_getElem? (i := 1) rfl) rfl rfl dX5_isFull_12 ?_
    refine lv_iconst (v := 1) hx hb dX5_isFull_15 (by decide) ?_
    obtain ⟨k_3, h⟩ := ck_ok h
    refine x_iald (f := (M_ro v)) 0 1 X hw rfl rfl k_3 dX5_isFull_16 ?_
    refine lv_bipush (v := 20) hx hb dX5_isFull_17 (by decide) ?_
    refine lv_icmp_ne (tgt := 26) hx hb dX5_isFull_19 (by decide) (fun k_4 => ?_) (fun k_4 => ?_)
    · have h := br_no h k_4
      refine lv_iconst (v := 0) hx hb dX5_isFull_26 (by decide) ?_
      cases h
      exact x_iret X (narz (Or.inl rfl)) hw rfl rfl dX5_isFull_27
    · have h := br_yes h k_4
      exact w_X5_isFull_b22 X _ _ _ h hw (lv_sub hl [] rfl)

def rX5_leastFeeder : Room := { frames := 5, cells := 0, slots := 0, locals := 114 }
theorem hd_X5_leastFeeder : yX5_leastFeeder.cls = RX5 ∧ yX5_leastFeeder.cls ≠ "java/lang/invoke/MethodHandle" ∧ yX5_leastFeeder.cls ≠ "java/lang/invoke/VarHandle" ∧ (parseMethodDescriptor yX5_leastFeeder.desc).map (fun d => d.parameters.length) = some 1 := by decide +kernel
noncomputable def f_X5_leastFeeder_b44  (v : MV) (x2 : Int32) : Option (Int32 × MV) :=
  br (15 < x2)
    (some ((-1), v))
    (some (x2, v))
set_option maxHeartbeats 4000000 in
set_option maxRecDepth 100000 in
theorem w_X5_leastFeeder_b44 {G : GG} {l : Launch} {p : Program} {e : Env} {s : State} {m : MethodId} {args : Array Value} {below : List Frame} {meth : Method} {c : Code} {A : Nat → Prop} {o : Nat → Nat}  {r : Int32} {zv : MV}   (X : Cx p s m args meth c cX5_leastFeeder 3 (some .int) wsX5_leastFeeder RX5 G A)  :
    ∀ (v : MV) (x2 : Int32) (H : Heap) (locs : List Loc) (ls : Array Slot), f_X5_leastFeeder_b44 v x2 = some (r, zv) → Wd G A s H locs (fl [mB G o v]) → lv_has ls 3 [(2, .int x2)] → W p l e rX5_leastFeeder s m args below meth c H locs 0 0 (MQ below (Qi G A r (fl [mB G o zv])) args s 0 0 A) (F0 m 44 ls []) := by
  obtain ⟨⟨hx, hb, hml, hown, hts⟩, hK, hr, hlk, hA⟩ := id X
  intro v x2 H locs ls h hw hl
  unfold f_X5_leastFeeder_b44 at h
  refine lv_iload_n hx hb dX5_leastFeeder_44 rfl (lv_at hl 0 rfl) ?_
  refine lv_bipush (v := 15) hx hb dX5_leastFeeder_45 (by decide) ?_
  refine lv_icmp_gt (tgt := 54) hx hb dX5_leastFeeder_47 (by decide) (fun k_1 => ?_) (fun k_1 => ?_)
  · have h := br_yes h k_1
    refine lv_iconst (v := (-1)) hx hb dX5_leastFeeder_54 (by decide) ?_
    cases h
    exact x_iret X (vp_nar_int _) hw rfl rfl dX5_leastFeeder_55
  · have h := br_no h k_1
    refine lv_iload_n hx hb dX5_leastFeeder_50 rfl (lv_at hl 0 rfl) ?_
    refine lv_goto (tgt := 55) hx hb dX5_leastFeeder_51 (by decide) ?_
    cases h
    exact x_iret X (vp_nar_int _) hw rfl rfl dX5_leastFeeder_55
noncomputable def f_X5_leastFeeder_b23  (x1 : Int32) : Nat → MV → Int32 → Option (Int32 × MV)
  | 0 => fun _ _ => none
  | n + 1 => fun v x2 =>
    br (15 < x2)
      (f_X5_leastFeeder_b44 v x2)
      (bd2 (f_X5_isSoundWith v x2 x1) fun r_2 v_3 =>
       br (r_2 = 0)
         (nm (x2 + 1 : Int32) fun t_6 =>
          f_X5_leastFeeder_b23 x1 n v_3 t_6)
         (f_X5_leastFeeder_b44 v_3 x2))
set_option maxHeartbeats 4000000 in
set_option maxRecDepth 100000 in
theorem w_X5_leastFeeder_b23 {G : GG} {l : Launch} {p : Program} {e : Env} {s : State} {m : MethodId} {args : Array Value} {below : List Frame} {meth : Method} {c : Code} {A : Nat → Prop} {o : Nat → Nat} {x1 : Int32} {r : Int32} {zv : MV}   (X : Cx p s m args meth c cX5_leastFeeder 3 (some .int) wsX5_leastFeeder RX5 G A)  :
    ∀ (n : Nat) (v : MV) (x2 : Int32) (H : Heap) (locs : List Loc) (ls : Array Slot), f_X5_leastFeeder_b23 x1 n v x2 = some (r, zv) → Wd G A s H locs (fl [mB G o v]) → lv_has ls 3 [(0, .ref (o 0)), (1, .int x1), (2, .int x2)] → W p l e rX5_leastFeeder s m args below meth c H locs 0 0 (MQ below (Qi G A r (fl [mB G o zv])) args s 0 0 A) (F0 m 23 ls []) := by
  obtain ⟨⟨hx, hb, hml, hown, hts⟩, hK, hr, hlk, hA⟩ := id X
  intro n
  induction n with
  | zero =>
    intro v x2 H locs ls h
    rw [f_X5_leastFeeder_b23] at h
    cases h
  | succ n ih =>
    intro v x2 H locs ls h hw hl
    rw [f_X5_leastFeeder_b23] at h
    refine lv_iload_n hx hb dX5_leastFeeder_23 rfl (lv_at hl 2 rfl) ?_
    refine lv_bipush (v := 15) hx hb dX5_leastFeeder_24 (by decide) ?_
    refine lv_icmp_gt (tgt := 44) hx hb dX5_leastFeeder_26 (by decide) (fun k_1 => ?_) (fun k_1 => ?_)
    · have h := br_yes h k_1
      exact w_X5_leastFeeder_b44 X v x2 _ _ _ h hw (lv_sub hl [2] rfl)
    · have h := br_no h k_1
      refine lv_aload_n hx hb dX5_leastFeeder_29 rfl (lv_at hl 0 rfl) ?_
      refine lv_iload_n hx hb dX5_leastFeeder_30 rfl (lv_at hl 2 rfl) ?_
      refine lv_iload_n hx hb dX5_leastFeeder_31 rfl (lv_at hl 1 rfl) ?_
      obtain ⟨r_2, v_3, c_4, h⟩ := bd2_ok h
      refine x_Vi (As := [.int x2, .int x1]) (w' := fl [mB G o v_3]) X hw (m_X5_isSoundWith (G := G) (l := l) (o := o) c_4) Cut.all 0 0 rfl rfl rfl (cwV 2 hts gX5_leastFeeder_X5_isSoundWith rfl rfl rfl hd_X5_isSoundWith ⟨Nat.le_of_ble_eq_true rfl, Nat.le_of_ble_eq_true rfl⟩) rfl hl.1 rfl (Nat.le_of_ble_eq_true rfl) dX5_leastFeeder_32 ⟨Nat.le_of_ble_eq_true rfl, Nat.le_of_ble_eq_true rfl⟩ (fun H locs hw => ?_)
      refine lv_if_ne (tgt := 44) hx hb dX5_leastFeeder_35 (by decide) (fun k_5 => ?_) (fun k_5 => ?_)
      · have h := br_no h k_5
        exact w_X5_leastFeeder_b44 X v_3 x2 _ _ _ h hw (lv_sub hl [2] rfl)
      · have h := br_yes h k_5
        obtain ⟨t_6, et_6, h⟩ := nm_ok h
        refine lv_iinc (v := t_6) (lv' := [(2, .int t_6), (0, .ref (o 0)), (1, .int x1)]) hx hb dX5_leastFeeder_38 hl (k := 2) rfl (by rw [et_6]; rfl) (by decide) rfl (fun ls hl => ?_)
        refine lv_goto (tgt := 23) hx hb dX5_leastFeeder_41 (by decide) ?_
        exact ih v_3 t_6 _ _ _ h hw (lv_sub hl [1, 2, 0] rfl)
noncomputable def f_X5_leastFeeder  (v : MV) (x1 : Int32) : Option (Int32 × MV) :=
  bd (f_X5_isSection v x1) fun r_1 =>
  br (r_1 = 0)
    (some ((-2), v))
    (bd (f_X5_isFull v) fun r_4 =>
     br (r_4 = 0)
       (f_X5_leastFeeder_b23 x1 FU v 1)
       (some ((-5), v)))
set_option maxHeartbeats 4000000 in
set_option maxRecDepth 100000 in
theorem m_X5_leastFeeder {G : GG} {l : Launch} {o : Nat → Nat} {v : MV} {x1 : Int32} {r : Int32} {zv : MV} (h : f_X5_leastFeeder v x1 = some (r, zv)) : Ci G l yX5_leastFeeder wsX5_leastFeeder rX5_leastFeeder [.ref (o 0), .int x1] (fl [mB G o v]) r (fl [mB G o zv]) := by
  refine Ci.intro cX5_leastFeeder 3 (some .int) RX5 (by decide) rfl rfl (Nat.le_of_ble_eq_true rfl) ?_
  intro p e s m below meth c A ls X hw hl
  obtain ⟨⟨hx, hb, hml, hown, hts⟩, hK, hr, hlk, hA⟩ := id X
  unfold f_X5_leastFeeder at h
  have hl : lv_has ls 3 [(0, .ref (o 0)), (1, .int x1)] := hl
  refine lv_aload_n hx hb dX5_leastFeeder_0 rfl (lv_at hl 0 rfl) ?_
  refine lv_iload_n hx hb dX5_leastFeeder_1 rfl (lv_at hl 1 rfl) ?_
  obtain ⟨r_1, c_2, h⟩ := bd_ok h
  refine x_Vi (As := [.int x1]) (w' := fl [mB G o v]) X hw (m_X5_isSection (G := G) (l := l) (o := o) c_2) Cut.all 0 0 rfl rfl rfl (cwV 1 hts gX5_leastFeeder_X5_isSection rfl rfl rfl hd_X5_isSection ⟨Nat.le_of_ble_eq_true rfl, Nat.le_of_ble_eq_true rfl⟩) rfl hl.1 rfl (Nat.le_of_ble_eq_true rfl) dX5_leastFeeder_2 ⟨Nat.le_of_ble_eq_true rfl, Nat.le_of_ble_eq_true rfl⟩ (fun H locs hw => ?_)
  refine lv_if_ne (tgt := 11) hx hb dX5_leastFeeder_5 (by decide) (fun k_3 => ?_) (fun k_3 => ?_)
  · have h := br_no h k_3
    refine lv_aload_n hx hb dX5_leastFeeder_11 rfl (lv_at hl 0 rfl) ?_
    obtain ⟨r_4, c_5, h⟩ := bd_ok h
    refine x_Vi (As := []) (w' := fl [mB G o v]) X hw (m_X5_isFull (G := G) (l := l) (o := o) c_5) Cut.all 0 0 rfl rfl rfl (cwV 0 hts gX5_leastFeeder_X5_isFull rfl rfl rfl hd_X5_isFull ⟨Nat.le_of_ble_eq_true rfl, Nat.le_of_ble_eq_true rfl⟩) rfl hl.1 rfl (Nat.le_of_ble_eq_true rfl) dX5_leastFeeder_12 ⟨Nat.le_of_ble_eq_true rfl, Nat.le_of_ble_eq_true rfl⟩ (fun H locs hw => ?_)
    refine lv_if_eq (tgt := 21) hx hb dX5_leastFeeder_15 (by decide) (fun k_6 => ?_) (fun k_6 => ?_)
    · have h := br_yes h k_6
      refine lv_iconst (v := 1) hx hb dX5_leastFeeder_21 (by decide) ?_
      refine lv_istore_n (lv' := [(2, .int 1), (0, .ref (o 0)), (1, .int x1)]) hx hb dX5_leastFeeder_22 rfl hl (by decide) rfl (fun ls hl => ?_)
      exact w_X5_leastFeeder_b23 X FU v 1 _ _ _ h hw (lv_sub hl [1, 2, 0] rfl)
    · have h := br_no h k_6
      refine lv_bipush (v := (-5)) hx hb dX5_leastFeeder_18 (by decide) ?_
      cases h
      exact x_iret X (vp_nar_int _) hw rfl rfl dX5_leastFeeder_20
  · have h := br_yes h k_3
    refine lv_bipush (v := (-2)) hx hb dX5_leastFeeder_8 (by decide) ?_
    cases h
    exact x_iret X (vp_nar_int _) hw rfl rfl dX5_leastFeeder_10

def rX5_bestFeeder : Room := { frames := 5, cells := 0, slots := 0, locals := 114 }
theorem hd_X5_bestFeeder : yX5_bestFeeder.cls = RX5 ∧ yX5_bestFeeder.cls ≠ "java/lang/invoke/MethodHandle" ∧ yX5_bestFeeder.cls ≠ "java/lang/invoke/VarHandle" ∧ (parseMethodDescriptor yX5_bestFeeder.desc).map (fun d => d.parameters.length) = some 0 := by decide +kernel
theorem in_X5_bestFeeder_5 : ∀ w ∈ u_ws RX5 TX5 12, w ∈ wsX5_bestFeeder := fun w h => (List.mem_cons_of_mem _ (List.mem_append_right _ h))
noncomputable def f_X5_bestFeeder_b20  (k12 : MV → Int32 → Option (Int32 × MV)) (x1 : Int32) : Nat → MV → Int32 → Option (Int32 × MV)
  | 0 => fun _ _ => none
  | n + 1 => fun v x2 =>
    ck (vp_in 0 644) <|
    br (((M_ro v) (0 : Int32).toNatClampNeg) ≤ x2)
      (nm (x1 + 1 : Int32) fun t_3 =>
       k12 v t_3)
      (bd2 (f_X5_isSoundWith v x1 x2) fun r_4 v_5 =>
       br (r_4 = 0)
         (nm (x2 + 1 : Int32) fun t_8 =>
          f_X5_bestFeeder_b20 k12 x1 n v_5 t_8)
         (some (((100 * x1) + x2), v_5)))
set_option maxHeartbeats 4000000 in
set_option maxRecDepth 100000 in
theorem w_X5_bestFeeder_b20 {G : GG} {l : Launch} {p : Program} {e : Env} {s : State} {m : MethodId} {args : Array Value} {below : List Frame} {meth : Method} {c : Code} {A : Nat → Prop} {o : Nat → Nat} {x1 : Int32} {r : Int32} {zv : MV}  {k12 : MV → Int32 → Option (Int32 × MV)} (X : Cx p s m args meth c cX5_bestFeeder 3 (some .int) wsX5_bestFeeder RX5 G A) (hk12 : ∀ (v : MV) (x1 : Int32) (H : Heap) (locs : List Loc) (ls : Array Slot), k12 v x1 = some (r, zv) → Wd G A s H locs (fl [mB G o v]) → lv_has ls 3 [(0, .ref (o 0)), (1, .int x1)] → W p l e rX5_bestFeeder s m args below meth c H locs 0 0 (MQ below (Qi G A r (fl [mB G o zv])) args s 0 0 A) (F0 m 12 ls [])) :
    ∀ (n : Nat) (v : MV) (x2 : Int32) (H : Heap) (locs : List Loc) (ls : Array Slot), f_X5_bestFeeder_b20 k12 x1 n v x2 = some (r, zv) → Wd G A s H locs (fl [mB G o v]) → lv_has ls 3 [(0, .ref (o 0)), (1, .int x1), (2, .int x2)] → W p l e rX5_bestFeeder s m args below meth c H locs 0 0 (MQ below (Qi G A r (fl [mB G o zv])) args s 0 0 A) (F0 m 20 ls []) := by
  obtain ⟨⟨hx, hb, hml, hown, hts⟩, hK, hr, hlk, hA⟩ := id X
  intro n
  induction n with
  | zero =>
    intro v x2 H locs ls h
    rw [f_X5_bestFeeder_b20] at h
    cases h
  | succ n ih =>
    intro v x2 H locs ls h hw hl
    rw [f_X5_bestFeeder_b20] at h
    refine lv_iload_n hx hb dX5_bestFeeder_20 rfl (lv_at hl 2 rfl) ?_
    refine lv_aload_n hx hb dX5_bestFeeder_21 rfl (lv_at hl 0 rfl) ?_
    refine x_get (v := .ref (o 1)) 0 0 X hw in_X5_bestFeeder_5 rfl rfl rfl 0 (by decide) (List.mem_of_getElem? (i := 1) rfl) rfl rfl dX5_bestFeeder_22 ?_
    refine lv_iconst (v := 0) hx hb dX5_bestFeeder_25 (by decide) ?_
    obtain ⟨k_1, h⟩ := ck_ok h
    refine x_iald (f := (M_ro v)) 0 1 X hw rfl rfl k_1 dX5_bestFeeder_26 ?_
    refine lv_icmp_ge (tgt := 52) hx hb dX5_bestFeeder_27 (by decide) (fun k_2 => ?_) (fun k_2 => ?_)
    · have h := br_yes h k_2
      obtain ⟨t_3, et_3, h⟩ := nm_ok h
      refine lv_iinc (v := t_3) (lv' := [(1, .int t_3), (0, .ref (o 0)), (2, .int x2)]) hx hb dX5_bestFeeder_52 hl (k := 1) rfl (by rw [et_3]; rfl) (by decide) rfl (fun ls hl => ?_)
      refine lv_goto (tgt := 12) hx hb dX5_bestFeeder_55 (by decide) ?_
      exact hk12 v t_3 _ _ _ h hw (lv_sub hl [1, 0] rfl)
    · have h := br_no h k_2
      refine lv_aload_n hx hb dX5_bestFeeder_30 rfl (lv_at hl 0 rfl) ?_
      refine lv_iload_n hx hb dX5_bestFeeder_31 rfl (lv_at hl 1 rfl) ?_
      refine lv_iload_n hx hb dX5_bestFeeder_32 rfl (lv_at hl 2 rfl) ?_
      obtain ⟨r_4, v_5, c_6, h⟩ := bd2_ok h
      refine x_Vi (As := [.int x1, .int x2]) (w' := fl [mB G o v_5]) X hw (m_X5_isSoundWith (G := G) (l := l) (o := o) c_6) Cut.all 0 0 rfl rfl rfl (cwV 2 hts gX5_bestFeeder_X5_isSoundWith rfl rfl rfl hd_X5_isSoundWith ⟨Nat.le_of_ble_eq_true rfl, Nat.le_of_ble_eq_true rfl⟩) rfl hl.1 rfl (Nat.le_of_ble_eq_true rfl) dX5_bestFeeder_33 ⟨Nat.le_of_ble_eq_true rfl, Nat.le_of_ble_eq_true rfl⟩ (fun H locs hw => ?_)
      refine lv_if_eq (tgt := 46) hx hb dX5_bestFeeder_36 (by decide) (fun k_7 => ?_) (fun k_7 => ?_)
      · have h := br_yes h k_7
        obtain ⟨t_8, et_8, h⟩ := nm_ok h
        refine lv_iinc (v := t_8) (lv' := [(2, .int t_8), (0, .ref (o 0)), (1, .int x1)]) hx hb dX5_bestFeeder_46 hl (k := 2) rfl (by rw [et_8]; rfl) (by decide) rfl (fun ls hl => ?_)
        refine lv_goto (tgt := 20) hx hb dX5_bestFeeder_49 (by decide) ?_
        exact ih v_5 t_8 _ _ _ h hw (lv_sub hl [1, 2, 0] rfl)
      · have h := br_no h k_7
        refine lv_bipush (v := 100) hx hb dX5_bestFeeder_39 (by decide) ?_
        refine lv_iload_n hx hb dX5_bestFeeder_41 rfl (lv_at hl 1 rfl) ?_
        refine lv_imul hx hb dX5_bestFeeder_42 ?_
        refine lv_iload_n hx hb dX5_bestFeeder_43 rfl (lv_at hl 2 rfl) ?_
        refine lv_iadd hx hb dX5_bestFeeder_44 ?_
        cases h
        exact x_iret X (vp_nar_int _) hw rfl rfl dX5_bestFeeder_45
noncomputable def f_X5_bestFeeder_b12   : Nat → MV → Int32 → Option (Int32 × MV)
  | 0 => fun _ _ => none
  | n + 1 => fun v x1 =>
    br (15 < x1)
      (some ((-1), v))
      (f_X5_bestFeeder_b20 (f_X5_bestFeeder_b12 n) x1 FU v 0)
set_option maxHeartbeats 4000000 in
set_option maxRecDepth 100000 in
theorem w_X5_bestFeeder_b12 {G : GG} {l : Launch} {p : Program} {e : Env} {s : State} {m : MethodId} {args : Array Value} {below : List Frame} {meth : Method} {c : Code} {A : Nat → Prop} {o : Nat → Nat}  {r : Int32} {zv : MV}   (X : Cx p s m args meth c cX5_bestFeeder 3 (some .int) wsX5_bestFeeder RX5 G A)  :
    ∀ (n : Nat) (v : MV) (x1 : Int32) (H : Heap) (locs : List Loc) (ls : Array Slot), f_X5_bestFeeder_b12 n v x1 = some (r, zv) → Wd G A s H locs (fl [mB G o v]) → lv_has ls 3 [(0, .ref (o 0)), (1, .int x1)] → W p l e rX5_bestFeeder s m args below meth c H locs 0 0 (MQ below (Qi G A r (fl [mB G o zv])) args s 0 0 A) (F0 m 12 ls []) := by
  obtain ⟨⟨hx, hb, hml, hown, hts⟩, hK, hr, hlk, hA⟩ := id X
  intro n
  induction n with
  | zero =>
    intro v x1 H locs ls h
    rw [f_X5_bestFeeder_b12] at h
    cases h
  | succ n ih =>
    intro v x1 H locs ls h hw hl
    rw [f_X5_bestFeeder_b12] at h
    refine lv_iload_n hx hb dX5_bestFeeder_12 rfl (lv_at hl 1 rfl) ?_
    refine lv_bipush (v := 15) hx hb dX5_bestFeeder_13 (by decide) ?_
    refine lv_icmp_gt (tgt := 58) hx hb dX5_bestFeeder_15 (by decide) (fun k_1 => ?_) (fun k_1 => ?_)
    · have h := br_yes h k_1
      refine lv_iconst (v := (-1)) hx hb dX5_bestFeeder_58 (by decide) ?_
      cases h
      exact x_iret X (vp_nar_int _) hw rfl rfl dX5_bestFeeder_59
    · have h := br_no h k_1
      refine lv_iconst (v := 0) hx hb dX5_bestFeeder_18 (by decide) ?_
      refine lv_istore_n (lv' := [(2, .int 0), (0, .ref (o 0)), (1, .int x1)]) hx hb dX5_bestFeeder_19 rfl hl (by decide) rfl (fun ls hl => ?_)
      exact w_X5_bestFeeder_b20 X ih FU v 0 _ _ _ h hw (lv_sub hl [1, 2, 0] rfl)
noncomputable def f_X5_bestFeeder  (v : MV)  : Option (Int32 × MV) :=
  bd (f_X5_isFull v) fun r_1 =>
  br (r_1 = 0)
    (f_X5_bestFeeder_b12 FU v 1)
    (some ((-5), v))
set_option maxHeartbeats 4000000 in
set_option maxRecDepth 100000 in
theorem m_X5_bestFeeder {G : GG} {l : Launch} {o : Nat → Nat} {v : MV}  {r : Int32} {zv : MV} (h : f_X5_bestFeeder v = some (r, zv)) : Ci G l yX5_bestFeeder wsX5_bestFeeder rX5_bestFeeder [.ref (o 0)] (fl [mB G o v]) r (fl [mB G o zv]) := by
  refine Ci.intro cX5_bestFeeder 3 (some .int) RX5 (by decide) rfl rfl (Nat.le_of_ble_eq_true rfl) ?_
  intro p e s m below meth c A ls X hw hl
  obtain ⟨⟨hx, hb, hml, hown, hts⟩, hK, hr, hlk, hA⟩ := id X
  unfold f_X5_bestFeeder at h
  have hl : lv_has ls 3 [(0, .ref (o 0))] := hl
  refine lv_aload_n hx hb dX5_bestFeeder_0 rfl (lv_at hl 0 rfl) ?_
  obtain ⟨r_1, c_2, h⟩ := bd_ok h
  refine x_Vi (As := []) (w' := fl [mB G o v]) X hw (m_X5_isFull (G := G) (l := l) (o := o) c_2) Cut.all 0 0 rfl rfl rfl (cwV 0 hts gX5_bestFeeder_X5_isFull rfl rfl rfl hd_X5_isFull ⟨Nat.le_of_ble_eq_true rfl, Nat.le_of_ble_eq_true rfl⟩) rfl hl.1 rfl (Nat.le_of_ble_eq_true rfl) dX5_bestFeeder_1 ⟨Nat.le_of_ble_eq_true rfl, Nat.le_of_ble_eq_true rfl⟩ (fun H locs hw => ?_)
  refine lv_if_eq (tgt := 10) hx hb dX5_bestFeeder_4 (by decide) (fun k_3 => ?_) (fun k_3 => ?_)
  · have h := br_yes h k_3
    refine lv_iconst (v := 1) hx hb dX5_bestFeeder_10 (by decide) ?_
    refine lv_istore_n (lv' := [(1, .int 1), (0, .ref (o 0))]) hx hb dX5_bestFeeder_11 rfl hl (by decide) rfl (fun ls hl => ?_)
    exact w_X5_bestFeeder_b12 X FU v 1 _ _ _ h hw (lv_sub hl [1, 0] rfl)
  · have h := br_no h k_3
    refine lv_bipush (v := (-5)) hx hb dX5_bestFeeder_7 (by decide) ?_
    cases h
    exact x_iret X (vp_nar_int _) hw rfl rfl dX5_bestFeeder_9

def rX5_excessesWith : Room := { frames := 4, cells := 0, slots := 0, locals := 91 }
theorem hd_X5_excessesWith : yX5_excessesWith.cls = RX5 ∧ yX5_excessesWith.cls ≠ "java/lang/invoke/MethodHandle" ∧ yX5_excessesWith.cls ≠ "java/lang/invoke/VarHandle" ∧ (parseMethodDescriptor yX5_excessesWith.desc).map (fun d => d.parameters.length) = some 2 := by decide +kernel
theorem in_X5_excessesWith_5 : ∀ w ∈ u_ws RX5 TX5 12, w ∈ wsX5_excessesWith := fun w h => (List.mem_cons_of_mem _ (List.mem_append_right _ h))
noncomputable def f_X5_excessesWith  (v : MV) (x1 : Int32) (x2 : Int32) : Option (Int32 × MV) :=
  bd (f_X5_of v x1 2) fun r_1 =>
  nm (((4 + (4 * x1)) + 2) : Int32) fun t_3 =>
  ck (vp_in t_3 644) <|
  nm (upd (M_ro v) t_3.toNatClampNeg x2) fun g_5 =>
  bd2 (f_X5_excesses (g_5, (M_sa v), (M_od v), (M_st v), (M_ne v), (M_fd v), (M_tx v), (M_le v), (M_at v), (M_nu v), (M_it v), (M_h v))) fun r_6 v_7 =>
  nm (((4 + (4 * x1)) + 2) : Int32) fun t_9 =>
  ck (vp_in t_9 644) <|
  nm (upd (M_ro v_7) t_9.toNatClampNeg r_1) fun g_11 =>
  some (r_6, (g_11, (M_sa v_7), (M_od v_7), (M_st v_7), (M_ne v_7), (M_fd v_7), (M_tx v_7), (M_le v_7), (M_at v_7), (M_nu v_7), (M_it v_7), (M_h v_7)))
set_option maxHeartbeats 4000000 in
set_option maxRecDepth 100000 in
theorem m_X5_excessesWith {G : GG} {l : Launch} {o : Nat → Nat} {v : MV} {x1 : Int32} {x2 : Int32} {r : Int32} {zv : MV} (h : f_X5_excessesWith v x1 x2 = some (r, zv)) : Ci G l yX5_excessesWith wsX5_excessesWith rX5_excessesWith [.ref (o 0), .int x1, .int x2] (fl [mB G o v]) r (fl [mB G o zv]) := by
  refine Ci.intro cX5_excessesWith 5 (some .int) RX5 (by decide) rfl rfl (Nat.le_of_ble_eq_true rfl) ?_
  intro p e s m below meth c A ls X hw hl
  obtain ⟨⟨hx, hb, hml, hown, hts⟩, hK, hr, hlk, hA⟩ := id X
  unfold f_X5_excessesWith at h
  have hl : lv_has ls 5 [(0, .ref (o 0)), (1, .int x1), (2, .int x2)] := hl
  refine lv_aload_n hx hb dX5_excessesWith_0 rfl (lv_at hl 0 rfl) ?_
  refine lv_iload_n hx hb dX5_excessesWith_1 rfl (lv_at hl 1 rfl) ?_
  refine lv_iconst (v := 2) hx hb dX5_excessesWith_2 (by decide) ?_
  obtain ⟨r_1, c_2, h⟩ := bd_ok h
  refine x_Vi (As := [.int x1, .int 2]) (w' := fl [mB G o v]) X hw (m_X5_of (G := G) (l := l) (o := o) c_2) Cut.all 0 0 rfl rfl rfl (cwV 2 hts gX5_excessesWith_X5_of rfl rfl rfl hd_X5_of ⟨Nat.le_of_ble_eq_true rfl, Nat.le_of_ble_eq_true rfl⟩) rfl hl.1 rfl (Nat.le_of_ble_eq_true rfl) dX5_excessesWith_3 ⟨Nat.le_of_ble_eq_true rfl, Nat.le_of_ble_eq_true rfl⟩ (fun H locs hw => ?_)
  refine lv_istore_n (lv' := [(3, .int r_1), (0, .ref (o 0)), (1, .int x1), (2, .int x2)]) hx hb dX5_excessesWith_6 rfl hl (by decide) rfl (fun ls hl => ?_)
  refine lv_aload_n hx hb dX5_excessesWith_7 rfl (lv_at hl 1 rfl) ?_
  refine x_get (v := .ref (o 1)) 0 0 X hw in_X5_excessesWith_5 rfl rfl rfl 0 (by decide) (List.mem_of_getElem? (i := 1) rfl) rfl rfl dX5_excessesWith_8 ?_
  refine lv_iconst (v := 4) hx hb dX5_excessesWith_11 (by decide) ?_
  refine lv_iconst (v := 4) hx hb dX5_excessesWith_12 (by decide) ?_
  refine lv_iload_n hx hb dX5_excessesWith_13 rfl (lv_at hl 2 rfl) ?_
  refine lv_imul hx hb dX5_excessesWith_14 ?_
  refine lv_iadd hx hb dX5_excessesWith_15 ?_
  refine lv_iconst (v := 2) hx hb dX5_excessesWith_16 (by decide) ?_
  refine lv_iadd hx hb dX5_excessesWith_17 ?_
  refine lv_iload_n hx hb dX5_excessesWith_18 rfl (lv_at hl 3 rfl) ?_
  obtain ⟨t_3, et_3, h⟩ := nm_ok h
  rw [← et_3]
  obtain ⟨k_4, h⟩ := ck_ok h
  obtain ⟨g_5, eg_5, h⟩ := nm_ok h
  refine x_iast (f := (M_ro v)) (bs' := [mB G o (g_5, (M_sa v), (M_od v), (M_st v), (M_ne v), (M_fd v), (M_tx v), (M_le v), (M_at v), (M_nu v), (M_it v), (M_h v))]) 0 1 X hw rfl rfl k_4 dX5_excessesWith_19 (by rw [eg_5]; rfl) (fun H locs hw => ?_)
  refine lv_aload_n hx hb dX5_excessesWith_20 rfl (lv_at hl 1 rfl) ?_
  obtain ⟨r_6, v_7, c_8, h⟩ := bd2_ok h
  refine x_Vi (As := []) (w' := fl [mB G o v_7]) X hw (m_X5_excesses (G := G) (l := l) (o := o) c_8) Cut.all 0 0 rfl rfl rfl (cwV 0 hts gX5_excessesWith_X5_excesses rfl rfl rfl hd_X5_excesses ⟨Nat.le_of_ble_eq_true rfl, Nat.le_of_ble_eq_true rfl⟩) rfl hl.1 rfl (Nat.le_of_ble_eq_true rfl) dX5_excessesWith_21 ⟨Nat.le_of_ble_eq_true rfl, Nat.le_of_ble_eq_true rfl⟩ (fun H locs hw => ?_)
  refine lv_istore (lv' := [(4, .int r_6), (3, .int r_1), (0, .ref (o 0)), (1, .int x1), (2, .int x2)]) hx hb dX5_excessesWith_24 hl (by decide) rfl (fun ls hl => ?_)
  refine lv_aload_n hx hb dX5_excessesWith_26 rfl (lv_at hl 2 rfl) ?_
  refine x_get (v := .ref (o 1)) 0 0 X hw in_X5_excessesWith_5 rfl rfl rfl 0 (by decide) (List.mem_of_getElem? (i := 1) rfl) rfl rfl dX5_excessesWith_27 ?_
  refine lv_iconst (v := 4) hx hb dX5_excessesWith_30 (by decide) ?_
  refine lv_iconst (v := 4) hx hb dX5_excessesWith_31 (by decide) ?_
  refine lv_iload_n hx hb dX5_excessesWith_32 rfl (lv_at hl 3 rfl) ?_
  refine lv_imul hx hb dX5_excessesWith_33 ?_
  refine lv_iadd hx hb dX5_excessesWith_34 ?_
  refine lv_iconst (v := 2) hx hb dX5_excessesWith_35 (by decide) ?_
  refine lv_iadd hx hb dX5_excessesWith_36 ?_
  refine lv_iload_n hx hb dX5_excessesWith_37 rfl (lv_at hl 1 rfl) ?_
  obtain ⟨t_9, et_9, h⟩ := nm_ok h
  rw [← et_9]
  obtain ⟨k_10, h⟩ := ck_ok h
  obtain ⟨g_11, eg_11, h⟩ := nm_ok h
  refine x_iast (f := (M_ro v_7)) (bs' := [mB G o (g_11, (M_sa v_7), (M_od v_7), (M_st v_7), (M_ne v_7), (M_fd v_7), (M_tx v_7), (M_le v_7), (M_at v_7), (M_nu v_7), (M_it v_7), (M_h v_7))]) 0 1 X hw rfl rfl k_10 dX5_excessesWith_38 (by rw [eg_11]; rfl) (fun H locs hw => ?_)
  refine lv_iload hx hb dX5_excessesWith_39 (lv_at hl 0 rfl) ?_
  cases h
  exact x_iret X (vp_nar_int _) hw rfl rfl dX5_excessesWith_41

def rX5_leastChill : Room := { frames := 5, cells := 0, slots := 0, locals := 115 }
theorem hd_X5_leastChill : yX5_leastChill.cls = RX5 ∧ yX5_leastChill.cls ≠ "java/lang/invoke/MethodHandle" ∧ yX5_leastChill.cls ≠ "java/lang/invoke/VarHandle" ∧ (parseMethodDescriptor yX5_leastChill.desc).map (fun d => d.parameters.length) = some 1 := by decide +kernel
noncomputable def f_X5_leastChill_b35  (v : MV) (x2 : Int32) : Option (Int32 × MV) :=
  br (500 < x2)
    (some ((-1), v))
    (some (x2, v))
set_option maxHeartbeats 4000000 in
set_option maxRecDepth 100000 in
theorem w_X5_leastChill_b35 {G : GG} {l : Launch} {p : Program} {e : Env} {s : State} {m : MethodId} {args : Array Value} {below : List Frame} {meth : Method} {c : Code} {A : Nat → Prop} {o : Nat → Nat}  {r : Int32} {zv : MV}   (X : Cx p s m args meth c cX5_leastChill 3 (some .int) wsX5_leastChill RX5 G A)  :
    ∀ (v : MV) (x2 : Int32) (H : Heap) (locs : List Loc) (ls : Array Slot), f_X5_leastChill_b35 v x2 = some (r, zv) → Wd G A s H locs (fl [mB G o v]) → lv_has ls 3 [(2, .int x2)] → W p l e rX5_leastChill s m args below meth c H locs 0 0 (MQ below (Qi G A r (fl [mB G o zv])) args s 0 0 A) (F0 m 35 ls []) := by
  obtain ⟨⟨hx, hb, hml, hown, hts⟩, hK, hr, hlk, hA⟩ := id X
  intro v x2 H locs ls h hw hl
  unfold f_X5_leastChill_b35 at h
  refine lv_iload_n hx hb dX5_leastChill_35 rfl (lv_at hl 0 rfl) ?_
  refine lv_sipush (v := 500) hx hb dX5_leastChill_36 (by decide) ?_
  refine lv_icmp_gt (tgt := 46) hx hb dX5_leastChill_39 (by decide) (fun k_1 => ?_) (fun k_1 => ?_)
  · have h := br_yes h k_1
    refine lv_iconst (v := (-1)) hx hb dX5_leastChill_46 (by decide) ?_
    cases h
    exact x_iret X (vp_nar_int _) hw rfl rfl dX5_leastChill_47
  · have h := br_no h k_1
    refine lv_iload_n hx hb dX5_leastChill_42 rfl (lv_at hl 0 rfl) ?_
    refine lv_goto (tgt := 47) hx hb dX5_leastChill_43 (by decide) ?_
    cases h
    exact x_iret X (vp_nar_int _) hw rfl rfl dX5_leastChill_47
noncomputable def f_X5_leastChill_b13  (x1 : Int32) : Nat → MV → Int32 → Option (Int32 × MV)
  | 0 => fun _ _ => none
  | n + 1 => fun v x2 =>
    br (500 < x2)
      (f_X5_leastChill_b35 v x2)
      (bd2 (f_X5_excessesWith v x1 x2) fun r_2 v_3 =>
       br (r_2 ≤ 0)
         (f_X5_leastChill_b35 v_3 x2)
         (nm (x2 + 1 : Int32) fun t_6 =>
          f_X5_leastChill_b13 x1 n v_3 t_6))
set_option maxHeartbeats 4000000 in
set_option maxRecDepth 100000 in
theorem w_X5_leastChill_b13 {G : GG} {l : Launch} {p : Program} {e : Env} {s : State} {m : MethodId} {args : Array Value} {below : List Frame} {meth : Method} {c : Code} {A : Nat → Prop} {o : Nat → Nat} {x1 : Int32} {r : Int32} {zv : MV}   (X : Cx p s m args meth c cX5_leastChill 3 (some .int) wsX5_leastChill RX5 G A)  :
    ∀ (n : Nat) (v : MV) (x2 : Int32) (H : Heap) (locs : List Loc) (ls : Array Slot), f_X5_leastChill_b13 x1 n v x2 = some (r, zv) → Wd G A s H locs (fl [mB G o v]) → lv_has ls 3 [(0, .ref (o 0)), (1, .int x1), (2, .int x2)] → W p l e rX5_leastChill s m args below meth c H locs 0 0 (MQ below (Qi G A r (fl [mB G o zv])) args s 0 0 A) (F0 m 13 ls []) := by
  obtain ⟨⟨hx, hb, hml, hown, hts⟩, hK, hr, hlk, hA⟩ := id X
  intro n
  induction n with
  | zero =>
    intro v x2 H locs ls h
    rw [f_X5_leastChill_b13] at h
    cases h
  | succ n ih =>
    intro v x2 H locs ls h hw hl
    rw [f_X5_leastChill_b13] at h
    refine lv_iload_n hx hb dX5_leastChill_13 rfl (lv_at hl 2 rfl) ?_
    refine lv_sipush (v := 500) hx hb dX5_leastChill_14 (by decide) ?_
    refine lv_icmp_gt (tgt := 35) hx hb dX5_leastChill_17 (by decide) (fun k_1 => ?_) (fun k_1 => ?_)
    · have h := br_yes h k_1
      exact w_X5_leastChill_b35 X v x2 _ _ _ h hw (lv_sub hl [2] rfl)
    · have h := br_no h k_1
      refine lv_aload_n hx hb dX5_leastChill_20 rfl (lv_at hl 0 rfl) ?_
      refine lv_iload_n hx hb dX5_leastChill_21 rfl (lv_at hl 1 rfl) ?_
      refine lv_iload_n hx hb dX5_leastChill_22 rfl (lv_at hl 2 rfl) ?_
      obtain ⟨r_2, v_3, c_4, h⟩ := bd2_ok h
      refine x_Vi (As := [.int x1, .int x2]) (w' := fl [mB G o v_3]) X hw (m_X5_excessesWith (G := G) (l := l) (o := o) c_4) Cut.all 0 0 rfl rfl rfl (cwV 2 hts gX5_leastChill_X5_excessesWith rfl rfl rfl hd_X5_excessesWith ⟨Nat.le_of_ble_eq_true rfl, Nat.le_of_ble_eq_true rfl⟩) rfl hl.1 rfl (Nat.le_of_ble_eq_true rfl) dX5_leastChill_23 ⟨Nat.le_of_ble_eq_true rfl, Nat.le_of_ble_eq_true rfl⟩ (fun H locs hw => ?_)
      refine lv_if_le (tgt := 35) hx hb dX5_leastChill_26 (by decide) (fun k_5 => ?_) (fun k_5 => ?_)
      · have h := br_yes h k_5
        exact w_X5_leastChill_b35 X v_3 x2 _ _ _ h hw (lv_sub hl [2] rfl)
      · have h := br_no h k_5
        obtain ⟨t_6, et_6, h⟩ := nm_ok h
        refine lv_iinc (v := t_6) (lv' := [(2, .int t_6), (0, .ref (o 0)), (1, .int x1)]) hx hb dX5_leastChill_29 hl (k := 2) rfl (by rw [et_6]; rfl) (by decide) rfl (fun ls hl => ?_)
        refine lv_goto (tgt := 13) hx hb dX5_leastChill_32 (by decide) ?_
        exact ih v_3 t_6 _ _ _ h hw (lv_sub hl [1, 2, 0] rfl)
noncomputable def f_X5_leastChill  (v : MV) (x1 : Int32) : Option (Int32 × MV) :=
  bd (f_X5_isSection v x1) fun r_1 =>
  br (r_1 = 0)
    (some ((-2), v))
    (f_X5_leastChill_b13 x1 FU v 0)
set_option maxHeartbeats 4000000 in
set_option maxRecDepth 100000 in
theorem m_X5_leastChill {G : GG} {l : Launch} {o : Nat → Nat} {v : MV} {x1 : Int32} {r : Int32} {zv : MV} (h : f_X5_leastChill v x1 = some (r, zv)) : Ci G l yX5_leastChill wsX5_leastChill rX5_leastChill [.ref (o 0), .int x1] (fl [mB G o v]) r (fl [mB G o zv]) := by
  refine Ci.intro cX5_leastChill 3 (some .int) RX5 (by decide) rfl rfl (Nat.le_of_ble_eq_true rfl) ?_
  intro p e s m below meth c A ls X hw hl
  obtain ⟨⟨hx, hb, hml, hown, hts⟩, hK, hr, hlk, hA⟩ := id X
  unfold f_X5_leastChill at h
  have hl : lv_has ls 3 [(0, .ref (o 0)), (1, .int x1)] := hl
  refine lv_aload_n hx hb dX5_leastChill_0 rfl (lv_at hl 0 rfl) ?_
  refine lv_iload_n hx hb dX5_leastChill_1 rfl (lv_at hl 1 rfl) ?_
  obtain ⟨r_1, c_2, h⟩ := bd_ok h
  refine x_Vi (As := [.int x1]) (w' := fl [mB G o v]) X hw (m_X5_isSection (G := G) (l := l) (o := o) c_2) Cut.all 0 0 rfl rfl rfl (cwV 1 hts gX5_leastChill_X5_isSection rfl rfl rfl hd_X5_isSection ⟨Nat.le_of_ble_eq_true rfl, Nat.le_of_ble_eq_true rfl⟩) rfl hl.1 rfl (Nat.le_of_ble_eq_true rfl) dX5_leastChill_2 ⟨Nat.le_of_ble_eq_true rfl, Nat.le_of_ble_eq_true rfl⟩ (fun H locs hw => ?_)
  refine lv_if_ne (tgt := 11) hx hb dX5_leastChill_5 (by decide) (fun k_3 => ?_) (fun k_3 => ?_)
  · have h := br_no h k_3
    refine lv_iconst (v := 0) hx hb dX5_leastChill_11 (by decide) ?_
    refine lv_istore_n (lv' := [(2, .int 0), (0, .ref (o 0)), (1, .int x1)]) hx hb dX5_leastChill_12 rfl hl (by decide) rfl (fun ls hl => ?_)
    exact w_X5_leastChill_b13 X FU v 0 _ _ _ h hw (lv_sub hl [1, 2, 0] rfl)
  · have h := br_yes h k_3
    refine lv_bipush (v := (-2)) hx hb dX5_leastChill_8 (by decide) ?_
    cases h
    exact x_iret X (vp_nar_int _) hw rfl rfl dX5_leastChill_10

def rX5_excessWith : Room := { frames := 5, cells := 0, slots := 0, locals := 115 }
theorem hd_X5_excessWith : yX5_excessWith.cls = RX5 ∧ yX5_excessWith.cls ≠ "java/lang/invoke/MethodHandle" ∧ yX5_excessWith.cls ≠ "java/lang/invoke/VarHandle" ∧ (parseMethodDescriptor yX5_excessWith.desc).map (fun d => d.parameters.length) = some 2 := by decide +kernel
noncomputable def f_X5_excessWith  (v : MV) (x1 : Int32) (x2 : Int32) : Option (Int32 × MV) :=
  bd (f_X5_isSection v x1) fun r_1 =>
  br (r_1 = 0)
    (some ((-2), v))
    (bd (f_X5_in x2 0 500) fun r_4 =>
     br (r_4 = 0)
       (some ((-3), v))
       (bd2 (f_X5_excessesWith v x1 x2) fun r_7 v_8 =>
        some (r_7, v_8)))
set_option maxHeartbeats 4000000 in
set_option maxRecDepth 100000 in
theorem m_X5_excessWith {G : GG} {l : Launch} {o : Nat → Nat} {v : MV} {x1 : Int32} {x2 : Int32} {r : Int32} {zv : MV} (h : f_X5_excessWith v x1 x2 = some (r, zv)) : Ci G l yX5_excessWith wsX5_excessWith rX5_excessWith [.ref (o 0), .int x1, .int x2] (fl [mB G o v]) r (fl [mB G o zv]) := by
  refine Ci.intro cX5_excessWith 3 (some .int) RX5 (by decide) rfl rfl (Nat.le_of_ble_eq_true rfl) ?_
  intro p e s m below meth c A ls X hw hl
  obtain ⟨⟨hx, hb, hml, hown, hts⟩, hK, hr, hlk, hA⟩ := id X
  unfold f_X5_excessWith at h
  have hl : lv_has ls 3 [(0, .ref (o 0)), (1, .int x1), (2, .int x2)] := hl
  refine lv_aload_n hx hb dX5_excessWith_0 rfl (lv_at hl 0 rfl) ?_
  refine lv_iload_n hx hb dX5_excessWith_1 rfl (lv_at hl 1 rfl) ?_
  obtain ⟨r_1, c_2, h⟩ := bd_ok h
  refine x_Vi (As := [.int x1]) (w' := fl [mB G o v]) X hw (m_X5_isSection (G := G) (l := l) (o := o) c_2) Cut.all 0 0 rfl rfl rfl (cwV 1 hts gX5_excessWith_X5_isSection rfl rfl rfl hd_X5_isSection ⟨Nat.le_of_ble_eq_true rfl, Nat.le_of_ble_eq_true rfl⟩) rfl hl.1 rfl (Nat.le_of_ble_eq_true rfl) dX5_excessWith_2 ⟨Nat.le_of_ble_eq_true rfl, Nat.le_of_ble_eq_true rfl⟩ (fun H locs hw => ?_)
  refine lv_if_ne (tgt := 11) hx hb dX5_excessWith_5 (by decide) (fun k_3 => ?_) (fun k_3 => ?_)
  · have h := br_no h k_3
    refine lv_iload_n hx hb dX5_excessWith_11 rfl (lv_at hl 2 rfl) ?_
    refine lv_iconst (v := 0) hx hb dX5_excessWith_12 (by decide) ?_
    refine lv_sipush (v := 500) hx hb dX5_excessWith_13 (by decide) ?_
    obtain ⟨r_4, c_5, h⟩ := bd_ok h
    refine x_Si (As := [.int x2, .int 0, .int 500]) (w' := fl [mB G o v]) X hw (m_X5_in (G := G) (l := l) c_5) Cut.nil (va_cwS 3 hts gX5_excessWith_X5_in rfl rfl rfl hd_X5_in.2 ⟨Nat.le_of_ble_eq_true rfl, Nat.le_of_ble_eq_true rfl⟩) rfl hl.1 rfl (Nat.le_of_ble_eq_true rfl) dX5_excessWith_16 ⟨Nat.le_of_ble_eq_true rfl, Nat.le_of_ble_eq_true rfl⟩ (fun H locs hw => ?_)
    refine lv_if_eq (tgt := 31) hx hb dX5_excessWith_19 (by decide) (fun k_6 => ?_) (fun k_6 => ?_)
    · have h := br_yes h k_6
      refine lv_bipush (v := (-3)) hx hb dX5_excessWith_31 (by decide) ?_
      cases h
      exact x_iret X (vp_nar_int _) hw rfl rfl dX5_excessWith_33
    · have h := br_no h k_6
      refine lv_aload_n hx hb dX5_excessWith_22 rfl (lv_at hl 0 rfl) ?_
      refine lv_iload_n hx hb dX5_excessWith_23 rfl (lv_at hl 1 rfl) ?_
      refine lv_iload_n hx hb dX5_excessWith_24 rfl (lv_at hl 2 rfl) ?_
      obtain ⟨r_7, v_8, c_9, h⟩ := bd2_ok h
      refine x_Vi (As := [.int x1, .int x2]) (w' := fl [mB G o v_8]) X hw (m_X5_excessesWith (G := G) (l := l) (o := o) c_9) Cut.all 0 0 rfl rfl rfl (cwV 2 hts gX5_excessWith_X5_excessesWith rfl rfl rfl hd_X5_excessesWith ⟨Nat.le_of_ble_eq_true rfl, Nat.le_of_ble_eq_true rfl⟩) rfl hl.1 rfl (Nat.le_of_ble_eq_true rfl) dX5_excessWith_25 ⟨Nat.le_of_ble_eq_true rfl, Nat.le_of_ble_eq_true rfl⟩ (fun H locs hw => ?_)
      refine lv_goto (tgt := 33) hx hb dX5_excessWith_28 (by decide) ?_
      cases h
      exact x_iret X (vp_nar_int _) hw rfl rfl dX5_excessWith_33
  · have h := br_yes h k_3
    refine lv_bipush (v := (-2)) hx hb dX5_excessWith_8 (by decide) ?_
    cases h
    exact x_iret X (vp_nar_int _) hw rfl rfl dX5_excessWith_10

def rX5_undo : Room := { frames := 1, cells := 0, slots := 0, locals := 23 }
theorem hd_X5_undo : yX5_undo.cls = RX5 ∧ yX5_undo.cls ≠ "java/lang/invoke/MethodHandle" ∧ yX5_undo.cls ≠ "java/lang/invoke/VarHandle" ∧ (parseMethodDescriptor yX5_undo.desc).map (fun d => d.parameters.length) = some 0 := by decide +kernel
theorem in_X5_undo_5 : ∀ w ∈ u_ws RX5 TX5 12, w ∈ wsX5_undo := fun w h => (List.mem_cons_of_mem _ (List.mem_append_right _ h))
noncomputable def f_X5_undo  (v : MV)  : Option (Int32 × MV) :=
  br ((M_sa v) = 0)
    (some ((-4), v))
    (bd (f_X5_copies v (M_sa v) 0) fun v_2 =>
     nm (((M_sa v_2) - 1) : Int32) fun t_4 =>
     some (t_4, ((M_ro v_2), t_4, (M_od v_2), (M_st v_2), (M_ne v_2), (M_fd v_2), (M_tx v_2), (M_le v_2), (M_at v_2), (M_nu v_2), (M_it v_2), (M_h v_2))))
set_option maxHeartbeats 4000000 in
set_option maxRecDepth 100000 in
theorem m_X5_undo {G : GG} {l : Launch} {o : Nat → Nat} {v : MV}  {r : Int32} {zv : MV} (h : f_X5_undo v = some (r, zv)) : Ci G l yX5_undo wsX5_undo rX5_undo [.ref (o 0)] (fl [mB G o v]) r (fl [mB G o zv]) := by
  refine Ci.intro cX5_undo 1 (some .int) RX5 (by decide) rfl rfl (Nat.le_of_ble_eq_true rfl) ?_
  intro p e s m below meth c A ls X hw hl
  obtain ⟨⟨hx, hb, hml, hown, hts⟩, hK, hr, hlk, hA⟩ := id X
  unfold f_X5_undo at h
  have hl : lv_has ls 1 [(0, .ref (o 0))] := hl
  refine lv_aload_n hx hb dX5_undo_0 rfl (lv_at hl 0 rfl) ?_
  refine x_get (v := .int (M_sa v)) 0 0 X hw in_X5_undo_5 rfl rfl rfl 1 (by decide) (List.mem_of_getElem? (i := 1) rfl) rfl rfl dX5_undo_1 ?_
  refine lv_if_ne (tgt := 10) hx hb dX5_undo_4 (by decide) (fun k_1 => ?_) (fun k_1 => ?_)
  · have h := br_no h k_1
    refine lv_aload_n hx hb dX5_undo_10 rfl (lv_at hl 0 rfl) ?_
    refine lv_aload_n hx hb dX5_undo_11 rfl (lv_at hl 0 rfl) ?_
    refine x_get (v := .int (M_sa v)) 0 0 X hw in_X5_undo_5 rfl rfl rfl 1 (by decide) (List.mem_of_getElem? (i := 1) rfl) rfl rfl dX5_undo_12 ?_
    refine lv_iconst (v := 0) hx hb dX5_undo_15 (by decide) ?_
    obtain ⟨v_2, c_3, h⟩ := bd_ok h
    refine x_Vv (As := [.int (M_sa v), .int 0]) (w' := fl [mB G o v_2]) X hw (m_X5_copies (G := G) (l := l) (o := o) c_3) Cut.all 0 0 rfl rfl rfl (cwV 2 hts gX5_undo_X5_copies rfl rfl rfl hd_X5_copies ⟨Nat.le_of_ble_eq_true rfl, Nat.le_of_ble_eq_true rfl⟩) rfl hl.1 rfl (Nat.le_of_ble_eq_true rfl) dX5_undo_16 ⟨Nat.le_of_ble_eq_true rfl, Nat.le_of_ble_eq_true rfl⟩ (fun H locs hw => ?_)
    refine lv_aload_n hx hb dX5_undo_19 rfl (lv_at hl 0 rfl) ?_
    refine lv_dup hx hb dX5_undo_20 rfl ?_
    refine x_get (v := .int (M_sa v_2)) 0 0 X hw in_X5_undo_5 rfl rfl rfl 1 (by decide) (List.mem_of_getElem? (i := 1) rfl) rfl rfl dX5_undo_21 ?_
    refine lv_iconst (v := 1) hx hb dX5_undo_24 (by decide) ?_
    refine lv_isub hx hb dX5_undo_25 ?_
    obtain ⟨t_4, et_4, h⟩ := nm_ok h
    refine x_put (bs' := [mB G o ((M_ro v_2), t_4, (M_od v_2), (M_st v_2), (M_ne v_2), (M_fd v_2), (M_tx v_2), (M_le v_2), (M_at v_2), (M_nu v_2), (M_it v_2), (M_h v_2))]) 0 0 X hw in_X5_undo_5 tyX5 tyX5_ok nmX5 rfl rfl rfl 1 (by decide) (List.mem_of_getElem? (i := 1) rfl) rfl rfl rfl rfl (Nat.le_of_ble_eq_true rfl) dX5_undo_26 (by rw [et_4]; rfl) (fun H locs hw => ?_)
    refine lv_aload_n hx hb dX5_undo_29 rfl (lv_at hl 0 rfl) ?_
    refine x_get (v := .int t_4) 0 0 X hw in_X5_undo_5 rfl rfl rfl 1 (by decide) (List.mem_of_getElem? (i := 1) rfl) rfl rfl dX5_undo_30 ?_
    cases h
    exact x_iret X (vp_nar_int _) hw rfl rfl dX5_undo_33
  · have h := br_yes h k_1
    refine lv_bipush (v := (-4)) hx hb dX5_undo_7 (by decide) ?_
    cases h
    exact x_iret X (vp_nar_int _) hw rfl rfl dX5_undo_9

def rX5_type : Room := { frames := 1, cells := 0, slots := 0, locals := 22 }
theorem hd_X5_type : yX5_type.cls = RX5 ∧ yX5_type.cls ≠ "java/lang/invoke/MethodHandle" ∧ yX5_type.cls ≠ "java/lang/invoke/VarHandle" ∧ (parseMethodDescriptor yX5_type.desc).map (fun d => d.parameters.length) = some 1 := by decide +kernel
theorem in_X5_type_5 : ∀ w ∈ u_ws RX5 TX5 12, w ∈ wsX5_type := fun w h => (List.mem_cons_of_mem _ (List.mem_append_right _ h))
noncomputable def f_X5_type  (v : MV) (x1 : Int32) : Option (Int32 × MV) :=
  bd (f_X5_in x1 0 255) fun r_1 =>
  br (r_1 = 0)
    (some ((-3), v))
    (br ((M_le v) = 120)
       (some ((-5), v))
       (ck (vp_in (M_le v) 120) <|
        nm (upd (M_tx v) ((M_le v) : Int32).toNatClampNeg x1) fun g_6 =>
        nm (((M_le v) + 1) : Int32) fun t_7 =>
        some (t_7, ((M_ro v), (M_sa v), (M_od v), (M_st v), (M_ne v), (M_fd v), g_6, t_7, (M_at v), (M_nu v), (M_it v), (M_h v)))))
set_option maxHeartbeats 4000000 in
set_option maxRecDepth 100000 in
theorem m_X5_type {G : GG} {l : Launch} {o : Nat → Nat} {v : MV} {x1 : Int32} {r : Int32} {zv : MV} (h : f_X5_type v x1 = some (r, zv)) : Ci G l yX5_type wsX5_type rX5_type [.ref (o 0), .int x1] (fl [mB G o v]) r (fl [mB G o zv]) := by
  refine Ci.intro cX5_type 2 (some .int) RX5 (by decide) rfl rfl (Nat.le_of_ble_eq_true rfl) ?_
  intro p e s m below meth c A ls X hw hl
  obtain ⟨⟨hx, hb, hml, hown, hts⟩, hK, hr, hlk, hA⟩ := id X
  unfold f_X5_type at h
  have hl : lv_has ls 2 [(0, .ref (o 0)), (1, .int x1)] := hl
  refine lv_iload_n hx hb dX5_type_0 rfl (lv_at hl 1 rfl) ?_
  refine lv_iconst (v := 0) hx hb dX5_type_1 (by decide) ?_
  refine lv_sipush (v := 255) hx hb dX5_type_2 (by decide) ?_
  obtain ⟨r_1, c_2, h⟩ := bd_ok h
  refine x_Si (As := [.int x1, .int 0, .int 255]) (w' := fl [mB G o v]) X hw (m_X5_in (G := G) (l := l) c_2) Cut.nil (va_cwS 3 hts gX5_type_X5_in rfl rfl rfl hd_X5_in.2 ⟨Nat.le_of_ble_eq_true rfl, Nat.le_of_ble_eq_true rfl⟩) rfl hl.1 rfl (Nat.le_of_ble_eq_true rfl) dX5_type_5 ⟨Nat.le_of_ble_eq_true rfl, Nat.le_of_ble_eq_true rfl⟩ (fun H locs hw => ?_)
  refine lv_if_ne (tgt := 14) hx hb dX5_type_8 (by decide) (fun k_3 => ?_) (fun k_3 => ?_)
  · have h := br_no h k_3
    refine lv_aload_n hx hb dX5_type_14 rfl (lv_at hl 0 rfl) ?_
    refine x_get (v := .int (M_le v)) 0 0 X hw in_X5_type_5 rfl rfl rfl 7 (by decide) (List.mem_of_getElem? (i := 1) rfl) rfl rfl dX5_type_15 ?_
    refine lv_bipush (v := 120) hx hb dX5_type_18 (by decide) ?_
    refine lv_icmp_ne (tgt := 26) hx hb dX5_type_20 (by decide) (fun k_4 => ?_) (fun k_4 => ?_)
    · have h := br_no h k_4
      refine lv_aload_n hx hb dX5_type_26 rfl (lv_at hl 0 rfl) ?_
      refine x_get (v := .ref (o 6)) 0 0 X hw in_X5_type_5 rfl rfl rfl 6 (by decide) (List.mem_of_getElem? (i := 2) rfl) rfl rfl dX5_type_27 ?_
      refine lv_aload_n hx hb dX5_type_30 rfl (lv_at hl 0 rfl) ?_
      refine x_get (v := .int (M_le v)) 0 0 X hw in_X5_type_5 rfl rfl rfl 7 (by decide) (List.mem_of_getElem? (i := 1) rfl) rfl rfl dX5_type_31 ?_
      refine lv_iload_n hx hb dX5_type_34 rfl (lv_at hl 1 rfl) ?_
      obtain ⟨k_5, h⟩ := ck_ok h
      obtain ⟨g_6, eg_6, h⟩ := nm_ok h
      refine x_iast (f := (M_tx v)) (bs' := [mB G o ((M_ro v), (M_sa v), (M_od v), (M_st v), (M_ne v), (M_fd v), g_6, (M_le v), (M_at v), (M_nu v), (M_it v), (M_h v))]) 0 6 X hw rfl rfl k_5 dX5_type_35 (by rw [eg_6]; rfl) (fun H locs hw => ?_)
      refine lv_aload_n hx hb dX5_type_36 rfl (lv_at hl 0 rfl) ?_
      refine lv_dup hx hb dX5_type_37 rfl ?_
      refine x_get (v := .int (M_le v)) 0 0 X hw in_X5_type_5 rfl rfl rfl 7 (by decide) (List.mem_of_getElem? (i := 1) rfl) rfl rfl dX5_type_38 ?_
      refine lv_iconst (v := 1) hx hb dX5_type_41 (by decide) ?_
      refine lv_iadd hx hb dX5_type_42 ?_
      obtain ⟨t_7, et_7, h⟩ := nm_ok h
      refine x_put (bs' := [mB G o ((M_ro v), (M_sa v), (M_od v), (M_st v), (M_ne v), (M_fd v), g_6, t_7, (M_at v), (M_nu v), (M_it v), (M_h v))]) 0 0 X hw in_X5_type_5 tyX5 tyX5_ok nmX5 rfl rfl rfl 7 (by decide) (List.mem_of_getElem? (i := 1) rfl) rfl rfl rfl rfl (Nat.le_of_ble_eq_true rfl) dX5_type_43 (by rw [et_7]; rfl) (fun H locs hw => ?_)
      refine lv_aload_n hx hb dX5_type_46 rfl (lv_at hl 0 rfl) ?_
      refine x_get (v := .int t_7) 0 0 X hw in_X5_type_5 rfl rfl rfl 7 (by decide) (List.mem_of_getElem? (i := 1) rfl) rfl rfl dX5_type_47 ?_
      cases h
      exact x_iret X (vp_nar_int _) hw rfl rfl dX5_type_50
    · have h := br_yes h k_4
      refine lv_bipush (v := (-5)) hx hb dX5_type_23 (by decide) ?_
      cases h
      exact x_iret X (vp_nar_int _) hw rfl rfl dX5_type_25
  · have h := br_yes h k_3
    refine lv_bipush (v := (-3)) hx hb dX5_type_11 (by decide) ?_
    cases h
    exact x_iret X (vp_nar_int _) hw rfl rfl dX5_type_13

def rX5_clearText : Room := { frames := 0, cells := 0, slots := 0, locals := 0 }
theorem hd_X5_clearText : yX5_clearText.cls = RX5 ∧ yX5_clearText.cls ≠ "java/lang/invoke/MethodHandle" ∧ yX5_clearText.cls ≠ "java/lang/invoke/VarHandle" ∧ (parseMethodDescriptor yX5_clearText.desc).map (fun d => d.parameters.length) = some 0 := by decide +kernel
theorem in_X5_clearText_5 : ∀ w ∈ u_ws RX5 TX5 12, w ∈ wsX5_clearText := fun w h => (List.mem_cons_of_mem _ (List.mem_append_right _ h))
noncomputable def f_X5_clearText  (v : MV)  : Option (Int32 × MV) :=
  some ((M_le v), ((M_ro v), (M_sa v), (M_od v), (M_st v), (M_ne v), (M_fd v), (M_tx v), 0, (M_at v), (M_nu v), (M_it v), (M_h v)))
set_option maxHeartbeats 4000000 in
set_option maxRecDepth 100000 in
theorem m_X5_clearText {G : GG} {l : Launch} {o : Nat → Nat} {v : MV}  {r : Int32} {zv : MV} (h : f_X5_clearText v = some (r, zv)) : Ci G l yX5_clearText wsX5_clearText rX5_clearText [.ref (o 0)] (fl [mB G o v]) r (fl [mB G o zv]) := by
  refine Ci.intro cX5_clearText 2 (some .int) RX5 (by decide) rfl rfl (Nat.le_of_ble_eq_true rfl) ?_
  intro p e s m below meth c A ls X hw hl
  obtain ⟨⟨hx, hb, hml, hown, hts⟩, hK, hr, hlk, hA⟩ := id X
  unfold f_X5_clearText at h
  have hl : lv_has ls 2 [(0, .ref (o 0))] := hl
  refine lv_aload_n hx hb dX5_clearText_0 rfl (lv_at hl 0 rfl) ?_
  refine x_get (v := .int (M_le v)) 0 0 X hw in_X5_clearText_5 rfl rfl rfl 7 (by decide) (List.mem_of_getElem? (i := 1) rfl) rfl rfl dX5_clearText_1 ?_
  refine lv_istore_n (lv' := [(1, .int (M_le v)), (0, .ref (o 0))]) hx hb dX5_clearText_4 rfl hl (by decide) rfl (fun ls hl => ?_)
  refine lv_aload_n hx hb dX5_clearText_5 rfl (lv_at hl 1 rfl) ?_
  refine lv_iconst (v := 0) hx hb dX5_clearText_6 (by decide) ?_
  refine x_put (bs' := [mB G o ((M_ro v), (M_sa v), (M_od v), (M_st v), (M_ne v), (M_fd v), (M_tx v), 0, (M_at v), (M_nu v), (M_it v), (M_h v))]) 0 0 X hw in_X5_clearText_5 tyX5 tyX5_ok nmX5 rfl rfl rfl 7 (by decide) (List.mem_of_getElem? (i := 1) rfl) rfl rfl rfl rfl (Nat.le_of_ble_eq_true rfl) dX5_clearText_7 rfl (fun H locs hw => ?_)
  refine lv_iload_n hx hb dX5_clearText_10 rfl (lv_at hl 0 rfl) ?_
  cases h
  exact x_iret X (vp_nar_int _) hw rfl rfl dX5_clearText_11

def rX5_here : Room := { frames := 0, cells := 0, slots := 0, locals := 0 }
theorem hd_X5_here : yX5_here.cls = RX5 ∧ yX5_here.cls ≠ "java/lang/invoke/MethodHandle" ∧ yX5_here.cls ≠ "java/lang/invoke/VarHandle" ∧ (parseMethodDescriptor yX5_here.desc).map (fun d => d.parameters.length) = some 0 := by decide +kernel
theorem in_X5_here_5 : ∀ w ∈ u_ws RX5 TX5 12, w ∈ wsX5_here := fun w h => (List.mem_cons_of_mem _ (List.mem_append_right _ h))
noncomputable def f_X5_here_b38  (v : MV) : Option (Int32 × MV) :=
  br ((M_le v) ≤ (M_at v))
    (some ((-1), v))
    (ck (vp_in (M_at v) 120) <|
     some (((M_tx v) ((M_at v) : Int32).toNatClampNeg), v))
set_option maxHeartbeats 4000000 in
set_option maxRecDepth 100000 in
theorem w_X5_here_b38 {G : GG} {l : Launch} {p : Program} {e : Env} {s : State} {m : MethodId} {args : Array Value} {below : List Frame} {meth : Method} {c : Code} {A : Nat → Prop} {o : Nat → Nat}  {r : Int32} {zv : MV}   (X : Cx p s m args meth c cX5_here 1 (some .int) wsX5_here RX5 G A)  :
    ∀ (v : MV) (H : Heap) (locs : List Loc) (ls : Array Slot), f_X5_here_b38 v = some (r, zv) → Wd G A s H locs (fl [mB G o v]) → lv_has ls 1 [(0, .ref (o 0))] → W p l e rX5_here s m args below meth c H locs 0 0 (MQ below (Qi G A r (fl [mB G o zv])) args s 0 0 A) (F0 m 38 ls []) := by
  obtain ⟨⟨hx, hb, hml, hown, hts⟩, hK, hr, hlk, hA⟩ := id X
  intro v H locs ls h hw hl
  unfold f_X5_here_b38 at h
  refine lv_aload_n hx hb dX5_here_38 rfl (lv_at hl 0 rfl) ?_
  refine x_get (v := .int (M_at v)) 0 0 X hw in_X5_here_5 rfl rfl rfl 8 (by decide) (List.mem_of_getElem? (i := 1) rfl) rfl rfl dX5_here_39 ?_
  refine lv_aload_n hx hb dX5_here_42 rfl (lv_at hl 0 rfl) ?_
  refine x_get (v := .int (M_le v)) 0 0 X hw in_X5_here_5 rfl rfl rfl 7 (by decide) (List.mem_of_getElem? (i := 2) rfl) rfl rfl dX5_here_43 ?_
  refine lv_icmp_ge (tgt := 61) hx hb dX5_here_46 (by decide) (fun k_1 => ?_) (fun k_1 => ?_)
  · have h := br_yes h k_1
    refine lv_iconst (v := (-1)) hx hb dX5_here_61 (by decide) ?_
    cases h
    exact x_iret X (vp_nar_int _) hw rfl rfl dX5_here_62
  · have h := br_no h k_1
    refine lv_aload_n hx hb dX5_here_49 rfl (lv_at hl 0 rfl) ?_
    refine x_get (v := .ref (o 6)) 0 0 X hw in_X5_here_5 rfl rfl rfl 6 (by decide) (List.mem_of_getElem? (i := 3) rfl) rfl rfl dX5_here_50 ?_
    refine lv_aload_n hx hb dX5_here_53 rfl (lv_at hl 0 rfl) ?_
    refine x_get (v := .int (M_at v)) 0 0 X hw in_X5_here_5 rfl rfl rfl 8 (by decide) (List.mem_of_getElem? (i := 1) rfl) rfl rfl dX5_here_54 ?_
    obtain ⟨k_2, h⟩ := ck_ok h
    refine x_iald (f := (M_tx v)) 0 6 X hw rfl rfl k_2 dX5_here_57 ?_
    refine lv_goto (tgt := 62) hx hb dX5_here_58 (by decide) ?_
    cases h
    exact x_iret X (vp_nar_int _) hw rfl rfl dX5_here_62
noncomputable def f_X5_here_b0   : Nat → MV → Option (Int32 × MV)
  | 0 => fun _ => none
  | n + 1 => fun v =>
    br ((M_le v) ≤ (M_at v))
      (f_X5_here_b38 v)
      (ck (vp_in (M_at v) 120) <|
       br (((M_tx v) ((M_at v) : Int32).toNatClampNeg) = 32)
         (nm (((M_at v) + 1) : Int32) fun t_4 =>
          f_X5_here_b0 n ((M_ro v), (M_sa v), (M_od v), (M_st v), (M_ne v), (M_fd v), (M_tx v), (M_le v), t_4, (M_nu v), (M_it v), (M_h v)))
         (f_X5_here_b38 v))
set_option maxHeartbeats 4000000 in
set_option maxRecDepth 100000 in
theorem w_X5_here_b0 {G : GG} {l : Launch} {p : Program} {e : Env} {s : State} {m : MethodId} {args : Array Value} {below : List Frame} {meth : Method} {c : Code} {A : Nat → Prop} {o : Nat → Nat}  {r : Int32} {zv : MV}   (X : Cx p s m args meth c cX5_here 1 (some .int) wsX5_here RX5 G A)  :
    ∀ (n : Nat) (v : MV) (H : Heap) (locs : List Loc) (ls : Array Slot), f_X5_here_b0 n v = some (r, zv) → Wd G A s H locs (fl [mB G o v]) → lv_has ls 1 [(0, .ref (o 0))] → W p l e rX5_here s m args below meth c H locs 0 0 (MQ below (Qi G A r (fl [mB G o zv])) args s 0 0 A) (F0 m 0 ls []) := by
  obtain ⟨⟨hx, hb, hml, hown, hts⟩, hK, hr, hlk, hA⟩ := id X
  intro n
  induction n with
  | zero =>
    intro v H locs ls h
    rw [f_X5_here_b0] at h
    cases h
  | succ n ih =>
    intro v H locs ls h hw hl
    rw [f_X5_here_b0] at h
    refine lv_aload_n hx hb dX5_here_0 rfl (lv_at hl 0 rfl) ?_
    refine x_get (v := .int (M_at v)) 0 0 X hw in_X5_here_5 rfl rfl rfl 8 (by decide) (List.mem_of_getElem? (i := 1) rfl) rfl rfl dX5_here_1 ?_
    refine lv_aload_n hx hb dX5_here_4 rfl (lv_at hl 0 rfl) ?_
    refine x_get (v := .int (M_le v)) 0 0 X hw in_X5_here_5 rfl rfl rfl 7 (by decide) (List.mem_of_getElem? (i := 2) rfl) rfl rfl dX5_here_5 ?_
    refine lv_icmp_ge (tgt := 38) hx hb dX5_here_8 (by decide) (fun k_1 => ?_) (fun k_1 => ?_)
    · have h := br_yes h k_1
      exact w_X5_here_b38 X v _ _ _ h hw (lv_sub hl [0] rfl)
    · have h := br_no h k_1
      refine lv_aload_n hx hb dX5_here_11 rfl (lv_at hl 0 rfl) ?_
      refine x_get (v := .ref (o 6)) 0 0 X hw in_X5_here_5 rfl rfl rfl 6 (by decide) (List.mem_of_getElem? (i := 3) rfl) rfl rfl dX5_here_12 ?_
      refine lv_aload_n hx hb dX5_here_15 rfl (lv_at hl 0 rfl) ?_
      refine x_get (v := .int (M_at v)) 0 0 X hw in_X5_here_5 rfl rfl rfl 8 (by decide) (List.mem_of_getElem? (i := 1) rfl) rfl rfl dX5_here_16 ?_
      obtain ⟨k_2, h⟩ := ck_ok h
      refine x_iald (f := (M_tx v)) 0 6 X hw rfl rfl k_2 dX5_here_19 ?_
      refine lv_bipush (v := 32) hx hb dX5_here_20 (by decide) ?_
      refine lv_icmp_ne (tgt := 38) hx hb dX5_here_22 (by decide) (fun k_3 => ?_) (fun k_3 => ?_)
      · have h := br_no h k_3
        exact w_X5_here_b38 X v _ _ _ h hw (lv_sub hl [0] rfl)
      · have h := br_yes h k_3
        refine lv_aload_n hx hb dX5_here_25 rfl (lv_at hl 0 rfl) ?_
        refine lv_dup hx hb dX5_here_26 rfl ?_
        refine x_get (v := .int (M_at v)) 0 0 X hw in_X5_here_5 rfl rfl rfl 8 (by decide) (List.mem_of_getElem? (i := 1) rfl) rfl rfl dX5_here_27 ?_
        refine lv_iconst (v := 1) hx hb dX5_here_30 (by decide) ?_
        refine lv_iadd hx hb dX5_here_31 ?_
        obtain ⟨t_4, et_4, h⟩ := nm_ok h
        refine x_put (bs' := [mB G o ((M_ro v), (M_sa v), (M_od v), (M_st v), (M_ne v), (M_fd v), (M_tx v), (M_le v), t_4, (M_nu v), (M_it v), (M_h v))]) 0 0 X hw in_X5_here_5 tyX5 tyX5_ok nmX5 rfl rfl rfl 8 (by decide) (List.mem_of_getElem? (i := 1) rfl) rfl rfl rfl rfl (Nat.le_of_ble_eq_true rfl) dX5_here_32 (by rw [et_4]; rfl) (fun H locs hw => ?_)
        refine lv_goto (tgt := 0) hx hb dX5_here_35 (by decide) ?_
        exact ih ((M_ro v), (M_sa v), (M_od v), (M_st v), (M_ne v), (M_fd v), (M_tx v), (M_le v), t_4, (M_nu v), (M_it v), (M_h v)) _ _ _ h hw (lv_sub hl [0] rfl)
noncomputable def f_X5_here  (v : MV)  : Option (Int32 × MV) :=
  br ((M_le v) ≤ (M_at v))
    (f_X5_here_b38 v)
    (ck (vp_in (M_at v) 120) <|
     br (((M_tx v) ((M_at v) : Int32).toNatClampNeg) = 32)
       (nm (((M_at v) + 1) : Int32) fun t_4 =>
        f_X5_here_b0 FU ((M_ro v), (M_sa v), (M_od v), (M_st v), (M_ne v), (M_fd v), (M_tx v), (M_le v), t_4, (M_nu v), (M_it v), (M_h v)))
       (f_X5_here_b38 v))
set_option maxHeartbeats 4000000 in
set_option maxRecDepth 100000 in
theorem m_X5_here {G : GG} {l : Launch} {o : Nat → Nat} {v : MV}  {r : Int32} {zv : MV} (h : f_X5_here v = some (r, zv)) : Ci G l yX5_here wsX5_here rX5_here [.ref (o 0)] (fl [mB G o v]) r (fl [mB G o zv]) := by
  refine Ci.intro cX5_here 1 (some .int) RX5 (by decide) rfl rfl (Nat.le_of_ble_eq_true rfl) ?_
  intro p e s m below meth c A ls X hw hl
  obtain ⟨⟨hx, hb, hml, hown, hts⟩, hK, hr, hlk, hA⟩ := id X
  unfold f_X5_here at h
  have hl : lv_has ls 1 [(0, .ref (o 0))] := hl
  refine lv_aload_n hx hb dX5_here_0 rfl (lv_at hl 0 rfl) ?_
  refine x_get (v := .int (M_at v)) 0 0 X hw in_X5_here_5 rfl rfl rfl 8 (by decide) (List.mem_of_getElem? (i := 1) rfl) rfl rfl dX5_here_1 ?_
  refine lv_aload_n hx hb dX5_here_4 rfl (lv_at hl 0 rfl) ?_
  refine x_get (v := .int (M_le v)) 0 0 X hw in_X5_here_5 rfl rfl rfl 7 (by decide) (List.mem_of_getElem? (i := 2) rfl) rfl rfl dX5_here_5 ?_
  refine lv_icmp_ge (tgt := 38) hx hb dX5_here_8 (by decide) (fun k_1 => ?_) (fun k_1 => ?_)
  · have h := br_yes h k_1
    exact w_X5_here_b38 X v _ _ _ h hw (lv_sub hl [0] rfl)
  · have h := br_no h k_1
    refine lv_aload_n hx hb dX5_here_11 rfl (lv_at hl 0 rfl) ?_
    refine x_get (v := .ref (o 6)) 0 0 X hw in_X5_here_5 rfl rfl rfl 6 (by decide) (List.mem_of_getElem? (i := 3) rfl) rfl rfl dX5_here_12 ?_
    refine lv_aload_n hx hb dX5_here_15 rfl (lv_at hl 0 rfl) ?_
    refine x_get (v := .int (M_at v)) 0 0 X hw in_X5_here_5 rfl rfl rfl 8 (by decide) (List.mem_of_getElem? (i := 1) rfl) rfl rfl dX5_here_16 ?_
    obtain ⟨k_2, h⟩ := ck_ok h
    refine x_iald (f := (M_tx v)) 0 6 X hw rfl rfl k_2 dX5_here_19 ?_
    refine lv_bipush (v := 32) hx hb dX5_here_20 (by decide) ?_
    refine lv_icmp_ne (tgt := 38) hx hb dX5_here_22 (by decide) (fun k_3 => ?_) (fun k_3 => ?_)
    · have h := br_no h k_3
      exact w_X5_here_b38 X v _ _ _ h hw (lv_sub hl [0] rfl)
    · have h := br_yes h k_3
      refine lv_aload_n hx hb dX5_here_25 rfl (lv_at hl 0 rfl) ?_
      refine lv_dup hx hb dX5_here_26 rfl ?_
      refine x_get (v := .int (M_at v)) 0 0 X hw in_X5_here_5 rfl rfl rfl 8 (by decide) (List.mem_of_getElem? (i := 1) rfl) rfl rfl dX5_here_27 ?_
      refine lv_iconst (v := 1) hx hb dX5_here_30 (by decide) ?_
      refine lv_iadd hx hb dX5_here_31 ?_
      obtain ⟨t_4, et_4, h⟩ := nm_ok h
      refine x_put (bs' := [mB G o ((M_ro v), (M_sa v), (M_od v), (M_st v), (M_ne v), (M_fd v), (M_tx v), (M_le v), t_4, (M_nu v), (M_it v), (M_h v))]) 0 0 X hw in_X5_here_5 tyX5 tyX5_ok nmX5 rfl rfl rfl 8 (by decide) (List.mem_of_getElem? (i := 1) rfl) rfl rfl rfl rfl (Nat.le_of_ble_eq_true rfl) dX5_here_32 (by rw [et_4]; rfl) (fun H locs hw => ?_)
      refine lv_goto (tgt := 0) hx hb dX5_here_35 (by decide) ?_
      exact w_X5_here_b0 X FU ((M_ro v), (M_sa v), (M_od v), (M_st v), (M_ne v), (M_fd v), (M_tx v), (M_le v), t_4, (M_nu v), (M_it v), (M_h v)) _ _ _ h hw (lv_sub hl [0] rfl)

def rX5_sign : Room := { frames := 1, cells := 0, slots := 0, locals := 20 }
theorem hd_X5_sign : yX5_sign.cls = RX5 ∧ yX5_sign.cls ≠ "java/lang/invoke/MethodHandle" ∧ yX5_sign.cls ≠ "java/lang/invoke/VarHandle" ∧ (parseMethodDescriptor yX5_sign.desc).map (fun d => d.parameters.length) = some 1 := by decide +kernel
theorem in_X5_sign_5 : ∀ w ∈ u_ws RX5 TX5 12, w ∈ wsX5_sign := fun w h => (List.mem_cons_of_mem _ (List.mem_append_right _ h))
noncomputable def f_X5_sign_b13  (v : MV) (y0 : Int32) : Option (Int32 × MV) :=
  br (y0 = 0)
    (nm (((M_at v) + 0) : Int32) fun t_2 =>
     ck (y0 = 0 ∨ y0 = 1) <|
     some (y0, ((M_ro v), (M_sa v), (M_od v), (M_st v), (M_ne v), (M_fd v), (M_tx v), (M_le v), t_2, (M_nu v), (M_it v), (M_h v))))
    (nm (((M_at v) + 1) : Int32) fun t_4 =>
     ck (y0 = 0 ∨ y0 = 1) <|
     some (y0, ((M_ro v), (M_sa v), (M_od v), (M_st v), (M_ne v), (M_fd v), (M_tx v), (M_le v), t_4, (M_nu v), (M_it v), (M_h v))))
set_option maxHeartbeats 4000000 in
set_option maxRecDepth 100000 in
theorem w_X5_sign_b13 {G : GG} {l : Launch} {p : Program} {e : Env} {s : State} {m : MethodId} {args : Array Value} {below : List Frame} {meth : Method} {c : Code} {A : Nat → Prop} {o : Nat → Nat}  {r : Int32} {zv : MV}   (X : Cx p s m args meth c cX5_sign 3 (some .boolean) wsX5_sign RX5 G A)  :
    ∀ (v : MV) (y0 : Int32) (H : Heap) (locs : List Loc) (ls : Array Slot), f_X5_sign_b13 v y0 = some (r, zv) → Wd G A s H locs (fl [mB G o v]) → lv_has ls 3 [(0, .ref (o 0))] → W p l e rX5_sign s m args below meth c H locs 0 0 (MQ below (Qi G A r (fl [mB G o zv])) args s 0 0 A) (F0 m 13 ls [.int y0]) := by
  obtain ⟨⟨hx, hb, hml, hown, hts⟩, hK, hr, hlk, hA⟩ := id X
  intro v y0 H locs ls h hw hl
  unfold f_X5_sign_b13 at h
  refine lv_istore_n (lv' := [(2, .int y0), (0, .ref (o 0))]) hx hb dX5_sign_13 rfl hl (by decide) rfl (fun ls hl => ?_)
  refine lv_aload_n hx hb dX5_sign_14 rfl (lv_at hl 1 rfl) ?_
  refine lv_dup hx hb dX5_sign_15 rfl ?_
  refine x_get (v := .int (M_at v)) 0 0 X hw in_X5_sign_5 rfl rfl rfl 8 (by decide) (List.mem_of_getElem? (i := 1) rfl) rfl rfl dX5_sign_16 ?_
  refine lv_iload_n hx hb dX5_sign_19 rfl (lv_at hl 0 rfl) ?_
  refine lv_if_eq (tgt := 27) hx hb dX5_sign_20 (by decide) (fun k_1 => ?_) (fun k_1 => ?_)
  · have h := br_yes h k_1
    refine lv_iconst (v := 0) hx hb dX5_sign_27 (by decide) ?_
    refine lv_iadd hx hb dX5_sign_28 ?_
    obtain ⟨t_2, et_2, h⟩ := nm_ok h
    refine x_put (bs' := [mB G o ((M_ro v), (M_sa v), (M_od v), (M_st v), (M_ne v), (M_fd v), (M_tx v), (M_le v), t_2, (M_nu v), (M_it v), (M_h v))]) 0 0 X hw in_X5_sign_5 tyX5 tyX5_ok nmX5 rfl rfl rfl 8 (by decide) (List.mem_of_getElem? (i := 1) rfl) rfl rfl rfl rfl (Nat.le_of_ble_eq_true rfl) dX5_sign_29 (by rw [et_2]; rfl) (fun H locs hw => ?_)
    refine lv_iload_n hx hb dX5_sign_32 rfl (lv_at hl 0 rfl) ?_
    obtain ⟨k_3, h⟩ := ck_ok h
    cases h
    exact x_iret X (narz k_3) hw rfl rfl dX5_sign_33
  · have h := br_no h k_1
    refine lv_iconst (v := 1) hx hb dX5_sign_23 (by decide) ?_
    refine lv_goto (tgt := 28) hx hb dX5_sign_24 (by decide) ?_
    refine lv_iadd hx hb dX5_sign_28 ?_
    obtain ⟨t_4, et_4, h⟩ := nm_ok h
    refine x_put (bs' := [mB G o ((M_ro v), (M_sa v), (M_od v), (M_st v), (M_ne v), (M_fd v), (M_tx v), (M_le v), t_4, (M_nu v), (M_it v), (M_h v))]) 0 0 X hw in_X5_sign_5 tyX5 tyX5_ok nmX5 rfl rfl rfl 8 (by decide) (List.mem_of_getElem? (i := 1) rfl) rfl rfl rfl rfl (Nat.le_of_ble_eq_true rfl) dX5_sign_29 (by rw [et_4]; rfl) (fun H locs hw => ?_)
    refine lv_iload_n hx hb dX5_sign_32 rfl (lv_at hl 0 rfl) ?_
    obtain ⟨k_5, h⟩ := ck_ok h
    cases h
    exact x_iret X (narz k_5) hw rfl rfl dX5_sign_33
noncomputable def f_X5_sign  (v : MV) (x1 : Int32) : Option (Int32 × MV) :=
  bd2 (f_X5_here v) fun r_1 v_2 =>
  br (r_1 = x1)
    (f_X5_sign_b13 v_2 1)
    (f_X5_sign_b13 v_2 0)
set_option maxHeartbeats 4000000 in
set_option maxRecDepth 100000 in
theorem m_X5_sign {G : GG} {l : Launch} {o : Nat → Nat} {v : MV} {x1 : Int32} {r : Int32} {zv : MV} (h : f_X5_sign v x1 = some (r, zv)) : Ci G l yX5_sign wsX5_sign rX5_sign [.ref (o 0), .int x1] (fl [mB G o v]) r (fl [mB G o zv]) := by
  refine Ci.intro cX5_sign 3 (some .boolean) RX5 (by decide) rfl rfl (Nat.le_of_ble_eq_true rfl) ?_
  intro p e s m below meth c A ls X hw hl
  obtain ⟨⟨hx, hb, hml, hown, hts⟩, hK, hr, hlk, hA⟩ := id X
  unfold f_X5_sign at h
  have hl : lv_has ls 3 [(0, .ref (o 0)), (1, .int x1)] := hl
  refine lv_aload_n hx hb dX5_sign_0 rfl (lv_at hl 0 rfl) ?_
  obtain ⟨r_1, v_2, c_3, h⟩ := bd2_ok h
  refine x_Vi (As := []) (w' := fl [mB G o v_2]) X hw (m_X5_here (G := G) (l := l) (o := o) c_3) Cut.all 0 0 rfl rfl rfl (cwV 0 hts gX5_sign_X5_here rfl rfl rfl hd_X5_here ⟨Nat.le_of_ble_eq_true rfl, Nat.le_of_ble_eq_true rfl⟩) rfl hl.1 rfl (Nat.le_of_ble_eq_true rfl) dX5_sign_1 ⟨Nat.le_of_ble_eq_true rfl, Nat.le_of_ble_eq_true rfl⟩ (fun H locs hw => ?_)
  refine lv_iload_n hx hb dX5_sign_4 rfl (lv_at hl 1 rfl) ?_
  refine lv_icmp_ne (tgt := 12) hx hb dX5_sign_5 (by decide) (fun k_4 => ?_) (fun k_4 => ?_)
  · have h := br_no h k_4
    refine lv_iconst (v := 0) hx hb dX5_sign_12 (by decide) ?_
    exact w_X5_sign_b13 X v_2 0 _ _ _ h hw (lv_sub hl [0] rfl)
  · have h := br_yes h k_4
    refine lv_iconst (v := 1) hx hb dX5_sign_8 (by decide) ?_
    refine lv_goto (tgt := 13) hx hb dX5_sign_9 (by decide) ?_
    exact w_X5_sign_b13 X v_2 1 _ _ _ h hw (lv_sub hl [0] rfl)

def rX5_finds : Room := { frames := 1, cells := 0, slots := 0, locals := 22 }
theorem hd_X5_finds : yX5_finds.cls = RX5 ∧ yX5_finds.cls ≠ "java/lang/invoke/MethodHandle" ∧ yX5_finds.cls ≠ "java/lang/invoke/VarHandle" ∧ (parseMethodDescriptor yX5_finds.desc).map (fun d => d.parameters.length) = some 2 := by decide +kernel
theorem in_X5_finds_5 : ∀ w ∈ u_ws RX5 TX5 12, w ∈ wsX5_finds := fun w h => (List.mem_cons_of_mem _ (List.mem_append_right _ h))
noncomputable def f_X5_finds_b84  (v : MV) (x1 : Int32) (x2 : Int32) (x4 : Int32) (x5 : Int32) : Option (Int32 × MV) :=
  br (x4 ≤ (M_at v))
    (some ((-1), ((M_ro v), (M_sa v), (M_od v), (M_st v), (M_ne v), (M_fd v), (M_tx v), (M_le v), (M_at v), x5, (M_it v), (M_h v))))
    (br (5 ≤ (x4 - (M_at v)))
       (some ((-1), ((M_ro v), (M_sa v), (M_od v), (M_st v), (M_ne v), (M_fd v), (M_tx v), (M_le v), (M_at v), x5, (M_it v), (M_h v))))
       (bd (f_X5_in x5 x1 x2) fun r_3 =>
        br (r_3 = 0)
          (some ((-1), ((M_ro v), (M_sa v), (M_od v), (M_st v), (M_ne v), (M_fd v), (M_tx v), (M_le v), (M_at v), x5, (M_it v), (M_h v))))
          (some (x4, ((M_ro v), (M_sa v), (M_od v), (M_st v), (M_ne v), (M_fd v), (M_tx v), (M_le v), (M_at v), x5, (M_it v), (M_h v))))))
set_option maxHeartbeats 4000000 in
set_option maxRecDepth 100000 in
theorem w_X5_finds_b84 {G : GG} {l : Launch} {p : Program} {e : Env} {s : State} {m : MethodId} {args : Array Value} {below : List Frame} {meth : Method} {c : Code} {A : Nat → Prop} {o : Nat → Nat}  {r : Int32} {zv : MV}   (X : Cx p s m args meth c cX5_finds 6 (some .int) wsX5_finds RX5 G A)  :
    ∀ (v : MV) (x1 : Int32) (x2 : Int32) (x4 : Int32) (x5 : Int32) (H : Heap) (locs : List Loc) (ls : Array Slot), f_X5_finds_b84 v x1 x2 x4 x5 = some (r, zv) → Wd G A s H locs (fl [mB G o v]) → lv_has ls 6 [(0, .ref (o 0)), (1, .int x1), (2, .int x2), (4, .int x4), (5, .int x5)] → W p l e rX5_finds s m args below meth c H locs 0 0 (MQ below (Qi G A r (fl [mB G o zv])) args s 0 0 A) (F0 m 84 ls []) := by
  obtain ⟨⟨hx, hb, hml, hown, hts⟩, hK, hr, hlk, hA⟩ := id X
  intro v x1 x2 x4 x5 H locs ls h hw hl
  unfold f_X5_finds_b84 at h
  refine lv_aload_n hx hb dX5_finds_84 rfl (lv_at hl 0 rfl) ?_
  refine lv_iload hx hb dX5_finds_85 (lv_at hl 4 rfl) ?_
  refine x_put (bs' := [mB G o ((M_ro v), (M_sa v), (M_od v), (M_st v), (M_ne v), (M_fd v), (M_tx v), (M_le v), (M_at v), x5, (M_it v), (M_h v))]) 0 0 X hw in_X5_finds_5 tyX5 tyX5_ok nmX5 rfl rfl rfl 9 (by decide) (List.mem_of_getElem? (i := 4) rfl) rfl rfl rfl rfl (Nat.le_of_ble_eq_true rfl) dX5_finds_87 rfl (fun H locs hw => ?_)
  refine lv_iload hx hb dX5_finds_90 (lv_at hl 3 rfl) ?_
  refine lv_aload_n hx hb dX5_finds_92 rfl (lv_at hl 0 rfl) ?_
  refine x_get (v := .int (M_at v)) 0 0 X hw in_X5_finds_5 rfl rfl rfl 8 (by decide) (List.mem_of_getElem? (i := 1) rfl) rfl rfl dX5_finds_93 ?_
  refine lv_icmp_le (tgt := 125) hx hb dX5_finds_96 (by decide) (fun k_1 => ?_) (fun k_1 => ?_)
  · have h := br_yes h k_1
    refine lv_iconst (v := (-1)) hx hb dX5_finds_125 (by decide) ?_
    cases h
    exact x_iret X (vp_nar_int _) hw rfl rfl dX5_finds_126
  · have h := br_no h k_1
    refine lv_iload hx hb dX5_finds_99 (lv_at hl 3 rfl) ?_
    refine lv_aload_n hx hb dX5_finds_101 rfl (lv_at hl 0 rfl) ?_
    refine x_get (v := .int (M_at v)) 0 0 X hw in_X5_finds_5 rfl rfl rfl 8 (by decide) (List.mem_of_getElem? (i := 1) rfl) rfl rfl dX5_finds_102 ?_
    refine lv_isub hx hb dX5_finds_105 ?_
    refine lv_iconst (v := 5) hx hb dX5_finds_106 (by decide) ?_
    refine lv_icmp_ge (tgt := 125) hx hb dX5_finds_107 (by decide) (fun k_2 => ?_) (fun k_2 => ?_)
    · have h := br_yes h k_2
      refine lv_iconst (v := (-1)) hx hb dX5_finds_125 (by decide) ?_
      cases h
      exact x_iret X (vp_nar_int _) hw rfl rfl dX5_finds_126
    · have h := br_no h k_2
      refine lv_iload hx hb dX5_finds_110 (lv_at hl 4 rfl) ?_
      refine lv_iload_n hx hb dX5_finds_112 rfl (lv_at hl 1 rfl) ?_
      refine lv_iload_n hx hb dX5_finds_113 rfl (lv_at hl 2 rfl) ?_
      obtain ⟨r_3, c_4, h⟩ := bd_ok h
      refine x_Si (As := [.int x5, .int x1, .int x2]) (w' := fl [mB G o ((M_ro v), (M_sa v), (M_od v), (M_st v), (M_ne v), (M_fd v), (M_tx v), (M_le v), (M_at v), x5, (M_it v), (M_h v))]) X hw (m_X5_in (G := G) (l := l) c_4) Cut.nil (va_cwS 3 hts gX5_finds_X5_in rfl rfl rfl hd_X5_in.2 ⟨Nat.le_of_ble_eq_true rfl, Nat.le_of_ble_eq_true rfl⟩) rfl hl.1 rfl (Nat.le_of_ble_eq_true rfl) dX5_finds_114 ⟨Nat.le_of_ble_eq_true rfl, Nat.le_of_ble_eq_true rfl⟩ (fun H locs hw => ?_)
      refine lv_if_eq (tgt := 125) hx hb dX5_finds_117 (by decide) (fun k_5 => ?_) (fun k_5 => ?_)
      · have h := br_yes h k_5
        refine lv_iconst (v := (-1)) hx hb dX5_finds_125 (by decide) ?_
        cases h
        exact x_iret X (vp_nar_int _) hw rfl rfl dX5_finds_126
      · have h := br_no h k_5
        refine lv_iload hx hb dX5_finds_120 (lv_at hl 3 rfl) ?_
        refine lv_goto (tgt := 126) hx hb dX5_finds_122 (by decide) ?_
        cases h
        exact x_iret X (vp_nar_int _) hw rfl rfl dX5_finds_126
noncomputable def f_X5_finds_b14  (x1 : Int32) (x2 : Int32) (x3 : Int32) : Nat → MV → Int32 → Int32 → Option (Int32 × MV)
  | 0 => fun _ _ _ => none
  | n + 1 => fun v x4 x5 =>
    br (x3 < 0)
      (f_X5_finds_b84 v x1 x2 x4 x5)
      (br ((M_le v) ≤ x4)
         (f_X5_finds_b84 v x1 x2 x4 x5)
         (ck (vp_in x4 120) <|
          bd (f_X5_in ((M_tx v) x4.toNatClampNeg) 48 57) fun r_4 =>
          br (r_4 = 0)
            (f_X5_finds_b84 v x1 x2 x4 x5)
            (br (5 ≤ (x4 - (M_at v)))
               (nm (x4 + 1 : Int32) fun t_8 =>
                f_X5_finds_b14 x1 x2 x3 n v t_8 x5)
               (ck (vp_in x4 120) <|
                nm ((((10 * x5) + ((M_tx v) x4.toNatClampNeg)) - 48) : Int32) fun t_10 =>
                nm (x4 + 1 : Int32) fun t_11 =>
                f_X5_finds_b14 x1 x2 x3 n v t_11 t_10))))
set_option maxHeartbeats 4000000 in
set_option maxRecDepth 100000 in
theorem w_X5_finds_b14 {G : GG} {l : Launch} {p : Program} {e : Env} {s : State} {m : MethodId} {args : Array Value} {below : List Frame} {meth : Method} {c : Code} {A : Nat → Prop} {o : Nat → Nat} {x1 : Int32} {x2 : Int32} {x3 : Int32} {r : Int32} {zv : MV}   (X : Cx p s m args meth c cX5_finds 6 (some .int) wsX5_finds RX5 G A)  :
    ∀ (n : Nat) (v : MV) (x4 : Int32) (x5 : Int32) (H : Heap) (locs : List Loc) (ls : Array Slot), f_X5_finds_b14 x1 x2 x3 n v x4 x5 = some (r, zv) → Wd G A s H locs (fl [mB G o v]) → lv_has ls 6 [(0, .ref (o 0)), (1, .int x1), (2, .int x2), (3, .int x3), (4, .int x4), (5, .int x5)] → W p l e rX5_finds s m args below meth c H locs 0 0 (MQ below (Qi G A r (fl [mB G o zv])) args s 0 0 A) (F0 m 14 ls []) := by
  obtain ⟨⟨hx, hb, hml, hown, hts⟩, hK, hr, hlk, hA⟩ := id X
  intro n
  induction n with
  | zero =>
    intro v x4 x5 H locs ls h
    rw [f_X5_finds_b14] at h
    cases h
  | succ n ih =>
    intro v x4 x5 H locs ls h hw hl
    rw [f_X5_finds_b14] at h
    refine lv_iload_n hx hb dX5_finds_14 rfl (lv_at hl 3 rfl) ?_
    refine lv_if_lt (tgt := 84) hx hb dX5_finds_15 (by decide) (fun k_1 => ?_) (fun k_1 => ?_)
    · have h := br_yes h k_1
      exact w_X5_finds_b84 X v x1 x2 x4 x5 _ _ _ h hw (lv_sub hl [0, 1, 2, 4, 5] rfl)
    · have h := br_no h k_1
      refine lv_iload hx hb dX5_finds_18 (lv_at hl 4 rfl) ?_
      refine lv_aload_n hx hb dX5_finds_20 rfl (lv_at hl 0 rfl) ?_
      refine x_get (v := .int (M_le v)) 0 0 X hw in_X5_finds_5 rfl rfl rfl 7 (by decide) (List.mem_of_getElem? (i := 2) rfl) rfl rfl dX5_finds_21 ?_
      refine lv_icmp_ge (tgt := 84) hx hb dX5_finds_24 (by decide) (fun k_2 => ?_) (fun k_2 => ?_)
      · have h := br_yes h k_2
        exact w_X5_finds_b84 X v x1 x2 x4 x5 _ _ _ h hw (lv_sub hl [0, 1, 2, 4, 5] rfl)
      · have h := br_no h k_2
        refine lv_aload_n hx hb dX5_finds_27 rfl (lv_at hl 0 rfl) ?_
        refine x_get (v := .ref (o 6)) 0 0 X hw in_X5_finds_5 rfl rfl rfl 6 (by decide) (List.mem_of_getElem? (i := 3) rfl) rfl rfl dX5_finds_28 ?_
        refine lv_iload hx hb dX5_finds_31 (lv_at hl 4 rfl) ?_
        obtain ⟨k_3, h⟩ := ck_ok h
        refine x_iald (f := (M_tx v)) 0 6 X hw rfl rfl k_3 dX5_finds_33 ?_
        refine lv_bipush (v := 48) hx hb dX5_finds_34 (by decide) ?_
        refine lv_bipush (v := 57) hx hb dX5_finds_36 (by decide) ?_
        obtain ⟨r_4, c_5, h⟩ := bd_ok h
        refine x_Si (As := [.int ((M_tx v) x4.toNatClampNeg), .int 48, .int 57]) (w' := fl [mB G o v]) X hw (m_X5_in (G := G) (l := l) c_5) Cut.nil (va_cwS 3 hts gX5_finds_X5_in rfl rfl rfl hd_X5_in.2 ⟨Nat.le_of_ble_eq_true rfl, Nat.le_of_ble_eq_true rfl⟩) rfl hl.1 rfl (Nat.le_of_ble_eq_true rfl) dX5_finds_38 ⟨Nat.le_of_ble_eq_true rfl, Nat.le_of_ble_eq_true rfl⟩ (fun H locs hw => ?_)
        refine lv_if_eq (tgt := 84) hx hb dX5_finds_41 (by decide) (fun k_6 => ?_) (fun k_6 => ?_)
        · have h := br_yes h k_6
          exact w_X5_finds_b84 X v x1 x2 x4 x5 _ _ _ h hw (lv_sub hl [0, 1, 2, 4, 5] rfl)
        · have h := br_no h k_6
          refine lv_iload hx hb dX5_finds_44 (lv_at hl 4 rfl) ?_
          refine lv_aload_n hx hb dX5_finds_46 rfl (lv_at hl 0 rfl) ?_
          refine x_get (v := .int (M_at v)) 0 0 X hw in_X5_finds_5 rfl rfl rfl 8 (by decide) (List.mem_of_getElem? (i := 1) rfl) rfl rfl dX5_finds_47 ?_
          refine lv_isub hx hb dX5_finds_50 ?_
          refine lv_iconst (v := 5) hx hb dX5_finds_51 (by decide) ?_
          refine lv_icmp_ge (tgt := 74) hx hb dX5_finds_52 (by decide) (fun k_7 => ?_) (fun k_7 => ?_)
          · have h := br_yes h k_7
            refine lv_iload hx hb dX5_finds_74 (lv_at hl 5 rfl) ?_
            refine lv_istore (lv' := [(5, .int x5), (0, .ref (o 0)), (1, .int x1), (2, .int x2), (3, .int x3), (4, .int x4)]) hx hb dX5_finds_76 hl (by decide) rfl (fun ls hl => ?_)
            obtain ⟨t_8, et_8, h⟩ := nm_ok h
            refine lv_iinc (v := t_8) (lv' := [(4, .int t_8), (5, .int x5), (0, .ref (o 0)), (1, .int x1), (2, .int x2), (3, .int x3)]) hx hb dX5_finds_78 hl (k := 5) rfl (by rw [et_8]; rfl) (by decide) rfl (fun ls hl => ?_)
            refine lv_goto (tgt := 14) hx hb dX5_finds_81 (by decide) ?_
            exact ih v t_8 x5 _ _ _ h hw (lv_sub hl [2, 3, 4, 5, 0, 1] rfl)
          · have h := br_no h k_7
            refine lv_bipush (v := 10) hx hb dX5_finds_55 (by decide) ?_
            refine lv_iload hx hb dX5_finds_57 (lv_at hl 5 rfl) ?_
            refine lv_imul hx hb dX5_finds_59 ?_
            refine lv_aload_n hx hb dX5_finds_60 rfl (lv_at hl 0 rfl) ?_
            refine x_get (v := .ref (o 6)) 0 0 X hw in_X5_finds_5 rfl rfl rfl 6 (by decide) (List.mem_of_getElem? (i := 3) rfl) rfl rfl dX5_finds_61 ?_
            refine lv_iload hx hb dX5_finds_64 (lv_at hl 4 rfl) ?_
            obtain ⟨k_9, h⟩ := ck_ok h
            refine x_iald (f := (M_tx v)) 0 6 X hw rfl rfl k_9 dX5_finds_66 ?_
            refine lv_iadd hx hb dX5_finds_67 ?_
            refine lv_bipush (v := 48) hx hb dX5_finds_68 (by decide) ?_
            refine lv_isub hx hb dX5_finds_70 ?_
            refine lv_goto (tgt := 76) hx hb dX5_finds_71 (by decide) ?_
            obtain ⟨t_10, et_10, h⟩ := nm_ok h
            refine lv_istore (lv' := [(5, .int t_10), (0, .ref (o 0)), (1, .int x1), (2, .int x2), (3, .int x3), (4, .int x4)]) hx hb dX5_finds_76 hl (by decide) (by rw [et_10]; rfl) (fun ls hl => ?_)
            obtain ⟨t_11, et_11, h⟩ := nm_ok h
            refine lv_iinc (v := t_11) (lv' := [(4, .int t_11), (5, .int t_10), (0, .ref (o 0)), (1, .int x1), (2, .int x2), (3, .int x3)]) hx hb dX5_finds_78 hl (k := 5) rfl (by rw [et_11]; rfl) (by decide) rfl (fun ls hl => ?_)
            refine lv_goto (tgt := 14) hx hb dX5_finds_81 (by decide) ?_
            exact ih v t_11 t_10 _ _ _ h hw (lv_sub hl [2, 3, 4, 5, 0, 1] rfl)
noncomputable def f_X5_finds  (v : MV) (x1 : Int32) (x2 : Int32) : Option (Int32 × MV) :=
  bd2 (f_X5_here v) fun r_1 v_2 =>
  f_X5_finds_b14 x1 x2 r_1 FU v_2 (M_at v_2) 0
set_option maxHeartbeats 4000000 in
set_option maxRecDepth 100000 in
theorem m_X5_finds {G : GG} {l : Launch} {o : Nat → Nat} {v : MV} {x1 : Int32} {x2 : Int32} {r : Int32} {zv : MV} (h : f_X5_finds v x1 x2 = some (r, zv)) : Ci G l yX5_finds wsX5_finds rX5_finds [.ref (o 0), .int x1, .int x2] (fl [mB G o v]) r (fl [mB G o zv]) := by
  refine Ci.intro cX5_finds 6 (some .int) RX5 (by decide) rfl rfl (Nat.le_of_ble_eq_true rfl) ?_
  intro p e s m below meth c A ls X hw hl
  obtain ⟨⟨hx, hb, hml, hown, hts⟩, hK, hr, hlk, hA⟩ := id X
  unfold f_X5_finds at h
  have hl : lv_has ls 6 [(0, .ref (o 0)), (1, .int x1), (2, .int x2)] := hl
  refine lv_aload_n hx hb dX5_finds_0 rfl (lv_at hl 0 rfl) ?_
  obtain ⟨r_1, v_2, c_3, h⟩ := bd2_ok h
  refine x_Vi (As := []) (w' := fl [mB G o v_2]) X hw (m_X5_here (G := G) (l := l) (o := o) c_3) Cut.all 0 0 rfl rfl rfl (cwV 0 hts gX5_finds_X5_here rfl rfl rfl hd_X5_here ⟨Nat.le_of_ble_eq_true rfl, Nat.le_of_ble_eq_true rfl⟩) rfl hl.1 rfl (Nat.le_of_ble_eq_true rfl) dX5_finds_1 ⟨Nat.le_of_ble_eq_true rfl, Nat.le_of_ble_eq_true rfl⟩ (fun H locs hw => ?_)
  refine lv_istore_n (lv' := [(3, .int r_1), (0, .ref (o 0)), (1, .int x1), (2, .int x2)]) hx hb dX5_finds_4 rfl hl (by decide) rfl (fun ls hl => ?_)
  refine lv_aload_n hx hb dX5_finds_5 rfl (lv_at hl 1 rfl) ?_
  refine x_get (v := .int (M_at v_2)) 0 0 X hw in_X5_finds_5 rfl rfl rfl 8 (by decide) (List.mem_of_getElem? (i := 1) rfl) rfl rfl dX5_finds_6 ?_
  refine lv_istore (lv' := [(4, .int (M_at v_2)), (3, .int r_1), (0, .ref (o 0)), (1, .int x1), (2, .int x2)]) hx hb dX5_finds_9 hl (by decide) rfl (fun ls hl => ?_)
  refine lv_iconst (v := 0) hx hb dX5_finds_11 (by decide) ?_
  refine lv_istore (lv' := [(5, .int 0), (4, .int (M_at v_2)), (3, .int r_1), (0, .ref (o 0)), (1, .int x1), (2, .int x2)]) hx hb dX5_finds_12 hl (by decide) rfl (fun ls hl => ?_)
  exact w_X5_finds_b14 X FU v_2 (M_at v_2) 0 _ _ _ h hw (lv_sub hl [3, 4, 5, 2, 1, 0] rfl)

def rX5_reads : Room := { frames := 2, cells := 0, slots := 0, locals := 47 }
theorem hd_X5_reads : yX5_reads.cls = RX5 ∧ yX5_reads.cls ≠ "java/lang/invoke/MethodHandle" ∧ yX5_reads.cls ≠ "java/lang/invoke/VarHandle" ∧ (parseMethodDescriptor yX5_reads.desc).map (fun d => d.parameters.length) = some 2 := by decide +kernel
theorem in_X5_reads_5 : ∀ w ∈ u_ws RX5 TX5 12, w ∈ wsX5_reads := fun w h => (List.mem_cons_of_mem _ (List.mem_append_right _ h))
noncomputable def f_X5_reads  (v : MV) (x1 : Int32) (x2 : Int32) : Option (Int32 × MV) :=
  bd2 (f_X5_finds v x1 x2) fun r_1 v_2 =>
  br (r_1 = (-1))
    (br (r_1 = (-1))
       (some (0, ((M_ro v_2), (M_sa v_2), (M_od v_2), (M_st v_2), (M_ne v_2), (M_fd v_2), (M_tx v_2), (M_le v_2), (M_at v_2), (M_nu v_2), (M_it v_2), (M_h v_2))))
       (some (1, ((M_ro v_2), (M_sa v_2), (M_od v_2), (M_st v_2), (M_ne v_2), (M_fd v_2), (M_tx v_2), (M_le v_2), (M_at v_2), (M_nu v_2), (M_it v_2), (M_h v_2)))))
    (br (r_1 = (-1))
       (some (0, ((M_ro v_2), (M_sa v_2), (M_od v_2), (M_st v_2), (M_ne v_2), (M_fd v_2), (M_tx v_2), (M_le v_2), r_1, (M_nu v_2), (M_it v_2), (M_h v_2))))
       (some (1, ((M_ro v_2), (M_sa v_2), (M_od v_2), (M_st v_2), (M_ne v_2), (M_fd v_2), (M_tx v_2), (M_le v_2), r_1, (M_nu v_2), (M_it v_2), (M_h v_2)))))
set_option maxHeartbeats 4000000 in
set_option maxRecDepth 100000 in
theorem m_X5_reads {G : GG} {l : Launch} {o : Nat → Nat} {v : MV} {x1 : Int32} {x2 : Int32} {r : Int32} {zv : MV} (h : f_X5_reads v x1 x2 = some (r, zv)) : Ci G l yX5_reads wsX5_reads rX5_reads [.ref (o 0), .int x1, .int x2] (fl [mB G o v]) r (fl [mB G o zv]) := by
  refine Ci.intro cX5_reads 4 (some .boolean) RX5 (by decide) rfl rfl (Nat.le_of_ble_eq_true rfl) ?_
  intro p e s m below meth c A ls X hw hl
  obtain ⟨⟨hx, hb, hml, hown, hts⟩, hK, hr, hlk, hA⟩ := id X
  unfold f_X5_reads at h
  have hl : lv_has ls 4 [(0, .ref (o 0)), (1, .int x1), (2, .int x2)] := hl
  refine lv_aload_n hx hb dX5_reads_0 rfl (lv_at hl 0 rfl) ?_
  refine lv_iload_n hx hb dX5_reads_1 rfl (lv_at hl 1 rfl) ?_
  refine lv_iload_n hx hb dX5_reads_2 rfl (lv_at hl 2 rfl) ?_
  obtain ⟨r_1, v_2, c_3, h⟩ := bd2_ok h
  refine x_Vi (As := [.int x1, .int x2]) (w' := fl [mB G o v_2]) X hw (m_X5_finds (G := G) (l := l) (o := o) c_3) Cut.all 0 0 rfl rfl rfl (cwV 2 hts gX5_reads_X5_finds rfl rfl rfl hd_X5_finds ⟨Nat.le_of_ble_eq_true rfl, Nat.le_of_ble_eq_true rfl⟩) rfl hl.1 rfl (Nat.le_of_ble_eq_true rfl) dX5_reads_3 ⟨Nat.le_of_ble_eq_true rfl, Nat.le_of_ble_eq_true rfl⟩ (fun H locs hw => ?_)
  refine lv_istore_n (lv' := [(3, .int r_1), (0, .ref (o 0)), (1, .int x1), (2, .int x2)]) hx hb dX5_reads_6 rfl hl (by decide) rfl (fun ls hl => ?_)
  refine lv_aload_n hx hb dX5_reads_7 rfl (lv_at hl 1 rfl) ?_
  refine lv_iload_n hx hb dX5_reads_8 rfl (lv_at hl 0 rfl) ?_
  refine lv_iconst (v := (-1)) hx hb dX5_reads_9 (by decide) ?_
  refine lv_icmp_ne (tgt := 20) hx hb dX5_reads_10 (by decide) (fun k_4 => ?_) (fun k_4 => ?_)
  · have h := br_no h k_4
    refine lv_iload_n hx hb dX5_reads_20 rfl (lv_at hl 0 rfl) ?_
    refine x_put (bs' := [mB G o ((M_ro v_2), (M_sa v_2), (M_od v_2), (M_st v_2), (M_ne v_2), (M_fd v_2), (M_tx v_2), (M_le v_2), r_1, (M_nu v_2), (M_it v_2), (M_h v_2))]) 0 0 X hw in_X5_reads_5 tyX5 tyX5_ok nmX5 rfl rfl rfl 8 (by decide) (List.mem_of_getElem? (i := 1) rfl) rfl rfl rfl rfl (Nat.le_of_ble_eq_true rfl) dX5_reads_21 rfl (fun H locs hw => ?_)
    refine lv_iload_n hx hb dX5_reads_24 rfl (lv_at hl 0 rfl) ?_
    refine lv_iconst (v := (-1)) hx hb dX5_reads_25 (by decide) ?_
    refine lv_icmp_eq (tgt := 33) hx hb dX5_reads_26 (by decide) (fun k_5 => ?_) (fun k_5 => ?_)
    · have h := br_yes h k_5
      refine lv_iconst (v := 0) hx hb dX5_reads_33 (by decide) ?_
      cases h
      exact x_iret X (narz (Or.inl rfl)) hw rfl rfl dX5_reads_34
    · have h := br_no h k_5
      refine lv_iconst (v := 1) hx hb dX5_reads_29 (by decide) ?_
      refine lv_goto (tgt := 34) hx hb dX5_reads_30 (by decide) ?_
      cases h
      exact x_iret X (narz (Or.inr rfl)) hw rfl rfl dX5_reads_34
  · have h := br_yes h k_4
    refine lv_aload_n hx hb dX5_reads_13 rfl (lv_at hl 1 rfl) ?_
    refine x_get (v := .int (M_at v_2)) 0 0 X hw in_X5_reads_5 rfl rfl rfl 8 (by decide) (List.mem_of_getElem? (i := 1) rfl) rfl rfl dX5_reads_14 ?_
    refine lv_goto (tgt := 21) hx hb dX5_reads_17 (by decide) ?_
    refine x_put (bs' := [mB G o ((M_ro v_2), (M_sa v_2), (M_od v_2), (M_st v_2), (M_ne v_2), (M_fd v_2), (M_tx v_2), (M_le v_2), (M_at v_2), (M_nu v_2), (M_it v_2), (M_h v_2))]) 0 0 X hw in_X5_reads_5 tyX5 tyX5_ok nmX5 rfl rfl rfl 8 (by decide) (List.mem_of_getElem? (i := 1) rfl) rfl rfl rfl rfl (Nat.le_of_ble_eq_true rfl) dX5_reads_21 rfl (fun H locs hw => ?_)
    refine lv_iload_n hx hb dX5_reads_24 rfl (lv_at hl 0 rfl) ?_
    refine lv_iconst (v := (-1)) hx hb dX5_reads_25 (by decide) ?_
    refine lv_icmp_eq (tgt := 33) hx hb dX5_reads_26 (by decide) (fun k_6 => ?_) (fun k_6 => ?_)
    · have h := br_yes h k_6
      refine lv_iconst (v := 0) hx hb dX5_reads_33 (by decide) ?_
      cases h
      exact x_iret X (narz (Or.inl rfl)) hw rfl rfl dX5_reads_34
    · have h := br_no h k_6
      refine lv_iconst (v := 1) hx hb dX5_reads_29 (by decide) ?_
      refine lv_goto (tgt := 34) hx hb dX5_reads_30 (by decide) ?_
      cases h
      exact x_iret X (narz (Or.inr rfl)) hw rfl rfl dX5_reads_34

def rX5_readsSection : Room := { frames := 3, cells := 0, slots := 0, locals := 70 }
theorem hd_X5_readsSection : yX5_readsSection.cls = RX5 ∧ yX5_readsSection.cls ≠ "java/lang/invoke/MethodHandle" ∧ yX5_readsSection.cls ≠ "java/lang/invoke/VarHandle" ∧ (parseMethodDescriptor yX5_readsSection.desc).map (fun d => d.parameters.length) = some 1 := by decide +kernel
theorem in_X5_readsSection_5 : ∀ w ∈ u_ws RX5 TX5 12, w ∈ wsX5_readsSection := fun w h => (List.mem_cons_of_mem _ (List.mem_append_right _ h))
noncomputable def f_X5_readsSection_b95  (v : MV) (x1 : Int32) (x2 : Int32) (x3 : Int32) : Option (Int32 × MV) :=
  bd (f_X5_lays v x2 x3 (M_nu v) x1) fun v_1 =>
  some (1, v_1)
set_option maxHeartbeats 4000000 in
set_option maxRecDepth 100000 in
theorem w_X5_readsSection_b95 {G : GG} {l : Launch} {p : Program} {e : Env} {s : State} {m : MethodId} {args : Array Value} {below : List Frame} {meth : Method} {c : Code} {A : Nat → Prop} {o : Nat → Nat}  {r : Int32} {zv : MV}   (X : Cx p s m args meth c cX5_readsSection 4 (some .boolean) wsX5_readsSection RX5 G A)  :
    ∀ (v : MV) (x1 : Int32) (x2 : Int32) (x3 : Int32) (H : Heap) (locs : List Loc) (ls : Array Slot), f_X5_readsSection_b95 v x1 x2 x3 = some (r, zv) → Wd G A s H locs (fl [mB G o v]) → lv_has ls 4 [(0, .ref (o 0)), (1, .int x1), (2, .int x2), (3, .int x3)] → W p l e rX5_readsSection s m args below meth c H locs 0 0 (MQ below (Qi G A r (fl [mB G o zv])) args s 0 0 A) (F0 m 95 ls []) := by
  obtain ⟨⟨hx, hb, hml, hown, hts⟩, hK, hr, hlk, hA⟩ := id X
  intro v x1 x2 x3 H locs ls h hw hl
  unfold f_X5_readsSection_b95 at h
  refine lv_aload_n hx hb dX5_readsSection_95 rfl (lv_at hl 0 rfl) ?_
  refine lv_iload_n hx hb dX5_readsSection_96 rfl (lv_at hl 2 rfl) ?_
  refine lv_iload_n hx hb dX5_readsSection_97 rfl (lv_at hl 3 rfl) ?_
  refine lv_aload_n hx hb dX5_readsSection_98 rfl (lv_at hl 0 rfl) ?_
  refine x_get (v := .int (M_nu v)) 0 0 X hw in_X5_readsSection_5 rfl rfl rfl 9 (by decide) (List.mem_of_getElem? (i := 3) rfl) rfl rfl dX5_readsSection_99 ?_
  refine lv_iload_n hx hb dX5_readsSection_102 rfl (lv_at hl 1 rfl) ?_
  obtain ⟨v_1, c_2, h⟩ := bd_ok h
  refine x_Vv (As := [.int x2, .int x3, .int (M_nu v), .int x1]) (w' := fl [mB G o v_1]) X hw (m_X5_lays (G := G) (l := l) (o := o) c_2) Cut.all 0 0 rfl rfl rfl (cwV 4 hts gX5_readsSection_X5_lays rfl rfl rfl hd_X5_lays ⟨Nat.le_of_ble_eq_true rfl, Nat.le_of_ble_eq_true rfl⟩) rfl hl.1 rfl (Nat.le_of_ble_eq_true rfl) dX5_readsSection_103 ⟨Nat.le_of_ble_eq_true rfl, Nat.le_of_ble_eq_true rfl⟩ (fun H locs hw => ?_)
  refine lv_iconst (v := 1) hx hb dX5_readsSection_106 (by decide) ?_
  cases h
  exact x_iret X (narz (Or.inr rfl)) hw rfl rfl dX5_readsSection_107
noncomputable def f_X5_readsSection  (v : MV) (x1 : Int32) : Option (Int32 × MV) :=
  ck (vp_in 0 644) <|
  br (((M_ro v) (0 : Int32).toNatClampNeg) = 12)
    (some (0, v))
    (nm (((M_at v) + 1) : Int32) fun t_3 =>
     bd2 (f_X5_reads ((M_ro v), (M_sa v), (M_od v), (M_st v), (M_ne v), (M_fd v), (M_tx v), (M_le v), t_3, (M_nu v), (M_it v), (M_h v)) 1 5000) fun r_4 v_5 =>
     br (r_4 = 0)
       (some (0, v_5))
       (bd2 (f_X5_sign v_5 47) fun r_8 v_9 =>
        br (r_8 = 0)
          (some (0, v_9))
          (bd2 (f_X5_reads v_9 1 5000) fun r_12 v_13 =>
           br (r_12 = 0)
             (some (0, v_13))
             (bd2 (f_X5_sign ((M_ro v_13), (M_sa v_13), (M_od v_13), (M_st v_13), (M_ne v_13), (M_fd v_13), (M_tx v_13), (M_le v_13), (M_at v_13), 0, (M_it v_13), (M_h v_13)) 45) fun r_16 v_17 =>
              br (r_16 = 0)
                (f_X5_readsSection_b95 v_17 x1 (M_nu v_5) (M_nu v_13))
                (bd2 (f_X5_reads v_17 0 500) fun r_20 v_21 =>
                 br (r_20 = 0)
                   (some (0, v_21))
                   (f_X5_readsSection_b95 v_21 x1 (M_nu v_5) (M_nu v_13)))))))
set_option maxHeartbeats 4000000 in
set_option maxRecDepth 100000 in
theorem m_X5_readsSection {G : GG} {l : Launch} {o : Nat → Nat} {v : MV} {x1 : Int32} {r : Int32} {zv : MV} (h : f_X5_readsSection v x1 = some (r, zv)) : Ci G l yX5_readsSection wsX5_readsSection rX5_readsSection [.ref (o 0), .int x1] (fl [mB G o v]) r (fl [mB G o zv]) := by
  refine Ci.intro cX5_readsSection 4 (some .boolean) RX5 (by decide) rfl rfl (Nat.le_of_ble_eq_true rfl) ?_
  intro p e s m below meth c A ls X hw hl
  obtain ⟨⟨hx, hb, hml, hown, hts⟩, hK, hr, hlk, hA⟩ := id X
  unfold f_X5_readsSection at h
  have hl : lv_has ls 4 [(0, .ref (o 0)), (1, .int x1)] := hl
  refine lv_aload_n hx hb dX5_readsSection_0 rfl (lv_at hl 0 rfl) ?_
  refine x_get (v := .ref (o 1)) 0 0 X hw in_X5_readsSection_5 rfl rfl rfl 0 (by decide) (List.mem_of_getElem? (i := 1) rfl) rfl rfl dX5_readsSection_1 ?_
  refine lv_iconst (v := 0) hx hb dX5_readsSection_4 (by decide) ?_
  obtain ⟨k_1, h⟩ := ck_ok h
  refine x_iald (f := (M_ro v)) 0 1 X hw rfl rfl k_1 dX5_readsSection_5 ?_
  refine lv_bipush (v := 12) hx hb dX5_readsSection_6 (by decide) ?_
  refine lv_icmp_ne (tgt := 13) hx hb dX5_readsSection_8 (by decide) (fun k_2 => ?_) (fun k_2 => ?_)
  · have h := br_no h k_2
    refine lv_aload_n hx hb dX5_readsSection_13 rfl (lv_at hl 0 rfl) ?_
    refine lv_dup hx hb dX5_readsSection_14 rfl ?_
    refine x_get (v := .int (M_at v)) 0 0 X hw in_X5_readsSection_5 rfl rfl rfl 8 (by decide) (List.mem_of_getElem? (i := 2) rfl) rfl rfl dX5_readsSection_15 ?_
    refine lv_iconst (v := 1) hx hb dX5_readsSection_18 (by decide) ?_
    refine lv_iadd hx hb dX5_readsSection_19 ?_
    obtain ⟨t_3, et_3, h⟩ := nm_ok h
    refine x_put (bs' := [mB G o ((M_ro v), (M_sa v), (M_od v), (M_st v), (M_ne v), (M_fd v), (M_tx v), (M_le v), t_3, (M_nu v), (M_it v), (M_h v))]) 0 0 X hw in_X5_readsSection_5 tyX5 tyX5_ok nmX5 rfl rfl rfl 8 (by decide) (List.mem_of_getElem? (i := 2) rfl) rfl rfl rfl rfl (Nat.le_of_ble_eq_true rfl) dX5_readsSection_20 (by rw [et_3]; rfl) (fun H locs hw => ?_)
    refine lv_aload_n hx hb dX5_readsSection_23 rfl (lv_at hl 0 rfl) ?_
    refine lv_iconst (v := 1) hx hb dX5_readsSection_24 (by decide) ?_
    refine lv_sipush (v := 5000) hx hb dX5_readsSection_25 (by decide) ?_
    obtain ⟨r_4, v_5, c_6, h⟩ := bd2_ok h
    refine x_Vi (As := [.int 1, .int 5000]) (w' := fl [mB G o v_5]) X hw (m_X5_reads (G := G) (l := l) (o := o) c_6) Cut.all 0 0 rfl rfl rfl (cwV 2 hts gX5_readsSection_X5_reads rfl rfl rfl hd_X5_reads ⟨Nat.le_of_ble_eq_true rfl, Nat.le_of_ble_eq_true rfl⟩) rfl hl.1 rfl (Nat.le_of_ble_eq_true rfl) dX5_readsSection_28 ⟨Nat.le_of_ble_eq_true rfl, Nat.le_of_ble_eq_true rfl⟩ (fun H locs hw => ?_)
    refine lv_if_ne (tgt := 36) hx hb dX5_readsSection_31 (by decide) (fun k_7 => ?_) (fun k_7 => ?_)
    · have h := br_no h k_7
      refine lv_aload_n hx hb dX5_readsSection_36 rfl (lv_at hl 0 rfl) ?_
      refine x_get (v := .int (M_nu v_5)) 0 0 X hw in_X5_readsSection_5 rfl rfl rfl 9 (by decide) (List.mem_of_getElem? (i := 3) rfl) rfl rfl dX5_readsSection_37 ?_
      refine lv_istore_n (lv' := [(2, .int (M_nu v_5)), (0, .ref (o 0)), (1, .int x1)]) hx hb dX5_readsSection_40 rfl hl (by decide) rfl (fun ls hl => ?_)
      refine lv_aload_n hx hb dX5_readsSection_41 rfl (lv_at hl 1 rfl) ?_
      refine lv_bipush (v := 47) hx hb dX5_readsSection_42 (by decide) ?_
      obtain ⟨r_8, v_9, c_10, h⟩ := bd2_ok h
      refine x_Vi (As := [.int 47]) (w' := fl [mB G o v_9]) X hw (m_X5_sign (G := G) (l := l) (o := o) c_10) Cut.all 0 0 rfl rfl rfl (cwV 1 hts gX5_readsSection_X5_sign rfl rfl rfl hd_X5_sign ⟨Nat.le_of_ble_eq_true rfl, Nat.le_of_ble_eq_true rfl⟩) rfl hl.1 rfl (Nat.le_of_ble_eq_true rfl) dX5_readsSection_44 ⟨Nat.le_of_ble_eq_true rfl, Nat.le_of_ble_eq_true rfl⟩ (fun H locs hw => ?_)
      refine lv_if_eq (tgt := 61) hx hb dX5_readsSection_47 (by decide) (fun k_11 => ?_) (fun k_11 => ?_)
      · have h := br_yes h k_11
        refine lv_iconst (v := 0) hx hb dX5_readsSection_61 (by decide) ?_
        cases h
        exact x_iret X (narz (Or.inl rfl)) hw rfl rfl dX5_readsSection_62
      · have h := br_no h k_11
        refine lv_aload_n hx hb dX5_readsSection_50 rfl (lv_at hl 1 rfl) ?_
        refine lv_iconst (v := 1) hx hb dX5_readsSection_51 (by decide) ?_
        refine lv_sipush (v := 5000) hx hb dX5_readsSection_52 (by decide) ?_
        obtain ⟨r_12, v_13, c_14, h⟩ := bd2_ok h
        refine x_Vi (As := [.int 1, .int 5000]) (w' := fl [mB G o v_13]) X hw (m_X5_reads (G := G) (l := l) (o := o) c_14) Cut.all 0 0 rfl rfl rfl (cwV 2 hts gX5_readsSection_X5_reads rfl rfl rfl hd_X5_reads ⟨Nat.le_of_ble_eq_true rfl, Nat.le_of_ble_eq_true rfl⟩) rfl hl.1 rfl (Nat.le_of_ble_eq_true rfl) dX5_readsSection_55 ⟨Nat.le_of_ble_eq_true rfl, Nat.le_of_ble_eq_true rfl⟩ (fun H locs hw => ?_)
        refine lv_if_ne (tgt := 63) hx hb dX5_readsSection_58 (by decide) (fun k_15 => ?_) (fun k_15 => ?_)
        · have h := br_no h k_15
          refine lv_aload_n hx hb dX5_readsSection_63 rfl (lv_at hl 1 rfl) ?_
          refine x_get (v := .int (M_nu v_13)) 0 0 X hw in_X5_readsSection_5 rfl rfl rfl 9 (by decide) (List.mem_of_getElem? (i := 3) rfl) rfl rfl dX5_readsSection_64 ?_
          refine lv_istore_n (lv' := [(3, .int (M_nu v_13)), (2, .int (M_nu v_5)), (0, .ref (o 0)), (1, .int x1)]) hx hb dX5_readsSection_67 rfl hl (by decide) rfl (fun ls hl => ?_)
          refine lv_aload_n hx hb dX5_readsSection_68 rfl (lv_at hl 2 rfl) ?_
          refine lv_iconst (v := 0) hx hb dX5_readsSection_69 (by decide) ?_
          refine x_put (bs' := [mB G o ((M_ro v_13), (M_sa v_13), (M_od v_13), (M_st v_13), (M_ne v_13), (M_fd v_13), (M_tx v_13), (M_le v_13), (M_at v_13), 0, (M_it v_13), (M_h v_13))]) 0 0 X hw in_X5_readsSection_5 tyX5 tyX5_ok nmX5 rfl rfl rfl 9 (by decide) (List.mem_of_getElem? (i := 3) rfl) rfl rfl rfl rfl (Nat.le_of_ble_eq_true rfl) dX5_readsSection_70 rfl (fun H locs hw => ?_)
          refine lv_aload_n hx hb dX5_readsSection_73 rfl (lv_at hl 2 rfl) ?_
          refine lv_bipush (v := 45) hx hb dX5_readsSection_74 (by decide) ?_
          obtain ⟨r_16, v_17, c_18, h⟩ := bd2_ok h
          refine x_Vi (As := [.int 45]) (w' := fl [mB G o v_17]) X hw (m_X5_sign (G := G) (l := l) (o := o) c_18) Cut.all 0 0 rfl rfl rfl (cwV 1 hts gX5_readsSection_X5_sign rfl rfl rfl hd_X5_sign ⟨Nat.le_of_ble_eq_true rfl, Nat.le_of_ble_eq_true rfl⟩) rfl hl.1 rfl (Nat.le_of_ble_eq_true rfl) dX5_readsSection_76 ⟨Nat.le_of_ble_eq_true rfl, Nat.le_of_ble_eq_true rfl⟩ (fun H locs hw => ?_)
          refine lv_if_eq (tgt := 95) hx hb dX5_readsSection_79 (by decide) (fun k_19 => ?_) (fun k_19 => ?_)
          · have h := br_yes h k_19
            exact w_X5_readsSection_b95 X v_17 x1 (M_nu v_5) (M_nu v_13) _ _ _ h hw (lv_sub hl [2, 3, 1, 0] rfl)
          · have h := br_no h k_19
            refine lv_aload_n hx hb dX5_readsSection_82 rfl (lv_at hl 2 rfl) ?_
            refine lv_iconst (v := 0) hx hb dX5_readsSection_83 (by decide) ?_
            refine lv_sipush (v := 500) hx hb dX5_readsSection_84 (by decide) ?_
            obtain ⟨r_20, v_21, c_22, h⟩ := bd2_ok h
            refine x_Vi (As := [.int 0, .int 500]) (w' := fl [mB G o v_21]) X hw (m_X5_reads (G := G) (l := l) (o := o) c_22) Cut.all 0 0 rfl rfl rfl (cwV 2 hts gX5_readsSection_X5_reads rfl rfl rfl hd_X5_reads ⟨Nat.le_of_ble_eq_true rfl, Nat.le_of_ble_eq_true rfl⟩) rfl hl.1 rfl (Nat.le_of_ble_eq_true rfl) dX5_readsSection_87 ⟨Nat.le_of_ble_eq_true rfl, Nat.le_of_ble_eq_true rfl⟩ (fun H locs hw => ?_)
            refine lv_if_ne (tgt := 95) hx hb dX5_readsSection_90 (by decide) (fun k_23 => ?_) (fun k_23 => ?_)
            · have h := br_no h k_23
              exact w_X5_readsSection_b95 X v_21 x1 (M_nu v_5) (M_nu v_13) _ _ _ h hw (lv_sub hl [2, 3, 1, 0] rfl)
            · have h := br_yes h k_23
              refine lv_iconst (v := 0) hx hb dX5_readsSection_93 (by decide) ?_
              cases h
              exact x_iret X (narz (Or.inl rfl)) hw rfl rfl dX5_readsSection_94
        · have h := br_yes h k_15
          refine lv_iconst (v := 0) hx hb dX5_readsSection_61 (by decide) ?_
          cases h
          exact x_iret X (narz (Or.inl rfl)) hw rfl rfl dX5_readsSection_62
    · have h := br_yes h k_7
      refine lv_iconst (v := 0) hx hb dX5_readsSection_34 (by decide) ?_
      cases h
      exact x_iret X (narz (Or.inl rfl)) hw rfl rfl dX5_readsSection_35
  · have h := br_yes h k_2
    refine lv_iconst (v := 0) hx hb dX5_readsSection_11 (by decide) ?_
    cases h
    exact x_iret X (narz (Or.inl rfl)) hw rfl rfl dX5_readsSection_12

def rX5_readsJoint : Room := { frames := 3, cells := 0, slots := 0, locals := 70 }
theorem hd_X5_readsJoint : yX5_readsJoint.cls = RX5 ∧ yX5_readsJoint.cls ≠ "java/lang/invoke/MethodHandle" ∧ yX5_readsJoint.cls ≠ "java/lang/invoke/VarHandle" ∧ (parseMethodDescriptor yX5_readsJoint.desc).map (fun d => d.parameters.length) = some 0 := by decide +kernel
theorem in_X5_readsJoint_5 : ∀ w ∈ u_ws RX5 TX5 12, w ∈ wsX5_readsJoint := fun w h => (List.mem_cons_of_mem _ (List.mem_append_right _ h))
noncomputable def f_X5_readsJoint  (v : MV)  : Option (Int32 × MV) :=
  ck (vp_in 1 644) <|
  br (((M_ro v) (1 : Int32).toNatClampNeg) = 20)
    (some (0, v))
    (ck (vp_in 0 644) <|
     bd2 (f_X5_reads v 0 (((M_ro v) (0 : Int32).toNatClampNeg) - 1)) fun r_4 v_5 =>
     br (r_4 = 0)
       (some (0, v_5))
       (bd2 (f_X5_sign v_5 61) fun r_8 v_9 =>
        br (r_8 = 0)
          (some (0, v_9))
          (ck (vp_in 0 644) <|
           bd2 (f_X5_finds v_9 0 (((M_ro v_9) (0 : Int32).toNatClampNeg) - 1)) fun r_13 v_14 =>
           br (r_13 = (-1))
             (some (0, v_14))
             (br ((M_nu v_14) = (M_nu v_5))
                (some (0, v_14))
                (bd (f_X5_areNeighbours v_14 (M_nu v_5) (M_nu v_14)) fun r_18 =>
                 br (r_18 = 0)
                   (bd (f_X5_joins ((M_ro v_14), (M_sa v_14), (M_od v_14), (M_st v_14), (M_ne v_14), (M_fd v_14), (M_tx v_14), (M_le v_14), r_13, (M_nu v_14), (M_it v_14), (M_h v_14)) (M_nu v_5) (M_nu v_14)) fun v_21 =>
                    some (1, v_21))
                   (some (0, v_14)))))))
set_option maxHeartbeats 4000000 in
set_option maxRecDepth 100000 in
theorem m_X5_readsJoint {G : GG} {l : Launch} {o : Nat → Nat} {v : MV}  {r : Int32} {zv : MV} (h : f_X5_readsJoint v = some (r, zv)) : Ci G l yX5_readsJoint wsX5_readsJoint rX5_readsJoint [.ref (o 0)] (fl [mB G o v]) r (fl [mB G o zv]) := by
  refine Ci.intro cX5_readsJoint 3 (some .boolean) RX5 (by decide) rfl rfl (Nat.le_of_ble_eq_true rfl) ?_
  intro p e s m below meth c A ls X hw hl
  obtain ⟨⟨hx, hb, hml, hown, hts⟩, hK, hr, hlk, hA⟩ := id X
  unfold f_X5_readsJoint at h
  have hl : lv_has ls 3 [(0, .ref (o 0))] := hl
  refine lv_aload_n hx hb dX5_readsJoint_0 rfl (lv_at hl 0 rfl) ?_
  refine x_get (v := .ref (o 1)) 0 0 X hw in_X5_readsJoint_5 rfl rfl rfl 0 (by decide) (List.mem_of_getElem? (i := 1) rfl) rfl rfl dX5_readsJoint_1 ?_
  refine lv_iconst (v := 1) hx hb dX5_readsJoint_4 (by decide) ?_
  obtain ⟨k_1, h⟩ := ck_ok h
  refine x_iald (f := (M_ro v)) 0 1 X hw rfl rfl k_1 dX5_readsJoint_5 ?_
  refine lv_bipush (v := 20) hx hb dX5_readsJoint_6 (by decide) ?_
  refine lv_icmp_eq (tgt := 27) hx hb dX5_readsJoint_8 (by decide) (fun k_2 => ?_) (fun k_2 => ?_)
  · have h := br_yes h k_2
    refine lv_iconst (v := 0) hx hb dX5_readsJoint_27 (by decide) ?_
    cases h
    exact x_iret X (narz (Or.inl rfl)) hw rfl rfl dX5_readsJoint_28
  · have h := br_no h k_2
    refine lv_aload_n hx hb dX5_readsJoint_11 rfl (lv_at hl 0 rfl) ?_
    refine lv_iconst (v := 0) hx hb dX5_readsJoint_12 (by decide) ?_
    refine lv_aload_n hx hb dX5_readsJoint_13 rfl (lv_at hl 0 rfl) ?_
    refine x_get (v := .ref (o 1)) 0 0 X hw in_X5_readsJoint_5 rfl rfl rfl 0 (by decide) (List.mem_of_getElem? (i := 1) rfl) rfl rfl dX5_readsJoint_14 ?_
    refine lv_iconst (v := 0) hx hb dX5_readsJoint_17 (by decide) ?_
    obtain ⟨k_3, h⟩ := ck_ok h
    refine x_iald (f := (M_ro v)) 0 1 X hw rfl rfl k_3 dX5_readsJoint_18 ?_
    refine lv_iconst (v := 1) hx hb dX5_readsJoint_19 (by decide) ?_
    refine lv_isub hx hb dX5_readsJoint_20 ?_
    obtain ⟨r_4, v_5, c_6, h⟩ := bd2_ok h
    refine x_Vi (As := [.int 0, .int (((M_ro v) (0 : Int32).toNatClampNeg) - 1)]) (w' := fl [mB G o v_5]) X hw (m_X5_reads (G := G) (l := l) (o := o) c_6) Cut.all 0 0 rfl rfl rfl (cwV 2 hts gX5_readsJoint_X5_reads rfl rfl rfl hd_X5_reads ⟨Nat.le_of_ble_eq_true rfl, Nat.le_of_ble_eq_true rfl⟩) rfl hl.1 rfl (Nat.le_of_ble_eq_true rfl) dX5_readsJoint_21 ⟨Nat.le_of_ble_eq_true rfl, Nat.le_of_ble_eq_true rfl⟩ (fun H locs hw => ?_)
    refine lv_if_ne (tgt := 29) hx hb dX5_readsJoint_24 (by decide) (fun k_7 => ?_) (fun k_7 => ?_)
    · have h := br_no h k_7
      refine lv_aload_n hx hb dX5_readsJoint_29 rfl (lv_at hl 0 rfl) ?_
      refine x_get (v := .int (M_nu v_5)) 0 0 X hw in_X5_readsJoint_5 rfl rfl rfl 9 (by decide) (List.mem_of_getElem? (i := 2) rfl) rfl rfl dX5_readsJoint_30 ?_
      refine lv_istore_n (lv' := [(1, .int (M_nu v_5)), (0, .ref (o 0))]) hx hb dX5_readsJoint_33 rfl hl (by decide) rfl (fun ls hl => ?_)
      refine lv_aload_n hx hb dX5_readsJoint_34 rfl (lv_at hl 1 rfl) ?_
      refine lv_bipush (v := 61) hx hb dX5_readsJoint_35 (by decide) ?_
      obtain ⟨r_8, v_9, c_10, h⟩ := bd2_ok h
      refine x_Vi (As := [.int 61]) (w' := fl [mB G o v_9]) X hw (m_X5_sign (G := G) (l := l) (o := o) c_10) Cut.all 0 0 rfl rfl rfl (cwV 1 hts gX5_readsJoint_X5_sign rfl rfl rfl hd_X5_sign ⟨Nat.le_of_ble_eq_true rfl, Nat.le_of_ble_eq_true rfl⟩) rfl hl.1 rfl (Nat.le_of_ble_eq_true rfl) dX5_readsJoint_37 ⟨Nat.le_of_ble_eq_true rfl, Nat.le_of_ble_eq_true rfl⟩ (fun H locs hw => ?_)
      refine lv_if_ne (tgt := 45) hx hb dX5_readsJoint_40 (by decide) (fun k_11 => ?_) (fun k_11 => ?_)
      · have h := br_no h k_11
        refine lv_aload_n hx hb dX5_readsJoint_45 rfl (lv_at hl 1 rfl) ?_
        refine lv_iconst (v := 0) hx hb dX5_readsJoint_46 (by decide) ?_
        refine lv_aload_n hx hb dX5_readsJoint_47 rfl (lv_at hl 1 rfl) ?_
        refine x_get (v := .ref (o 1)) 0 0 X hw in_X5_readsJoint_5 rfl rfl rfl 0 (by decide) (List.mem_of_getElem? (i := 1) rfl) rfl rfl dX5_readsJoint_48 ?_
        refine lv_iconst (v := 0) hx hb dX5_readsJoint_51 (by decide) ?_
        obtain ⟨k_12, h⟩ := ck_ok h
        refine x_iald (f := (M_ro v_9)) 0 1 X hw rfl rfl k_12 dX5_readsJoint_52 ?_
        refine lv_iconst (v := 1) hx hb dX5_readsJoint_53 (by decide) ?_
        refine lv_isub hx hb dX5_readsJoint_54 ?_
        obtain ⟨r_13, v_14, c_15, h⟩ := bd2_ok h
        refine x_Vi (As := [.int 0, .int (((M_ro v_9) (0 : Int32).toNatClampNeg) - 1)]) (w' := fl [mB G o v_14]) X hw (m_X5_finds (G := G) (l := l) (o := o) c_15) Cut.all 0 0 rfl rfl rfl (cwV 2 hts gX5_readsJoint_X5_finds rfl rfl rfl hd_X5_finds ⟨Nat.le_of_ble_eq_true rfl, Nat.le_of_ble_eq_true rfl⟩) rfl hl.1 rfl (Nat.le_of_ble_eq_true rfl) dX5_readsJoint_55 ⟨Nat.le_of_ble_eq_true rfl, Nat.le_of_ble_eq_true rfl⟩ (fun H locs hw => ?_)
        refine lv_istore_n (lv' := [(2, .int r_13), (1, .int (M_nu v_5)), (0, .ref (o 0))]) hx hb dX5_readsJoint_58 rfl hl (by decide) rfl (fun ls hl => ?_)
        refine lv_iload_n hx hb dX5_readsJoint_59 rfl (lv_at hl 0 rfl) ?_
        refine lv_iconst (v := (-1)) hx hb dX5_readsJoint_60 (by decide) ?_
        refine lv_icmp_eq (tgt := 84) hx hb dX5_readsJoint_61 (by decide) (fun k_16 => ?_) (fun k_16 => ?_)
        · have h := br_yes h k_16
          refine lv_iconst (v := 0) hx hb dX5_readsJoint_84 (by decide) ?_
          cases h
          exact x_iret X (narz (Or.inl rfl)) hw rfl rfl dX5_readsJoint_85
        · have h := br_no h k_16
          refine lv_aload_n hx hb dX5_readsJoint_64 rfl (lv_at hl 2 rfl) ?_
          refine x_get (v := .int (M_nu v_14)) 0 0 X hw in_X5_readsJoint_5 rfl rfl rfl 9 (by decide) (List.mem_of_getElem? (i := 2) rfl) rfl rfl dX5_readsJoint_65 ?_
          refine lv_iload_n hx hb dX5_readsJoint_68 rfl (lv_at hl 1 rfl) ?_
          refine lv_icmp_eq (tgt := 84) hx hb dX5_readsJoint_69 (by decide) (fun k_17 => ?_) (fun k_17 => ?_)
          · have h := br_yes h k_17
            refine lv_iconst (v := 0) hx hb dX5_readsJoint_84 (by decide) ?_
            cases h
            exact x_iret X (narz (Or.inl rfl)) hw rfl rfl dX5_readsJoint_85
          · have h := br_no h k_17
            refine lv_aload_n hx hb dX5_readsJoint_72 rfl (lv_at hl 2 rfl) ?_
            refine lv_iload_n hx hb dX5_readsJoint_73 rfl (lv_at hl 1 rfl) ?_
            refine lv_aload_n hx hb dX5_readsJoint_74 rfl (lv_at hl 2 rfl) ?_
            refine x_get (v := .int (M_nu v_14)) 0 0 X hw in_X5_readsJoint_5 rfl rfl rfl 9 (by decide) (List.mem_of_getElem? (i := 2) rfl) rfl rfl dX5_readsJoint_75 ?_
            obtain ⟨r_18, c_19, h⟩ := bd_ok h
            refine x_Vi (As := [.int (M_nu v_5), .int (M_nu v_14)]) (w' := fl [mB G o v_14]) X hw (m_X5_areNeighbours (G := G) (l := l) (o := o) c_19) Cut.all 0 0 rfl rfl rfl (cwV 2 hts gX5_readsJoint_X5_areNeighbours rfl rfl rfl hd_X5_areNeighbours ⟨Nat.le_of_ble_eq_true rfl, Nat.le_of_ble_eq_true rfl⟩) rfl hl.1 rfl (Nat.le_of_ble_eq_true rfl) dX5_readsJoint_78 ⟨Nat.le_of_ble_eq_true rfl, Nat.le_of_ble_eq_true rfl⟩ (fun H locs hw => ?_)
            refine lv_if_eq (tgt := 86) hx hb dX5_readsJoint_81 (by decide) (fun k_20 => ?_) (fun k_20 => ?_)
            · have h := br_yes h k_20
              refine lv_aload_n hx hb dX5_readsJoint_86 rfl (lv_at hl 2 rfl) ?_
              refine lv_iload_n hx hb dX5_readsJoint_87 rfl (lv_at hl 0 rfl) ?_
              refine x_put (bs' := [mB G o ((M_ro v_14), (M_sa v_14), (M_od v_14), (M_st v_14), (M_ne v_14), (M_fd v_14), (M_tx v_14), (M_le v_14), r_13, (M_nu v_14), (M_it v_14), (M_h v_14))]) 0 0 X hw in_X5_readsJoint_5 tyX5 tyX5_ok nmX5 rfl rfl rfl 8 (by decide) (List.mem_of_getElem? (i := 3) rfl) rfl rfl rfl rfl (Nat.le_of_ble_eq_true rfl) dX5_readsJoint_88 rfl (fun H locs hw => ?_)
              refine lv_aload_n hx hb dX5_readsJoint_91 rfl (lv_at hl 2 rfl) ?_
              refine lv_iload_n hx hb dX5_readsJoint_92 rfl (lv_at hl 1 rfl) ?_
              refine lv_aload_n hx hb dX5_readsJoint_93 rfl (lv_at hl 2 rfl) ?_
              refine x_get (v := .int (M_nu v_14)) 0 0 X hw in_X5_readsJoint_5 rfl rfl rfl 9 (by decide) (List.mem_of_getElem? (i := 2) rfl) rfl rfl dX5_readsJoint_94 ?_
              obtain ⟨v_21, c_22, h⟩ := bd_ok h
              refine x_Vv (As := [.int (M_nu v_5), .int (M_nu v_14)]) (w' := fl [mB G o v_21]) X hw (m_X5_joins (G := G) (l := l) (o := o) c_22) Cut.all 0 0 rfl rfl rfl (cwV 2 hts gX5_readsJoint_X5_joins rfl rfl rfl hd_X5_joins ⟨Nat.le_of_ble_eq_true rfl, Nat.le_of_ble_eq_true rfl⟩) rfl hl.1 rfl (Nat.le_of_ble_eq_true rfl) dX5_readsJoint_97 ⟨Nat.le_of_ble_eq_true rfl, Nat.le_of_ble_eq_true rfl⟩ (fun H locs hw => ?_)
              refine lv_iconst (v := 1) hx hb dX5_readsJoint_100 (by decide) ?_
              cases h
              exact x_iret X (narz (Or.inr rfl)) hw rfl rfl dX5_readsJoint_101
            · have h := br_no h k_20
              refine lv_iconst (v := 0) hx hb dX5_readsJoint_84 (by decide) ?_
              cases h
              exact x_iret X (narz (Or.inl rfl)) hw rfl rfl dX5_readsJoint_85
      · have h := br_yes h k_11
        refine lv_iconst (v := 0) hx hb dX5_readsJoint_43 (by decide) ?_
        cases h
        exact x_iret X (narz (Or.inl rfl)) hw rfl rfl dX5_readsJoint_44
    · have h := br_yes h k_7
      refine lv_iconst (v := 0) hx hb dX5_readsJoint_27 (by decide) ?_
      cases h
      exact x_iret X (narz (Or.inl rfl)) hw rfl rfl dX5_readsJoint_28

def rX5_readsItem : Room := { frames := 4, cells := 0, slots := 0, locals := 93 }
theorem hd_X5_readsItem : yX5_readsItem.cls = RX5 ∧ yX5_readsItem.cls ≠ "java/lang/invoke/MethodHandle" ∧ yX5_readsItem.cls ≠ "java/lang/invoke/VarHandle" ∧ (parseMethodDescriptor yX5_readsItem.desc).map (fun d => d.parameters.length) = some 0 := by decide +kernel
theorem in_X5_readsItem_5 : ∀ w ∈ u_ws RX5 TX5 12, w ∈ wsX5_readsItem := fun w h => (List.mem_cons_of_mem _ (List.mem_append_right _ h))
noncomputable def f_X5_readsItem_b27  (v : MV) (x1 : Int32) : Option (Int32 × MV) :=
  br (x1 = 102)
    (bd2 (f_X5_readsSection v 1) fun r_6 v_7 =>
     ck (r_6 = 0 ∨ r_6 = 1) <|
     some (r_6, v_7))
    (bd2 (f_X5_readsSection v 0) fun r_2 v_3 =>
     ck (r_2 = 0 ∨ r_2 = 1) <|
     some (r_2, v_3))
set_option maxHeartbeats 4000000 in
set_option maxRecDepth 100000 in
theorem w_X5_readsItem_b27 {G : GG} {l : Launch} {p : Program} {e : Env} {s : State} {m : MethodId} {args : Array Value} {below : List Frame} {meth : Method} {c : Code} {A : Nat → Prop} {o : Nat → Nat}  {r : Int32} {zv : MV}   (X : Cx p s m args meth c cX5_readsItem 2 (some .boolean) wsX5_readsItem RX5 G A)  :
    ∀ (v : MV) (x1 : Int32) (H : Heap) (locs : List Loc) (ls : Array Slot), f_X5_readsItem_b27 v x1 = some (r, zv) → Wd G A s H locs (fl [mB G o v]) → lv_has ls 2 [(0, .ref (o 0)), (1, .int x1)] → W p l e rX5_readsItem s m args below meth c H locs 0 0 (MQ below (Qi G A r (fl [mB G o zv])) args s 0 0 A) (F0 m 27 ls []) := by
  obtain ⟨⟨hx, hb, hml, hown, hts⟩, hK, hr, hlk, hA⟩ := id X
  intro v x1 H locs ls h hw hl
  unfold f_X5_readsItem_b27 at h
  refine lv_aload_n hx hb dX5_readsItem_27 rfl (lv_at hl 0 rfl) ?_
  refine lv_iload_n hx hb dX5_readsItem_28 rfl (lv_at hl 1 rfl) ?_
  refine lv_bipush (v := 102) hx hb dX5_readsItem_29 (by decide) ?_
  refine lv_icmp_ne (tgt := 38) hx hb dX5_readsItem_31 (by decide) (fun k_1 => ?_) (fun k_1 => ?_)
  · have h := br_no h k_1
    refine lv_iconst (v := 0) hx hb dX5_readsItem_38 (by decide) ?_
    obtain ⟨r_2, v_3, c_4, h⟩ := bd2_ok h
    refine x_Vi (As := [.int 0]) (w' := fl [mB G o v_3]) X hw (m_X5_readsSection (G := G) (l := l) (o := o) c_4) Cut.all 0 0 rfl rfl rfl (cwV 1 hts gX5_readsItem_X5_readsSection rfl rfl rfl hd_X5_readsSection ⟨Nat.le_of_ble_eq_true rfl, Nat.le_of_ble_eq_true rfl⟩) rfl hl.1 rfl (Nat.le_of_ble_eq_true rfl) dX5_readsItem_39 ⟨Nat.le_of_ble_eq_true rfl, Nat.le_of_ble_eq_true rfl⟩ (fun H locs hw => ?_)
    refine lv_goto (tgt := 49) hx hb dX5_readsItem_42 (by decide) ?_
    obtain ⟨k_5, h⟩ := ck_ok h
    cases h
    exact x_iret X (narz k_5) hw rfl rfl dX5_readsItem_49
  · have h := br_yes h k_1
    refine lv_iconst (v := 1) hx hb dX5_readsItem_34 (by decide) ?_
    refine lv_goto (tgt := 39) hx hb dX5_readsItem_35 (by decide) ?_
    obtain ⟨r_6, v_7, c_8, h⟩ := bd2_ok h
    refine x_Vi (As := [.int 1]) (w' := fl [mB G o v_7]) X hw (m_X5_readsSection (G := G) (l := l) (o := o) c_8) Cut.all 0 0 rfl rfl rfl (cwV 1 hts gX5_readsItem_X5_readsSection rfl rfl rfl hd_X5_readsSection ⟨Nat.le_of_ble_eq_true rfl, Nat.le_of_ble_eq_true rfl⟩) rfl hl.1 rfl (Nat.le_of_ble_eq_true rfl) dX5_readsItem_39 ⟨Nat.le_of_ble_eq_true rfl, Nat.le_of_ble_eq_true rfl⟩ (fun H locs hw => ?_)
    refine lv_goto (tgt := 49) hx hb dX5_readsItem_42 (by decide) ?_
    obtain ⟨k_9, h⟩ := ck_ok h
    cases h
    exact x_iret X (narz k_9) hw rfl rfl dX5_readsItem_49
noncomputable def f_X5_readsItem  (v : MV)  : Option (Int32 × MV) :=
  bd2 (f_X5_here v) fun r_1 v_2 =>
  nm (((M_it v_2) + 1) : Int32) fun t_4 =>
  br (r_1 = 99)
    (f_X5_readsItem_b27 ((M_ro v_2), (M_sa v_2), (M_od v_2), (M_st v_2), (M_ne v_2), (M_fd v_2), (M_tx v_2), (M_le v_2), (M_at v_2), (M_nu v_2), t_4, (M_h v_2)) r_1)
    (br (r_1 = 102)
       (f_X5_readsItem_b27 ((M_ro v_2), (M_sa v_2), (M_od v_2), (M_st v_2), (M_ne v_2), (M_fd v_2), (M_tx v_2), (M_le v_2), (M_at v_2), (M_nu v_2), t_4, (M_h v_2)) r_1)
       (bd2 (f_X5_readsJoint ((M_ro v_2), (M_sa v_2), (M_od v_2), (M_st v_2), (M_ne v_2), (M_fd v_2), (M_tx v_2), (M_le v_2), (M_at v_2), (M_nu v_2), t_4, (M_h v_2))) fun r_7 v_8 =>
        ck (r_7 = 0 ∨ r_7 = 1) <|
        some (r_7, v_8)))
set_option maxHeartbeats 4000000 in
set_option maxRecDepth 100000 in
theorem m_X5_readsItem {G : GG} {l : Launch} {o : Nat → Nat} {v : MV}  {r : Int32} {zv : MV} (h : f_X5_readsItem v = some (r, zv)) : Ci G l yX5_readsItem wsX5_readsItem rX5_readsItem [.ref (o 0)] (fl [mB G o v]) r (fl [mB G o zv]) := by
  refine Ci.intro cX5_readsItem 2 (some .boolean) RX5 (by decide) rfl rfl (Nat.le_of_ble_eq_true rfl) ?_
  intro p e s m below meth c A ls X hw hl
  obtain ⟨⟨hx, hb, hml, hown, hts⟩, hK, hr, hlk, hA⟩ := id X
  unfold f_X5_readsItem at h
  have hl : lv_has ls 2 [(0, .ref (o 0))] := hl
  refine lv_aload_n hx hb dX5_readsItem_0 rfl (lv_at hl 0 rfl) ?_
  obtain ⟨r_1, v_2, c_3, h⟩ := bd2_ok h
  refine x_Vi (As := []) (w' := fl [mB G o v_2]) X hw (m_X5_here (G := G) (l := l) (o := o) c_3) Cut.all 0 0 rfl rfl rfl (cwV 0 hts gX5_readsItem_X5_here rfl rfl rfl hd_X5_here ⟨Nat.le_of_ble_eq_true rfl, Nat.le_of_ble_eq_true rfl⟩) rfl hl.1 rfl (Nat.le_of_ble_eq_true rfl) dX5_readsItem_1 ⟨Nat.le_of_ble_eq_true rfl, Nat.le_of_ble_eq_true rfl⟩ (fun H locs hw => ?_)
  refine lv_istore_n (lv' := [(1, .int r_1), (0, .ref (o 0))]) hx hb dX5_readsItem_4 rfl hl (by decide) rfl (fun ls hl => ?_)
  refine lv_aload_n hx hb dX5_readsItem_5 rfl (lv_at hl 1 rfl) ?_
  refine lv_dup hx hb dX5_readsItem_6 rfl ?_
  refine x_get (v := .int (M_it v_2)) 0 0 X hw in_X5_readsItem_5 rfl rfl rfl 10 (by decide) (List.mem_of_getElem? (i := 1) rfl) rfl rfl dX5_readsItem_7 ?_
  refine lv_iconst (v := 1) hx hb dX5_readsItem_10 (by decide) ?_
  refine lv_iadd hx hb dX5_readsItem_11 ?_
  obtain ⟨t_4, et_4, h⟩ := nm_ok h
  refine x_put (bs' := [mB G o ((M_ro v_2), (M_sa v_2), (M_od v_2), (M_st v_2), (M_ne v_2), (M_fd v_2), (M_tx v_2), (M_le v_2), (M_at v_2), (M_nu v_2), t_4, (M_h v_2))]) 0 0 X hw in_X5_readsItem_5 tyX5 tyX5_ok nmX5 rfl rfl rfl 10 (by decide) (List.mem_of_getElem? (i := 1) rfl) rfl rfl rfl rfl (Nat.le_of_ble_eq_true rfl) dX5_readsItem_12 (by rw [et_4]; rfl) (fun H locs hw => ?_)
  refine lv_iload_n hx hb dX5_readsItem_15 rfl (lv_at hl 0 rfl) ?_
  refine lv_bipush (v := 99) hx hb dX5_readsItem_16 (by decide) ?_
  refine lv_icmp_eq (tgt := 27) hx hb dX5_readsItem_18 (by decide) (fun k_5 => ?_) (fun k_5 => ?_)
  · have h := br_yes h k_5
    exact w_X5_readsItem_b27 X ((M_ro v_2), (M_sa v_2), (M_od v_2), (M_st v_2), (M_ne v_2), (M_fd v_2), (M_tx v_2), (M_le v_2), (M_at v_2), (M_nu v_2), t_4, (M_h v_2)) r_1 _ _ _ h hw (lv_sub hl [1, 0] rfl)
  · have h := br_no h k_5
    refine lv_iload_n hx hb dX5_readsItem_21 rfl (lv_at hl 0 rfl) ?_
    refine lv_bipush (v := 102) hx hb dX5_readsItem_22 (by decide) ?_
    refine lv_icmp_ne (tgt := 45) hx hb dX5_readsItem_24 (by decide) (fun k_6 => ?_) (fun k_6 => ?_)
    · have h := br_no h k_6
      refine lv_aload_n hx hb dX5_readsItem_45 rfl (lv_at hl 1 rfl) ?_
      obtain ⟨r_7, v_8, c_9, h⟩ := bd2_ok h
      refine x_Vi (As := []) (w' := fl [mB G o v_8]) X hw (m_X5_readsJoint (G := G) (l := l) (o := o) c_9) Cut.all 0 0 rfl rfl rfl (cwV 0 hts gX5_readsItem_X5_readsJoint rfl rfl rfl hd_X5_readsJoint ⟨Nat.le_of_ble_eq_true rfl, Nat.le_of_ble_eq_true rfl⟩) rfl hl.1 rfl (Nat.le_of_ble_eq_true rfl) dX5_readsItem_46 ⟨Nat.le_of_ble_eq_true rfl, Nat.le_of_ble_eq_true rfl⟩ (fun H locs hw => ?_)
      obtain ⟨k_10, h⟩ := ck_ok h
      cases h
      exact x_iret X (narz k_10) hw rfl rfl dX5_readsItem_49
    · have h := br_yes h k_6
      exact w_X5_readsItem_b27 X ((M_ro v_2), (M_sa v_2), (M_od v_2), (M_st v_2), (M_ne v_2), (M_fd v_2), (M_tx v_2), (M_le v_2), (M_at v_2), (M_nu v_2), t_4, (M_h v_2)) r_1 _ _ _ h hw (lv_sub hl [1, 0] rfl)

def rX5_readsText : Room := { frames := 5, cells := 0, slots := 0, locals := 114 }
theorem hd_X5_readsText : yX5_readsText.cls = RX5 ∧ yX5_readsText.cls ≠ "java/lang/invoke/MethodHandle" ∧ yX5_readsText.cls ≠ "java/lang/invoke/VarHandle" ∧ (parseMethodDescriptor yX5_readsText.desc).map (fun d => d.parameters.length) = some 0 := by decide +kernel
theorem in_X5_readsText_5 : ∀ w ∈ u_ws RX5 TX5 12, w ∈ wsX5_readsText := fun w h => (List.mem_cons_of_mem _ (List.mem_append_right _ h))
noncomputable def f_X5_readsText_b50  (k20 : MV → Int32 → Int32 → Option (Int32 × MV)) (v : MV) (y0 : Int32) : Option (Int32 × MV) :=
  bd2 (f_X5_here v) fun r_1 v_2 =>
  k20 v_2 y0 r_1
set_option maxHeartbeats 4000000 in
set_option maxRecDepth 100000 in
theorem w_X5_readsText_b50 {G : GG} {l : Launch} {p : Program} {e : Env} {s : State} {m : MethodId} {args : Array Value} {below : List Frame} {meth : Method} {c : Code} {A : Nat → Prop} {o : Nat → Nat}  {r : Int32} {zv : MV}  {k20 : MV → Int32 → Int32 → Option (Int32 × MV)} (X : Cx p s m args meth c cX5_readsText 3 (some .boolean) wsX5_readsText RX5 G A) (hk20 : ∀ (v : MV) (x1 : Int32) (x2 : Int32) (H : Heap) (locs : List Loc) (ls : Array Slot), k20 v x1 x2 = some (r, zv) → Wd G A s H locs (fl [mB G o v]) → lv_has ls 3 [(0, .ref (o 0)), (1, .int x1), (2, .int x2)] → W p l e rX5_readsText s m args below meth c H locs 0 0 (MQ below (Qi G A r (fl [mB G o zv])) args s 0 0 A) (F0 m 20 ls [])) :
    ∀ (v : MV) (y0 : Int32) (H : Heap) (locs : List Loc) (ls : Array Slot), f_X5_readsText_b50 k20 v y0 = some (r, zv) → Wd G A s H locs (fl [mB G o v]) → lv_has ls 3 [(0, .ref (o 0))] → W p l e rX5_readsText s m args below meth c H locs 0 0 (MQ below (Qi G A r (fl [mB G o zv])) args s 0 0 A) (F0 m 50 ls [.int y0]) := by
  obtain ⟨⟨hx, hb, hml, hown, hts⟩, hK, hr, hlk, hA⟩ := id X
  intro v y0 H locs ls h hw hl
  unfold f_X5_readsText_b50 at h
  refine lv_istore_n (lv' := [(1, .int y0), (0, .ref (o 0))]) hx hb dX5_readsText_50 rfl hl (by decide) rfl (fun ls hl => ?_)
  refine lv_aload_n hx hb dX5_readsText_51 rfl (lv_at hl 1 rfl) ?_
  obtain ⟨r_1, v_2, c_3, h⟩ := bd2_ok h
  refine x_Vi (As := []) (w' := fl [mB G o v_2]) X hw (m_X5_here (G := G) (l := l) (o := o) c_3) Cut.all 0 0 rfl rfl rfl (cwV 0 hts gX5_readsText_X5_here rfl rfl rfl hd_X5_here ⟨Nat.le_of_ble_eq_true rfl, Nat.le_of_ble_eq_true rfl⟩) rfl hl.1 rfl (Nat.le_of_ble_eq_true rfl) dX5_readsText_52 ⟨Nat.le_of_ble_eq_true rfl, Nat.le_of_ble_eq_true rfl⟩ (fun H locs hw => ?_)
  refine lv_istore_n (lv' := [(2, .int r_1), (1, .int y0), (0, .ref (o 0))]) hx hb dX5_readsText_55 rfl hl (by decide) rfl (fun ls hl => ?_)
  refine lv_goto (tgt := 20) hx hb dX5_readsText_56 (by decide) ?_
  exact hk20 v_2 y0 r_1 _ _ _ h hw (lv_sub hl [2, 1, 0] rfl)
noncomputable def f_X5_readsText_b49  (k20 : MV → Int32 → Int32 → Option (Int32 × MV)) (v : MV) : Option (Int32 × MV) :=
  f_X5_readsText_b50 k20 v 0
set_option maxHeartbeats 4000000 in
set_option maxRecDepth 100000 in
theorem w_X5_readsText_b49 {G : GG} {l : Launch} {p : Program} {e : Env} {s : State} {m : MethodId} {args : Array Value} {below : List Frame} {meth : Method} {c : Code} {A : Nat → Prop} {o : Nat → Nat}  {r : Int32} {zv : MV}  {k20 : MV → Int32 → Int32 → Option (Int32 × MV)} (X : Cx p s m args meth c cX5_readsText 3 (some .boolean) wsX5_readsText RX5 G A) (hk20 : ∀ (v : MV) (x1 : Int32) (x2 : Int32) (H : Heap) (locs : List Loc) (ls : Array Slot), k20 v x1 x2 = some (r, zv) → Wd G A s H locs (fl [mB G o v]) → lv_has ls 3 [(0, .ref (o 0)), (1, .int x1), (2, .int x2)] → W p l e rX5_readsText s m args below meth c H locs 0 0 (MQ below (Qi G A r (fl [mB G o zv])) args s 0 0 A) (F0 m 20 ls [])) :
    ∀ (v : MV) (H : Heap) (locs : List Loc) (ls : Array Slot), f_X5_readsText_b49 k20 v = some (r, zv) → Wd G A s H locs (fl [mB G o v]) → lv_has ls 3 [(0, .ref (o 0))] → W p l e rX5_readsText s m args below meth c H locs 0 0 (MQ below (Qi G A r (fl [mB G o zv])) args s 0 0 A) (F0 m 49 ls []) := by
  obtain ⟨⟨hx, hb, hml, hown, hts⟩, hK, hr, hlk, hA⟩ := id X
  intro v H locs ls h hw hl
  unfold f_X5_readsText_b49 at h
  refine lv_iconst (v := 0) hx hb dX5_readsText_49 (by decide) ?_
  exact w_X5_readsText_b50 X hk20 v 0 _ _ _ h hw (lv_sub hl [0] rfl)
noncomputable def f_X5_readsText_b20   : Nat → MV → Int32 → Int32 → Option (Int32 × MV)
  | 0 => fun _ _ _ => none
  | n + 1 => fun v x1 x2 =>
    br (x1 = 0)
      (ck (x1 = 0 ∨ x1 = 1) <|
       some (x1, v))
      (br (x2 = (-1))
         (ck (x1 = 0 ∨ x1 = 1) <|
          some (x1, v))
         (bd2 (f_X5_sign v 59) fun r_5 v_6 =>
          br (r_5 = 0)
            (f_X5_readsText_b49 (f_X5_readsText_b20 n) v_6)
            (bd2 (f_X5_readsItem v_6) fun r_9 v_10 =>
             br (r_9 = 0)
               (f_X5_readsText_b49 (f_X5_readsText_b20 n) v_10)
               (f_X5_readsText_b50 (f_X5_readsText_b20 n) v_10 1))))
set_option maxHeartbeats 4000000 in
set_option maxRecDepth 100000 in
theorem w_X5_readsText_b20 {G : GG} {l : Launch} {p : Program} {e : Env} {s : State} {m : MethodId} {args : Array Value} {below : List Frame} {meth : Method} {c : Code} {A : Nat → Prop} {o : Nat → Nat}  {r : Int32} {zv : MV}   (X : Cx p s m args meth c cX5_readsText 3 (some .boolean) wsX5_readsText RX5 G A)  :
    ∀ (n : Nat) (v : MV) (x1 : Int32) (x2 : Int32) (H : Heap) (locs : List Loc) (ls : Array Slot), f_X5_readsText_b20 n v x1 x2 = some (r, zv) → Wd G A s H locs (fl [mB G o v]) → lv_has ls 3 [(0, .ref (o 0)), (1, .int x1), (2, .int x2)] → W p l e rX5_readsText s m args below meth c H locs 0 0 (MQ below (Qi G A r (fl [mB G o zv])) args s 0 0 A) (F0 m 20 ls []) := by
  obtain ⟨⟨hx, hb, hml, hown, hts⟩, hK, hr, hlk, hA⟩ := id X
  intro n
  induction n with
  | zero =>
    intro v x1 x2 H locs ls h
    rw [f_X5_readsText_b20] at h
    cases h
  | succ n ih =>
    intro v x1 x2 H locs ls h hw hl
    rw [f_X5_readsText_b20] at h
    refine lv_iload_n hx hb dX5_readsText_20 rfl (lv_at hl 1 rfl) ?_
    refine lv_if_eq (tgt := 59) hx hb dX5_readsText_21 (by decide) (fun k_1 => ?_) (fun k_1 => ?_)
    · have h := br_yes h k_1
      refine lv_iload_n hx hb dX5_readsText_59 rfl (lv_at hl 1 rfl) ?_
      obtain ⟨k_2, h⟩ := ck_ok h
      cases h
      exact x_iret X (narz k_2) hw rfl rfl dX5_readsText_60
    · have h := br_no h k_1
      refine lv_iload_n hx hb dX5_readsText_24 rfl (lv_at hl 2 rfl) ?_
      refine lv_iconst (v := (-1)) hx hb dX5_readsText_25 (by decide) ?_
      refine lv_icmp_eq (tgt := 59) hx hb dX5_readsText_26 (by decide) (fun k_3 => ?_) (fun k_3 => ?_)
      · have h := br_yes h k_3
        refine lv_iload_n hx hb dX5_readsText_59 rfl (lv_at hl 1 rfl) ?_
        obtain ⟨k_4, h⟩ := ck_ok h
        cases h
        exact x_iret X (narz k_4) hw rfl rfl dX5_readsText_60
      · have h := br_no h k_3
        refine lv_aload_n hx hb dX5_readsText_29 rfl (lv_at hl 0 rfl) ?_
        refine lv_bipush (v := 59) hx hb dX5_readsText_30 (by decide) ?_
        obtain ⟨r_5, v_6, c_7, h⟩ := bd2_ok h
        refine x_Vi (As := [.int 59]) (w' := fl [mB G o v_6]) X hw (m_X5_sign (G := G) (l := l) (o := o) c_7) Cut.all 0 0 rfl rfl rfl (cwV 1 hts gX5_readsText_X5_sign rfl rfl rfl hd_X5_sign ⟨Nat.le_of_ble_eq_true rfl, Nat.le_of_ble_eq_true rfl⟩) rfl hl.1 rfl (Nat.le_of_ble_eq_true rfl) dX5_readsText_32 ⟨Nat.le_of_ble_eq_true rfl, Nat.le_of_ble_eq_true rfl⟩ (fun H locs hw => ?_)
        refine lv_if_eq (tgt := 49) hx hb dX5_readsText_35 (by decide) (fun k_8 => ?_) (fun k_8 => ?_)
        · have h := br_yes h k_8
          exact w_X5_readsText_b49 X ih v_6 _ _ _ h hw (lv_sub hl [0] rfl)
        · have h := br_no h k_8
          refine lv_aload_n hx hb dX5_readsText_38 rfl (lv_at hl 0 rfl) ?_
          obtain ⟨r_9, v_10, c_11, h⟩ := bd2_ok h
          refine x_Vi (As := []) (w' := fl [mB G o v_10]) X hw (m_X5_readsItem (G := G) (l := l) (o := o) c_11) Cut.all 0 0 rfl rfl rfl (cwV 0 hts gX5_readsText_X5_readsItem rfl rfl rfl hd_X5_readsItem ⟨Nat.le_of_ble_eq_true rfl, Nat.le_of_ble_eq_true rfl⟩) rfl hl.1 rfl (Nat.le_of_ble_eq_true rfl) dX5_readsText_39 ⟨Nat.le_of_ble_eq_true rfl, Nat.le_of_ble_eq_true rfl⟩ (fun H locs hw => ?_)
          refine lv_if_eq (tgt := 49) hx hb dX5_readsText_42 (by decide) (fun k_12 => ?_) (fun k_12 => ?_)
          · have h := br_yes h k_12
            exact w_X5_readsText_b49 X ih v_10 _ _ _ h hw (lv_sub hl [0] rfl)
          · have h := br_no h k_12
            refine lv_iconst (v := 1) hx hb dX5_readsText_45 (by decide) ?_
            refine lv_goto (tgt := 50) hx hb dX5_readsText_46 (by decide) ?_
            exact w_X5_readsText_b50 X ih v_10 1 _ _ _ h hw (lv_sub hl [0] rfl)
noncomputable def f_X5_readsText  (v : MV)  : Option (Int32 × MV) :=
  bd2 (f_X5_readsItem ((M_ro v), (M_sa v), (M_od v), (M_st v), (M_ne v), (M_fd v), (M_tx v), (M_le v), 0, (M_nu v), 0, (M_h v))) fun r_1 v_2 =>
  bd2 (f_X5_here v_2) fun r_4 v_5 =>
  f_X5_readsText_b20 FU v_5 r_1 r_4
set_option maxHeartbeats 4000000 in
set_option maxRecDepth 100000 in
theorem m_X5_readsText {G : GG} {l : Launch} {o : Nat → Nat} {v : MV}  {r : Int32} {zv : MV} (h : f_X5_readsText v = some (r, zv)) : Ci G l yX5_readsText wsX5_readsText rX5_readsText [.ref (o 0)] (fl [mB G o v]) r (fl [mB G o zv]) := by
  refine Ci.intro cX5_readsText 3 (some .boolean) RX5 (by decide) rfl rfl (Nat.le_of_ble_eq_true rfl) ?_
  intro p e s m below meth c A ls X hw hl
  obtain ⟨⟨hx, hb, hml, hown, hts⟩, hK, hr, hlk, hA⟩ := id X
  unfold f_X5_readsText at h
  have hl : lv_has ls 3 [(0, .ref (o 0))] := hl
  refine lv_aload_n hx hb dX5_readsText_0 rfl (lv_at hl 0 rfl) ?_
  refine lv_iconst (v := 0) hx hb dX5_readsText_1 (by decide) ?_
  refine x_put (bs' := [mB G o ((M_ro v), (M_sa v), (M_od v), (M_st v), (M_ne v), (M_fd v), (M_tx v), (M_le v), 0, (M_nu v), (M_it v), (M_h v))]) 0 0 X hw in_X5_readsText_5 tyX5 tyX5_ok nmX5 rfl rfl rfl 8 (by decide) (List.mem_of_getElem? (i := 1) rfl) rfl rfl rfl rfl (Nat.le_of_ble_eq_true rfl) dX5_readsText_2 rfl (fun H locs hw => ?_)
  refine lv_aload_n hx hb dX5_readsText_5 rfl (lv_at hl 0 rfl) ?_
  refine lv_iconst (v := 0) hx hb dX5_readsText_6 (by decide) ?_
  refine x_put (bs' := [mB G o ((M_ro v), (M_sa v), (M_od v), (M_st v), (M_ne v), (M_fd v), (M_tx v), (M_le v), 0, (M_nu v), 0, (M_h v))]) 0 0 X hw in_X5_readsText_5 tyX5 tyX5_ok nmX5 rfl rfl rfl 10 (by decide) (List.mem_of_getElem? (i := 2) rfl) rfl rfl rfl rfl (Nat.le_of_ble_eq_true rfl) dX5_readsText_7 rfl (fun H locs hw => ?_)
  refine lv_aload_n hx hb dX5_readsText_10 rfl (lv_at hl 0 rfl) ?_
  obtain ⟨r_1, v_2, c_3, h⟩ := bd2_ok h
  refine x_Vi (As := []) (w' := fl [mB G o v_2]) X hw (m_X5_readsItem (G := G) (l := l) (o := o) c_3) Cut.all 0 0 rfl rfl rfl (cwV 0 hts gX5_readsText_X5_readsItem rfl rfl rfl hd_X5_readsItem ⟨Nat.le_of_ble_eq_true rfl, Nat.le_of_ble_eq_true rfl⟩) rfl hl.1 rfl (Nat.le_of_ble_eq_true rfl) dX5_readsText_11 ⟨Nat.le_of_ble_eq_true rfl, Nat.le_of_ble_eq_true rfl⟩ (fun H locs hw => ?_)
  refine lv_istore_n (lv' := [(1, .int r_1), (0, .ref (o 0))]) hx hb dX5_readsText_14 rfl hl (by decide) rfl (fun ls hl => ?_)
  refine lv_aload_n hx hb dX5_readsText_15 rfl (lv_at hl 1 rfl) ?_
  obtain ⟨r_4, v_5, c_6, h⟩ := bd2_ok h
  refine x_Vi (As := []) (w' := fl [mB G o v_5]) X hw (m_X5_here (G := G) (l := l) (o := o) c_6) Cut.all 0 0 rfl rfl rfl (cwV 0 hts gX5_readsText_X5_here rfl rfl rfl hd_X5_here ⟨Nat.le_of_ble_eq_true rfl, Nat.le_of_ble_eq_true rfl⟩) rfl hl.1 rfl (Nat.le_of_ble_eq_true rfl) dX5_readsText_16 ⟨Nat.le_of_ble_eq_true rfl, Nat.le_of_ble_eq_true rfl⟩ (fun H locs hw => ?_)
  refine lv_istore_n (lv' := [(2, .int r_4), (1, .int r_1), (0, .ref (o 0))]) hx hb dX5_readsText_19 rfl hl (by decide) rfl (fun ls hl => ?_)
  exact w_X5_readsText_b20 X FU v_5 r_1 r_4 _ _ _ h hw (lv_sub hl [2, 1, 0] rfl)

def rX5_textFault : Room := { frames := 6, cells := 0, slots := 0, locals := 136 }
theorem hd_X5_textFault : yX5_textFault.cls = RX5 ∧ yX5_textFault.cls ≠ "java/lang/invoke/MethodHandle" ∧ yX5_textFault.cls ≠ "java/lang/invoke/VarHandle" ∧ (parseMethodDescriptor yX5_textFault.desc).map (fun d => d.parameters.length) = some 0 := by decide +kernel
theorem in_X5_textFault_5 : ∀ w ∈ u_ws RX5 TX5 12, w ∈ wsX5_textFault := fun w h => (List.mem_cons_of_mem _ (List.mem_append_right _ h))
noncomputable def f_X5_textFault  (v : MV)  : Option (Int32 × MV) :=
  bd (f_X5_copies v 0 6) fun v_1 =>
  bd2 (f_X5_readsText v_1) fun r_3 v_4 =>
  bd (f_X5_copies v_4 6 0) fun v_6 =>
  br (r_3 = 0)
    (some ((M_at v_6), v_6))
    (some ((-1), v_6))
set_option maxHeartbeats 4000000 in
set_option maxRecDepth 100000 in
theorem m_X5_textFault {G : GG} {l : Launch} {o : Nat → Nat} {v : MV}  {r : Int32} {zv : MV} (h : f_X5_textFault v = some (r, zv)) : Ci G l yX5_textFault wsX5_textFault rX5_textFault [.ref (o 0)] (fl [mB G o v]) r (fl [mB G o zv]) := by
  refine Ci.intro cX5_textFault 2 (some .int) RX5 (by decide) rfl rfl (Nat.le_of_ble_eq_true rfl) ?_
  intro p e s m below meth c A ls X hw hl
  obtain ⟨⟨hx, hb, hml, hown, hts⟩, hK, hr, hlk, hA⟩ := id X
  unfold f_X5_textFault at h
  have hl : lv_has ls 2 [(0, .ref (o 0))] := hl
  refine lv_aload_n hx hb dX5_textFault_0 rfl (lv_at hl 0 rfl) ?_
  refine lv_iconst (v := 0) hx hb dX5_textFault_1 (by decide) ?_
  refine lv_bipush (v := 6) hx hb dX5_textFault_2 (by decide) ?_
  obtain ⟨v_1, c_2, h⟩ := bd_ok h
  refine x_Vv (As := [.int 0, .int 6]) (w' := fl [mB G o v_1]) X hw (m_X5_copies (G := G) (l := l) (o := o) c_2) Cut.all 0 0 rfl rfl rfl (cwV 2 hts gX5_textFault_X5_copies rfl rfl rfl hd_X5_copies ⟨Nat.le_of_ble_eq_true rfl, Nat.le_of_ble_eq_true rfl⟩) rfl hl.1 rfl (Nat.le_of_ble_eq_true rfl) dX5_textFault_4 ⟨Nat.le_of_ble_eq_true rfl, Nat.le_of_ble_eq_true rfl⟩ (fun H locs hw => ?_)
  refine lv_aload_n hx hb dX5_textFault_7 rfl (lv_at hl 0 rfl) ?_
  obtain ⟨r_3, v_4, c_5, h⟩ := bd2_ok h
  refine x_Vi (As := []) (w' := fl [mB G o v_4]) X hw (m_X5_readsText (G := G) (l := l) (o := o) c_5) Cut.all 0 0 rfl rfl rfl (cwV 0 hts gX5_textFault_X5_readsText rfl rfl rfl hd_X5_readsText ⟨Nat.le_of_ble_eq_true rfl, Nat.le_of_ble_eq_true rfl⟩) rfl hl.1 rfl (Nat.le_of_ble_eq_true rfl) dX5_textFault_8 ⟨Nat.le_of_ble_eq_true rfl, Nat.le_of_ble_eq_true rfl⟩ (fun H locs hw => ?_)
  refine lv_istore_n (lv' := [(1, .int r_3), (0, .ref (o 0))]) hx hb dX5_textFault_11 rfl hl (by decide) rfl (fun ls hl => ?_)
  refine lv_aload_n hx hb dX5_textFault_12 rfl (lv_at hl 1 rfl) ?_
  refine lv_bipush (v := 6) hx hb dX5_textFault_13 (by decide) ?_
  refine lv_iconst (v := 0) hx hb dX5_textFault_15 (by decide) ?_
  obtain ⟨v_6, c_7, h⟩ := bd_ok h
  refine x_Vv (As := [.int 6, .int 0]) (w' := fl [mB G o v_6]) X hw (m_X5_copies (G := G) (l := l) (o := o) c_7) Cut.all 0 0 rfl rfl rfl (cwV 2 hts gX5_textFault_X5_copies rfl rfl rfl hd_X5_copies ⟨Nat.le_of_ble_eq_true rfl, Nat.le_of_ble_eq_true rfl⟩) rfl hl.1 rfl (Nat.le_of_ble_eq_true rfl) dX5_textFault_16 ⟨Nat.le_of_ble_eq_true rfl, Nat.le_of_ble_eq_true rfl⟩ (fun H locs hw => ?_)
  refine lv_iload_n hx hb dX5_textFault_19 rfl (lv_at hl 0 rfl) ?_
  refine lv_if_eq (tgt := 27) hx hb dX5_textFault_20 (by decide) (fun k_8 => ?_) (fun k_8 => ?_)
  · have h := br_yes h k_8
    refine lv_aload_n hx hb dX5_textFault_27 rfl (lv_at hl 1 rfl) ?_
    refine x_get (v := .int (M_at v_6)) 0 0 X hw in_X5_textFault_5 rfl rfl rfl 8 (by decide) (List.mem_of_getElem? (i := 1) rfl) rfl rfl dX5_textFault_28 ?_
    cases h
    exact x_iret X (vp_nar_int _) hw rfl rfl dX5_textFault_31
  · have h := br_no h k_8
    refine lv_iconst (v := (-1)) hx hb dX5_textFault_23 (by decide) ?_
    refine lv_goto (tgt := 31) hx hb dX5_textFault_24 (by decide) ?_
    cases h
    exact x_iret X (vp_nar_int _) hw rfl rfl dX5_textFault_31

def rX5_load : Room := { frames := 7, cells := 0, slots := 0, locals := 157 }
theorem hd_X5_load : yX5_load.cls = RX5 ∧ yX5_load.cls ≠ "java/lang/invoke/MethodHandle" ∧ yX5_load.cls ≠ "java/lang/invoke/VarHandle" ∧ (parseMethodDescriptor yX5_load.desc).map (fun d => d.parameters.length) = some 0 := by decide +kernel
theorem in_X5_load_5 : ∀ w ∈ u_ws RX5 TX5 12, w ∈ wsX5_load := fun w h => (List.mem_cons_of_mem _ (List.mem_append_right _ h))
noncomputable def f_X5_load  (v : MV)  : Option (Int32 × MV) :=
  bd2 (f_X5_textFault v) fun r_1 v_2 =>
  br (r_1 = (-1))
    (bd (f_X5_saves v_2) fun v_5 =>
     bd2 (f_X5_readsText v_5) fun r_7 v_8 =>
     some ((M_it v_8), v_8))
    (some ((-4), v_2))
set_option maxHeartbeats 4000000 in
set_option maxRecDepth 100000 in
theorem m_X5_load {G : GG} {l : Launch} {o : Nat → Nat} {v : MV}  {r : Int32} {zv : MV} (h : f_X5_load v = some (r, zv)) : Ci G l yX5_load wsX5_load rX5_load [.ref (o 0)] (fl [mB G o v]) r (fl [mB G o zv]) := by
  refine Ci.intro cX5_load 2 (some .int) RX5 (by decide) rfl rfl (Nat.le_of_ble_eq_true rfl) ?_
  intro p e s m below meth c A ls X hw hl
  obtain ⟨⟨hx, hb, hml, hown, hts⟩, hK, hr, hlk, hA⟩ := id X
  unfold f_X5_load at h
  have hl : lv_has ls 2 [(0, .ref (o 0))] := hl
  refine lv_aload_n hx hb dX5_load_0 rfl (lv_at hl 0 rfl) ?_
  obtain ⟨r_1, v_2, c_3, h⟩ := bd2_ok h
  refine x_Vi (As := []) (w' := fl [mB G o v_2]) X hw (m_X5_textFault (G := G) (l := l) (o := o) c_3) Cut.all 0 0 rfl rfl rfl (cwV 0 hts gX5_load_X5_textFault rfl rfl rfl hd_X5_textFault ⟨Nat.le_of_ble_eq_true rfl, Nat.le_of_ble_eq_true rfl⟩) rfl hl.1 rfl (Nat.le_of_ble_eq_true rfl) dX5_load_1 ⟨Nat.le_of_ble_eq_true rfl, Nat.le_of_ble_eq_true rfl⟩ (fun H locs hw => ?_)
  refine lv_iconst (v := (-1)) hx hb dX5_load_4 (by decide) ?_
  refine lv_icmp_eq (tgt := 11) hx hb dX5_load_5 (by decide) (fun k_4 => ?_) (fun k_4 => ?_)
  · have h := br_yes h k_4
    refine lv_aload_n hx hb dX5_load_11 rfl (lv_at hl 0 rfl) ?_
    obtain ⟨v_5, c_6, h⟩ := bd_ok h
    refine x_Vv (As := []) (w' := fl [mB G o v_5]) X hw (m_X5_saves (G := G) (l := l) (o := o) c_6) Cut.all 0 0 rfl rfl rfl (cwV 0 hts gX5_load_X5_saves rfl rfl rfl hd_X5_saves ⟨Nat.le_of_ble_eq_true rfl, Nat.le_of_ble_eq_true rfl⟩) rfl hl.1 rfl (Nat.le_of_ble_eq_true rfl) dX5_load_12 ⟨Nat.le_of_ble_eq_true rfl, Nat.le_of_ble_eq_true rfl⟩ (fun H locs hw => ?_)
    refine lv_aload_n hx hb dX5_load_15 rfl (lv_at hl 0 rfl) ?_
    obtain ⟨r_7, v_8, c_9, h⟩ := bd2_ok h
    refine x_Vi (As := []) (w' := fl [mB G o v_8]) X hw (m_X5_readsText (G := G) (l := l) (o := o) c_9) Cut.all 0 0 rfl rfl rfl (cwV 0 hts gX5_load_X5_readsText rfl rfl rfl hd_X5_readsText ⟨Nat.le_of_ble_eq_true rfl, Nat.le_of_ble_eq_true rfl⟩) rfl hl.1 rfl (Nat.le_of_ble_eq_true rfl) dX5_load_16 ⟨Nat.le_of_ble_eq_true rfl, Nat.le_of_ble_eq_true rfl⟩ (fun H locs hw => ?_)
    refine lv_istore_n (lv' := [(1, .int r_7), (0, .ref (o 0))]) hx hb dX5_load_19 rfl hl (by decide) rfl (fun ls hl => ?_)
    refine lv_aload_n hx hb dX5_load_20 rfl (lv_at hl 1 rfl) ?_
    refine x_get (v := .int (M_it v_8)) 0 0 X hw in_X5_load_5 rfl rfl rfl 10 (by decide) (List.mem_of_getElem? (i := 1) rfl) rfl rfl dX5_load_21 ?_
    cases h
    exact x_iret X (vp_nar_int _) hw rfl rfl dX5_load_24
  · have h := br_no h k_4
    refine lv_bipush (v := (-4)) hx hb dX5_load_8 (by decide) ?_
    cases h
    exact x_iret X (vp_nar_int _) hw rfl rfl dX5_load_10

def rX5_note : Room := { frames := 0, cells := 0, slots := 0, locals := 0 }
theorem hd_X5_note : yX5_note.cls = RX5 ∧ yX5_note.cls ≠ "java/lang/invoke/MethodHandle" ∧ yX5_note.cls ≠ "java/lang/invoke/VarHandle" ∧ (parseMethodDescriptor yX5_note.desc).map (fun d => d.parameters.length) = some 1 := by decide +kernel
theorem in_X5_note_5 : ∀ w ∈ u_ws RX5 TX5 12, w ∈ wsX5_note := fun w h => (List.mem_cons_of_mem _ (List.mem_append_right _ h))
noncomputable def f_X5_note  (v : MV) (x1 : Int32) : Option (MV) :=
  nm (((31 * (M_h v)) + (x1).toInt64) : Int64) fun t_1 =>
  some (((M_ro v), (M_sa v), (M_od v), (M_st v), (M_ne v), (M_fd v), (M_tx v), (M_le v), (M_at v), (M_nu v), (M_it v), t_1))
set_option maxHeartbeats 4000000 in
set_option maxRecDepth 100000 in
theorem m_X5_note {G : GG} {l : Launch} {o : Nat → Nat} {v : MV} {x1 : Int32} {zv : MV} (h : f_X5_note v x1 = some (zv)) : Cv G l yX5_note wsX5_note rX5_note [.ref (o 0), .int x1] (fl [mB G o v]) (fl [mB G o zv]) := by
  refine Cv.intro cX5_note 2 none RX5 (by decide) rfl rfl (Nat.le_of_ble_eq_true rfl) ?_
  intro p e s m below meth c A ls X hw hl
  obtain ⟨⟨hx, hb, hml, hown, hts⟩, hK, hr, hlk, hA⟩ := id X
  unfold f_X5_note at h
  have hl : lv_has ls 2 [(0, .ref (o 0)), (1, .int x1)] := hl
  refine lv_aload_n hx hb dX5_note_0 rfl (lv_at hl 0 rfl) ?_
  refine lv_ldc2 (v := 31) hx hb hown (hts _ (List.mem_of_getElem? (i := 1) rfl)) dX5_note_1 ?_
  refine lv_aload_n hx hb dX5_note_4 rfl (lv_at hl 0 rfl) ?_
  refine x_get (v := .long (M_h v)) 0 0 X hw in_X5_note_5 rfl rfl rfl 11 (by decide) (List.mem_of_getElem? (i := 2) rfl) rfl rfl dX5_note_5 ?_
  refine lv_lmul hx hb dX5_note_8 ?_
  refine lv_iload_n hx hb dX5_note_9 rfl (lv_at hl 1 rfl) ?_
  refine lv_i2l hx hb dX5_note_10 rfl ?_
  refine lv_ladd hx hb dX5_note_11 ?_
  obtain ⟨t_1, et_1, h⟩ := nm_ok h
  refine x_put (bs' := [mB G o ((M_ro v), (M_sa v), (M_od v), (M_st v), (M_ne v), (M_fd v), (M_tx v), (M_le v), (M_at v), (M_nu v), (M_it v), t_1)]) 0 0 X hw in_X5_note_5 tyX5 tyX5_ok nmX5 rfl rfl rfl 11 (by decide) (List.mem_of_getElem? (i := 2) rfl) rfl rfl rfl rfl (Nat.le_of_ble_eq_true rfl) dX5_note_12 (by rw [et_1]; rfl) (fun H locs hw => ?_)
  cases h
  exact x_vret X hw rfl dX5_note_15

def rX5_digest : Room := { frames := 5, cells := 0, slots := 0, locals := 115 }
theorem hd_X5_digest : yX5_digest.cls = RX5 ∧ yX5_digest.cls ≠ "java/lang/invoke/MethodHandle" ∧ yX5_digest.cls ≠ "java/lang/invoke/VarHandle" ∧ (parseMethodDescriptor yX5_digest.desc).map (fun d => d.parameters.length) = some 0 := by decide +kernel
theorem in_X5_digest_5 : ∀ w ∈ u_ws RX5 TX5 12, w ∈ wsX5_digest := fun w h => (List.mem_cons_of_mem _ (List.mem_append_right _ h))
noncomputable def f_X5_digest_b78   : Nat → MV → Int32 → Option (Int64 × MV)
  | 0 => fun _ _ => none
  | n + 1 => fun v x1 =>
    ck (vp_in 1 644) <|
    br ((2 * ((M_ro v) (1 : Int32).toNatClampNeg)) ≤ x1)
      (some ((M_h v), v))
      (nm ((52 + x1) : Int32) fun t_3 =>
       ck (vp_in t_3 644) <|
       bd (f_X5_note v ((M_ro v) t_3.toNatClampNeg)) fun v_5 =>
       nm (x1 + 1 : Int32) fun t_7 =>
       f_X5_digest_b78 n v_5 t_7)
set_option maxHeartbeats 4000000 in
set_option maxRecDepth 100000 in
theorem w_X5_digest_b78 {G : GG} {l : Launch} {p : Program} {e : Env} {s : State} {m : MethodId} {args : Array Value} {below : List Frame} {meth : Method} {c : Code} {A : Nat → Prop} {o : Nat → Nat}  {r : Int64} {zv : MV}   (X : Cx p s m args meth c cX5_digest 3 (some .long) wsX5_digest RX5 G A)  :
    ∀ (n : Nat) (v : MV) (x1 : Int32) (H : Heap) (locs : List Loc) (ls : Array Slot), f_X5_digest_b78 n v x1 = some (r, zv) → Wd G A s H locs (fl [mB G o v]) → lv_has ls 3 [(0, .ref (o 0)), (1, .int x1)] → W p l e rX5_digest s m args below meth c H locs 0 0 (MQ below (Ql G A r (fl [mB G o zv])) args s 0 0 A) (F0 m 78 ls []) := by
  obtain ⟨⟨hx, hb, hml, hown, hts⟩, hK, hr, hlk, hA⟩ := id X
  intro n
  induction n with
  | zero =>
    intro v x1 H locs ls h
    rw [f_X5_digest_b78] at h
    cases h
  | succ n ih =>
    intro v x1 H locs ls h hw hl
    rw [f_X5_digest_b78] at h
    refine lv_iload_n hx hb dX5_digest_78 rfl (lv_at hl 1 rfl) ?_
    refine lv_iconst (v := 2) hx hb dX5_digest_79 (by decide) ?_
    refine lv_aload_n hx hb dX5_digest_80 rfl (lv_at hl 0 rfl) ?_
    refine x_get (v := .ref (o 1)) 0 0 X hw in_X5_digest_5 rfl rfl rfl 0 (by decide) (List.mem_of_getElem? (i := 3) rfl) rfl rfl dX5_digest_81 ?_
    refine lv_iconst (v := 1) hx hb dX5_digest_84 (by decide) ?_
    obtain ⟨k_1, h⟩ := ck_ok h
    refine x_iald (f := (M_ro v)) 0 1 X hw rfl rfl k_1 dX5_digest_85 ?_
    refine lv_imul hx hb dX5_digest_86 ?_
    refine lv_icmp_ge (tgt := 109) hx hb dX5_digest_87 (by decide) (fun k_2 => ?_) (fun k_2 => ?_)
    · have h := br_yes h k_2
      refine lv_aload_n hx hb dX5_digest_109 rfl (lv_at hl 0 rfl) ?_
      refine x_get (v := .long (M_h v)) 0 0 X hw in_X5_digest_5 rfl rfl rfl 11 (by decide) (List.mem_of_getElem? (i := 2) rfl) rfl rfl dX5_digest_110 ?_
      cases h
      exact x_lret X hw rfl rfl dX5_digest_113
    · have h := br_no h k_2
      refine lv_aload_n hx hb dX5_digest_90 rfl (lv_at hl 0 rfl) ?_
      refine lv_aload_n hx hb dX5_digest_91 rfl (lv_at hl 0 rfl) ?_
      refine x_get (v := .ref (o 1)) 0 0 X hw in_X5_digest_5 rfl rfl rfl 0 (by decide) (List.mem_of_getElem? (i := 3) rfl) rfl rfl dX5_digest_92 ?_
      refine lv_bipush (v := 52) hx hb dX5_digest_95 (by decide) ?_
      refine lv_iload_n hx hb dX5_digest_97 rfl (lv_at hl 1 rfl) ?_
      refine lv_iadd hx hb dX5_digest_98 ?_
      obtain ⟨t_3, et_3, h⟩ := nm_ok h
      rw [← et_3]
      obtain ⟨k_4, h⟩ := ck_ok h
      refine x_iald (f := (M_ro v)) 0 1 X hw rfl rfl k_4 dX5_digest_99 ?_
      obtain ⟨v_5, c_6, h⟩ := bd_ok h
      refine x_Vv (As := [.int ((M_ro v) t_3.toNatClampNeg)]) (w' := fl [mB G o v_5]) X hw (m_X5_note (G := G) (l := l) (o := o) c_6) Cut.all 0 0 rfl rfl rfl (cwV 1 hts gX5_digest_X5_note rfl rfl rfl hd_X5_note ⟨Nat.le_of_ble_eq_true rfl, Nat.le_of_ble_eq_true rfl⟩) rfl hl.1 rfl (Nat.le_of_ble_eq_true rfl) dX5_digest_100 ⟨Nat.le_of_ble_eq_true rfl, Nat.le_of_ble_eq_true rfl⟩ (fun H locs hw => ?_)
      obtain ⟨t_7, et_7, h⟩ := nm_ok h
      refine lv_iinc (v := t_7) (lv' := [(1, .int t_7), (0, .ref (o 0))]) hx hb dX5_digest_103 hl (k := 1) rfl (by rw [et_7]; rfl) (by decide) rfl (fun ls hl => ?_)
      refine lv_goto (tgt := 78) hx hb dX5_digest_106 (by decide) ?_
      exact ih v_5 t_7 _ _ _ h hw (lv_sub hl [1, 0] rfl)
noncomputable def f_X5_digest_b48  (k36 : MV → Int32 → Option (Int64 × MV)) (x1 : Int32) : Nat → MV → Int32 → Option (Int64 × MV)
  | 0 => fun _ _ => none
  | n + 1 => fun v x2 =>
    br (11 ≤ x2)
      (nm (x1 + 1 : Int32) fun t_2 =>
       k36 v t_2)
      (bd (f_X5_property v x1 x2) fun r_3 =>
       bd (f_X5_note v r_3) fun v_5 =>
       nm (x2 + 1 : Int32) fun t_7 =>
       f_X5_digest_b48 k36 x1 n v_5 t_7)
set_option maxHeartbeats 4000000 in
set_option maxRecDepth 100000 in
theorem w_X5_digest_b48 {G : GG} {l : Launch} {p : Program} {e : Env} {s : State} {m : MethodId} {args : Array Value} {below : List Frame} {meth : Method} {c : Code} {A : Nat → Prop} {o : Nat → Nat} {x1 : Int32} {r : Int64} {zv : MV}  {k36 : MV → Int32 → Option (Int64 × MV)} (X : Cx p s m args meth c cX5_digest 3 (some .long) wsX5_digest RX5 G A) (hk36 : ∀ (v : MV) (x1 : Int32) (H : Heap) (locs : List Loc) (ls : Array Slot), k36 v x1 = some (r, zv) → Wd G A s H locs (fl [mB G o v]) → lv_has ls 3 [(0, .ref (o 0)), (1, .int x1)] → W p l e rX5_digest s m args below meth c H locs 0 0 (MQ below (Ql G A r (fl [mB G o zv])) args s 0 0 A) (F0 m 36 ls [])) :
    ∀ (n : Nat) (v : MV) (x2 : Int32) (H : Heap) (locs : List Loc) (ls : Array Slot), f_X5_digest_b48 k36 x1 n v x2 = some (r, zv) → Wd G A s H locs (fl [mB G o v]) → lv_has ls 3 [(0, .ref (o 0)), (1, .int x1), (2, .int x2)] → W p l e rX5_digest s m args below meth c H locs 0 0 (MQ below (Ql G A r (fl [mB G o zv])) args s 0 0 A) (F0 m 48 ls []) := by
  obtain ⟨⟨hx, hb, hml, hown, hts⟩, hK, hr, hlk, hA⟩ := id X
  intro n
  induction n with
  | zero =>
    intro v x2 H locs ls h
    rw [f_X5_digest_b48] at h
    cases h
  | succ n ih =>
    intro v x2 H locs ls h hw hl
    rw [f_X5_digest_b48] at h
    refine lv_iload_n hx hb dX5_digest_48 rfl (lv_at hl 2 rfl) ?_
    refine lv_bipush (v := 11) hx hb dX5_digest_49 (by decide) ?_
    refine lv_icmp_ge (tgt := 70) hx hb dX5_digest_51 (by decide) (fun k_1 => ?_) (fun k_1 => ?_)
    · have h := br_yes h k_1
      obtain ⟨t_2, et_2, h⟩ := nm_ok h
      refine lv_iinc (v := t_2) (lv' := [(1, .int t_2), (0, .ref (o 0)), (2, .int x2)]) hx hb dX5_digest_70 hl (k := 1) rfl (by rw [et_2]; rfl) (by decide) rfl (fun ls hl => ?_)
      refine lv_goto (tgt := 36) hx hb dX5_digest_73 (by decide) ?_
      exact hk36 v t_2 _ _ _ h hw (lv_sub hl [1, 0] rfl)
    · have h := br_no h k_1
      refine lv_aload_n hx hb dX5_digest_54 rfl (lv_at hl 0 rfl) ?_
      refine lv_aload_n hx hb dX5_digest_55 rfl (lv_at hl 0 rfl) ?_
      refine lv_iload_n hx hb dX5_digest_56 rfl (lv_at hl 1 rfl) ?_
      refine lv_iload_n hx hb dX5_digest_57 rfl (lv_at hl 2 rfl) ?_
      obtain ⟨r_3, c_4, h⟩ := bd_ok h
      refine x_Vi (As := [.int x1, .int x2]) (w' := fl [mB G o v]) X hw (m_X5_property (G := G) (l := l) (o := o) c_4) Cut.all 0 0 rfl rfl rfl (cwV 2 hts gX5_digest_X5_property rfl rfl rfl hd_X5_property ⟨Nat.le_of_ble_eq_true rfl, Nat.le_of_ble_eq_true rfl⟩) rfl hl.1 rfl (Nat.le_of_ble_eq_true rfl) dX5_digest_58 ⟨Nat.le_of_ble_eq_true rfl, Nat.le_of_ble_eq_true rfl⟩ (fun H locs hw => ?_)
      obtain ⟨v_5, c_6, h⟩ := bd_ok h
      refine x_Vv (As := [.int r_3]) (w' := fl [mB G o v_5]) X hw (m_X5_note (G := G) (l := l) (o := o) c_6) Cut.all 0 0 rfl rfl rfl (cwV 1 hts gX5_digest_X5_note rfl rfl rfl hd_X5_note ⟨Nat.le_of_ble_eq_true rfl, Nat.le_of_ble_eq_true rfl⟩) rfl hl.1 rfl (Nat.le_of_ble_eq_true rfl) dX5_digest_61 ⟨Nat.le_of_ble_eq_true rfl, Nat.le_of_ble_eq_true rfl⟩ (fun H locs hw => ?_)
      obtain ⟨t_7, et_7, h⟩ := nm_ok h
      refine lv_iinc (v := t_7) (lv' := [(2, .int t_7), (0, .ref (o 0)), (1, .int x1)]) hx hb dX5_digest_64 hl (k := 2) rfl (by rw [et_7]; rfl) (by decide) rfl (fun ls hl => ?_)
      refine lv_goto (tgt := 48) hx hb dX5_digest_67 (by decide) ?_
      exact ih v_5 t_7 _ _ _ h hw (lv_sub hl [1, 2, 0] rfl)
noncomputable def f_X5_digest_b36   : Nat → MV → Int32 → Option (Int64 × MV)
  | 0 => fun _ _ => none
  | n + 1 => fun v x1 =>
    ck (vp_in 0 644) <|
    br (((M_ro v) (0 : Int32).toNatClampNeg) ≤ x1)
      (f_X5_digest_b78 FU v 0)
      (f_X5_digest_b48 (f_X5_digest_b36 n) x1 FU v 0)
set_option maxHeartbeats 4000000 in
set_option maxRecDepth 100000 in
theorem w_X5_digest_b36 {G : GG} {l : Launch} {p : Program} {e : Env} {s : State} {m : MethodId} {args : Array Value} {below : List Frame} {meth : Method} {c : Code} {A : Nat → Prop} {o : Nat → Nat}  {r : Int64} {zv : MV}   (X : Cx p s m args meth c cX5_digest 3 (some .long) wsX5_digest RX5 G A)  :
    ∀ (n : Nat) (v : MV) (x1 : Int32) (H : Heap) (locs : List Loc) (ls : Array Slot), f_X5_digest_b36 n v x1 = some (r, zv) → Wd G A s H locs (fl [mB G o v]) → lv_has ls 3 [(0, .ref (o 0)), (1, .int x1)] → W p l e rX5_digest s m args below meth c H locs 0 0 (MQ below (Ql G A r (fl [mB G o zv])) args s 0 0 A) (F0 m 36 ls []) := by
  obtain ⟨⟨hx, hb, hml, hown, hts⟩, hK, hr, hlk, hA⟩ := id X
  intro n
  induction n with
  | zero =>
    intro v x1 H locs ls h
    rw [f_X5_digest_b36] at h
    cases h
  | succ n ih =>
    intro v x1 H locs ls h hw hl
    rw [f_X5_digest_b36] at h
    refine lv_iload_n hx hb dX5_digest_36 rfl (lv_at hl 1 rfl) ?_
    refine lv_aload_n hx hb dX5_digest_37 rfl (lv_at hl 0 rfl) ?_
    refine x_get (v := .ref (o 1)) 0 0 X hw in_X5_digest_5 rfl rfl rfl 0 (by decide) (List.mem_of_getElem? (i := 3) rfl) rfl rfl dX5_digest_38 ?_
    refine lv_iconst (v := 0) hx hb dX5_digest_41 (by decide) ?_
    obtain ⟨k_1, h⟩ := ck_ok h
    refine x_iald (f := (M_ro v)) 0 1 X hw rfl rfl k_1 dX5_digest_42 ?_
    refine lv_icmp_ge (tgt := 76) hx hb dX5_digest_43 (by decide) (fun k_2 => ?_) (fun k_2 => ?_)
    · have h := br_yes h k_2
      refine lv_iconst (v := 0) hx hb dX5_digest_76 (by decide) ?_
      refine lv_istore_n (lv' := [(1, .int 0), (0, .ref (o 0))]) hx hb dX5_digest_77 rfl hl (by decide) rfl (fun ls hl => ?_)
      exact w_X5_digest_b78 X FU v 0 _ _ _ h hw (lv_sub hl [1, 0] rfl)
    · have h := br_no h k_2
      refine lv_iconst (v := 0) hx hb dX5_digest_46 (by decide) ?_
      refine lv_istore_n (lv' := [(2, .int 0), (0, .ref (o 0)), (1, .int x1)]) hx hb dX5_digest_47 rfl hl (by decide) rfl (fun ls hl => ?_)
      exact w_X5_digest_b48 X ih FU v 0 _ _ _ h hw (lv_sub hl [1, 2, 0] rfl)
noncomputable def f_X5_digest_b9   : Nat → MV → Int32 → Option (Int64 × MV)
  | 0 => fun _ _ => none
  | n + 1 => fun v x1 =>
    br (10 ≤ x1)
      (bd (f_X5_freezes v) fun v_2 =>
       f_X5_digest_b36 FU v_2 0)
      (bd2 (f_X5_count v x1) fun r_4 v_5 =>
       bd (f_X5_note v_5 r_4) fun v_7 =>
       nm (x1 + 1 : Int32) fun t_9 =>
       f_X5_digest_b9 n v_7 t_9)
set_option maxHeartbeats 4000000 in
set_option maxRecDepth 100000 in
theorem w_X5_digest_b9 {G : GG} {l : Launch} {p : Program} {e : Env} {s : State} {m : MethodId} {args : Array Value} {below : List Frame} {meth : Method} {c : Code} {A : Nat → Prop} {o : Nat → Nat}  {r : Int64} {zv : MV}   (X : Cx p s m args meth c cX5_digest 3 (some .long) wsX5_digest RX5 G A)  :
    ∀ (n : Nat) (v : MV) (x1 : Int32) (H : Heap) (locs : List Loc) (ls : Array Slot), f_X5_digest_b9 n v x1 = some (r, zv) → Wd G A s H locs (fl [mB G o v]) → lv_has ls 3 [(0, .ref (o 0)), (1, .int x1)] → W p l e rX5_digest s m args below meth c H locs 0 0 (MQ below (Ql G A r (fl [mB G o zv])) args s 0 0 A) (F0 m 9 ls []) := by
  obtain ⟨⟨hx, hb, hml, hown, hts⟩, hK, hr, hlk, hA⟩ := id X
  intro n
  induction n with
  | zero =>
    intro v x1 H locs ls h
    rw [f_X5_digest_b9] at h
    cases h
  | succ n ih =>
    intro v x1 H locs ls h hw hl
    rw [f_X5_digest_b9] at h
    refine lv_iload_n hx hb dX5_digest_9 rfl (lv_at hl 1 rfl) ?_
    refine lv_bipush (v := 10) hx hb dX5_digest_10 (by decide) ?_
    refine lv_icmp_ge (tgt := 30) hx hb dX5_digest_12 (by decide) (fun k_1 => ?_) (fun k_1 => ?_)
    · have h := br_yes h k_1
      refine lv_aload_n hx hb dX5_digest_30 rfl (lv_at hl 0 rfl) ?_
      obtain ⟨v_2, c_3, h⟩ := bd_ok h
      refine x_Vv (As := []) (w' := fl [mB G o v_2]) X hw (m_X5_freezes (G := G) (l := l) (o := o) c_3) Cut.all 0 0 rfl rfl rfl (cwV 0 hts gX5_digest_X5_freezes rfl rfl rfl hd_X5_freezes ⟨Nat.le_of_ble_eq_true rfl, Nat.le_of_ble_eq_true rfl⟩) rfl hl.1 rfl (Nat.le_of_ble_eq_true rfl) dX5_digest_31 ⟨Nat.le_of_ble_eq_true rfl, Nat.le_of_ble_eq_true rfl⟩ (fun H locs hw => ?_)
      refine lv_iconst (v := 0) hx hb dX5_digest_34 (by decide) ?_
      refine lv_istore_n (lv' := [(1, .int 0), (0, .ref (o 0))]) hx hb dX5_digest_35 rfl hl (by decide) rfl (fun ls hl => ?_)
      exact w_X5_digest_b36 X FU v_2 0 _ _ _ h hw (lv_sub hl [1, 0] rfl)
    · have h := br_no h k_1
      refine lv_aload_n hx hb dX5_digest_15 rfl (lv_at hl 0 rfl) ?_
      refine lv_aload_n hx hb dX5_digest_16 rfl (lv_at hl 0 rfl) ?_
      refine lv_iload_n hx hb dX5_digest_17 rfl (lv_at hl 1 rfl) ?_
      obtain ⟨r_4, v_5, c_6, h⟩ := bd2_ok h
      refine x_Vi (As := [.int x1]) (w' := fl [mB G o v_5]) X hw (m_X5_count (G := G) (l := l) (o := o) c_6) Cut.all 0 0 rfl rfl rfl (cwV 1 hts gX5_digest_X5_count rfl rfl rfl hd_X5_count ⟨Nat.le_of_ble_eq_true rfl, Nat.le_of_ble_eq_true rfl⟩) rfl hl.1 rfl (Nat.le_of_ble_eq_true rfl) dX5_digest_18 ⟨Nat.le_of_ble_eq_true rfl, Nat.le_of_ble_eq_true rfl⟩ (fun H locs hw => ?_)
      obtain ⟨v_7, c_8, h⟩ := bd_ok h
      refine x_Vv (As := [.int r_4]) (w' := fl [mB G o v_7]) X hw (m_X5_note (G := G) (l := l) (o := o) c_8) Cut.all 0 0 rfl rfl rfl (cwV 1 hts gX5_digest_X5_note rfl rfl rfl hd_X5_note ⟨Nat.le_of_ble_eq_true rfl, Nat.le_of_ble_eq_true rfl⟩) rfl hl.1 rfl (Nat.le_of_ble_eq_true rfl) dX5_digest_21 ⟨Nat.le_of_ble_eq_true rfl, Nat.le_of_ble_eq_true rfl⟩ (fun H locs hw => ?_)
      obtain ⟨t_9, et_9, h⟩ := nm_ok h
      refine lv_iinc (v := t_9) (lv' := [(1, .int t_9), (0, .ref (o 0))]) hx hb dX5_digest_24 hl (k := 1) rfl (by rw [et_9]; rfl) (by decide) rfl (fun ls hl => ?_)
      refine lv_goto (tgt := 9) hx hb dX5_digest_27 (by decide) ?_
      exact ih v_7 t_9 _ _ _ h hw (lv_sub hl [1, 0] rfl)
noncomputable def f_X5_digest  (v : MV)  : Option (Int64 × MV) :=
  f_X5_digest_b9 FU ((M_ro v), (M_sa v), (M_od v), (M_st v), (M_ne v), (M_fd v), (M_tx v), (M_le v), (M_at v), (M_nu v), (M_it v), 17) 0
set_option maxHeartbeats 4000000 in
set_option maxRecDepth 100000 in
theorem m_X5_digest {G : GG} {l : Launch} {o : Nat → Nat} {v : MV}  {r : Int64} {zv : MV} (h : f_X5_digest v = some (r, zv)) : Cl G l yX5_digest wsX5_digest rX5_digest [.ref (o 0)] (fl [mB G o v]) r (fl [mB G o zv]) := by
  refine Cl.intro cX5_digest 3 (some .long) RX5 (by decide) rfl rfl (Nat.le_of_ble_eq_true rfl) ?_
  intro p e s m below meth c A ls X hw hl
  obtain ⟨⟨hx, hb, hml, hown, hts⟩, hK, hr, hlk, hA⟩ := id X
  unfold f_X5_digest at h
  have hl : lv_has ls 3 [(0, .ref (o 0))] := hl
  refine lv_aload_n hx hb dX5_digest_0 rfl (lv_at hl 0 rfl) ?_
  refine lv_ldc2 (v := 17) hx hb hown (hts _ (List.mem_of_getElem? (i := 1) rfl)) dX5_digest_1 ?_
  refine x_put (bs' := [mB G o ((M_ro v), (M_sa v), (M_od v), (M_st v), (M_ne v), (M_fd v), (M_tx v), (M_le v), (M_at v), (M_nu v), (M_it v), 17)]) 0 0 X hw in_X5_digest_5 tyX5 tyX5_ok nmX5 rfl rfl rfl 11 (by decide) (List.mem_of_getElem? (i := 2) rfl) rfl rfl rfl rfl (Nat.le_of_ble_eq_true rfl) dX5_digest_4 rfl (fun H locs hw => ?_)
  refine lv_iconst (v := 0) hx hb dX5_digest_7 (by decide) ?_
  refine lv_istore_n (lv' := [(1, .int 0), (0, .ref (o 0))]) hx hb dX5_digest_8 rfl hl (by decide) rfl (fun ls hl => ?_)
  exact w_X5_digest_b9 X FU ((M_ro v), (M_sa v), (M_od v), (M_st v), (M_ne v), (M_fd v), (M_tx v), (M_le v), (M_at v), (M_nu v), (M_it v), 17) 0 _ _ _ h hw (lv_sub hl [1, 0] rfl)
