def rX0_hasRoomForSection : Room := { frames := 0, cells := 0, slots := 0, locals := 0 }
theorem hd_X0_hasRoomForSection : yX0_hasRoomForSection.cls = RX0 ∧ yX0_hasRoomForSection.cls ≠ "java/lang/invoke/MethodHandle" ∧ yX0_hasRoomForSection.cls ≠ "java/lang/invoke/VarHandle" ∧ (parseMethodDescriptor yX0_hasRoomForSection.desc).map (fun d => d.parameters.length) = some 0 := by decide +kernel
theorem in_X0_hasRoomForSection_0 : ∀ w ∈ u_ws RX0 TX0 10, w ∈ wsX0_hasRoomForSection := fun w h => (List.mem_cons_of_mem _ (List.mem_append_right _ h))
noncomputable def f_X0_hasRoomForSection  (v : CV)  : Option (Int32) :=
  br (12 ≤ (C_se v))
    (some (0))
    (some (1))
set_option maxHeartbeats 4000000 in
set_option maxRecDepth 100000 in
theorem m_X0_hasRoomForSection {G : GG} {l : Launch} {a : Nat → Nat} {v : CV}  {r : Int32}  (h : f_X0_hasRoomForSection v = some (r)) : Ci G l yX0_hasRoomForSection wsX0_hasRoomForSection rX0_hasRoomForSection [.ref (a 0)] (fl [cB G a v]) r (fl [cB G a v]) := by
  refine Ci.intro cX0_hasRoomForSection 1 (some .boolean) RX0 (by decide) rfl rfl (Nat.le_of_ble_eq_true rfl) ?_
  intro p e s m below meth c A ls X hw hl
  obtain ⟨⟨hx, hb, hml, hown, hts⟩, hK, hr, hlk, hA⟩ := id X
  unfold f_X0_hasRoomForSection at h
  have hl : lv_has ls 1 [(0, .ref (a 0))] := hl
  refine lv_aload_n hx hb dX0_hasRoomForSection_0 rfl (lv_at hl 0 rfl) ?_
  refine x_get (v := .int (C_se v)) 0 0 X hw in_X0_hasRoomForSection_0 rfl rfl rfl 0 (by decide) (List.mem_of_getElem? (i := 1) rfl) rfl rfl dX0_hasRoomForSection_1 ?_
  refine lv_bipush (v := 12) hx hb dX0_hasRoomForSection_4 (by decide) ?_
  refine lv_icmp_ge (tgt := 13) hx hb dX0_hasRoomForSection_6 (by decide) (fun k_1 => ?_) (fun k_1 => ?_)
  · have h := br_yes h k_1
    refine lv_iconst (v := 0) hx hb dX0_hasRoomForSection_13 (by decide) ?_
    cases h
    exact x_iret X (narz (Or.inl rfl)) hw rfl rfl dX0_hasRoomForSection_14
  · have h := br_no h k_1
    refine lv_iconst (v := 1) hx hb dX0_hasRoomForSection_9 (by decide) ?_
    refine lv_goto (tgt := 14) hx hb dX0_hasRoomForSection_10 (by decide) ?_
    cases h
    exact x_iret X (narz (Or.inr rfl)) hw rfl rfl dX0_hasRoomForSection_14

def rX0_copyFrom : Room := { frames := 0, cells := 0, slots := 0, locals := 0 }
theorem hd_X0_copyFrom : yX0_copyFrom.cls = RX0 ∧ yX0_copyFrom.cls ≠ "java/lang/invoke/MethodHandle" ∧ yX0_copyFrom.cls ≠ "java/lang/invoke/VarHandle" ∧ (parseMethodDescriptor yX0_copyFrom.desc).map (fun d => d.parameters.length) = some 1 := by decide +kernel
theorem in_X0_copyFrom_0 : ∀ w ∈ u_ws RX0 TX0 10, w ∈ wsX0_copyFrom := fun w h => (List.mem_cons_of_mem _ (List.mem_append_right _ h))
noncomputable def f_X0_copyFrom_b96  (v1 : CV) : Nat → CV → Int32 → Option (CV)
  | 0 => fun _ _ => none
  | n + 1 => fun v x2 =>
    br (20 ≤ x2)
      (some (v))
      (ck (vp_in x2 20) <|
       nm (((C_fi v1) x2.toNatClampNeg) : Int32) fun t_3 =>
       ck (vp_in x2 20) <|
       nm (upd (C_fi v) x2.toNatClampNeg t_3) fun g_5 =>
       ck (vp_in x2 20) <|
       nm (((C_sd v1) x2.toNatClampNeg) : Int32) fun t_7 =>
       ck (vp_in x2 20) <|
       nm (upd (C_sd v) x2.toNatClampNeg t_7) fun g_9 =>
       nm (x2 + 1 : Int32) fun t_10 =>
       f_X0_copyFrom_b96 v1 n ((C_se v), (C_jo v), (C_sh v), (C_pi v), (C_vo v), (C_ar v), (C_ch v), (C_fe v), g_5, g_9) t_10)
set_option maxHeartbeats 4000000 in
set_option maxRecDepth 100000 in
theorem w_X0_copyFrom_b96 {G : GG} {l : Launch} {p : Program} {e : Env} {s : State} {m : MethodId} {args : Array Value} {below : List Frame} {meth : Method} {c : Code} {A : Nat → Prop} {a : Nat → Nat} {a1 : Nat → Nat} {v1 : CV} {zv : CV}   (X : Cx p s m args meth c cX0_copyFrom 3 none wsX0_copyFrom RX0 G A)  :
    ∀ (n : Nat) (v : CV) (x2 : Int32) (H : Heap) (locs : List Loc) (ls : Array Slot), f_X0_copyFrom_b96 v1 n v x2 = some (zv) → Wd G A s H locs (fl [cB G a v, cB G a1 v1]) → lv_has ls 3 [(0, .ref (a 0)), (1, .ref (a1 0)), (2, .int x2)] → W p l e rX0_copyFrom s m args below meth c H locs 0 0 (MQ below (Qv G A (fl [cB G a zv, cB G a1 v1])) args s 0 0 A) (F0 m 96 ls []) := by
  obtain ⟨⟨hx, hb, hml, hown, hts⟩, hK, hr, hlk, hA⟩ := id X
  intro n
  induction n with
  | zero =>
    intro v x2 H locs ls h
    rw [f_X0_copyFrom_b96] at h
    cases h
  | succ n ih =>
    intro v x2 H locs ls h hw hl
    rw [f_X0_copyFrom_b96] at h
    refine lv_iload_n hx hb dX0_copyFrom_96 rfl (lv_at hl 2 rfl) ?_
    refine lv_bipush (v := 20) hx hb dX0_copyFrom_97 (by decide) ?_
    refine lv_icmp_ge (tgt := 132) hx hb dX0_copyFrom_99 (by decide) (fun k_1 => ?_) (fun k_1 => ?_)
    · have h := br_yes h k_1
      cases h
      exact x_vret X hw rfl dX0_copyFrom_132
    · have h := br_no h k_1
      refine lv_aload_n hx hb dX0_copyFrom_102 rfl (lv_at hl 0 rfl) ?_
      refine x_get (v := .ref (a 5)) 0 0 X hw in_X0_copyFrom_0 rfl rfl rfl 8 (by decide) (List.mem_of_getElem? (i := 9) rfl) rfl rfl dX0_copyFrom_103 ?_
      refine lv_iload_n hx hb dX0_copyFrom_106 rfl (lv_at hl 2 rfl) ?_
      refine lv_aload_n hx hb dX0_copyFrom_107 rfl (lv_at hl 1 rfl) ?_
      refine x_get (v := .ref (a1 5)) 1 0 X hw in_X0_copyFrom_0 rfl rfl rfl 8 (by decide) (List.mem_of_getElem? (i := 9) rfl) rfl rfl dX0_copyFrom_108 ?_
      refine lv_iload_n hx hb dX0_copyFrom_111 rfl (lv_at hl 2 rfl) ?_
      obtain ⟨k_2, h⟩ := ck_ok h
      refine x_iald (f := (C_fi v1)) 1 5 X hw rfl rfl k_2 dX0_copyFrom_112 ?_
      obtain ⟨t_3, et_3, h⟩ := nm_ok h
      rw [← et_3]
      obtain ⟨k_4, h⟩ := ck_ok h
      obtain ⟨g_5, eg_5, h⟩ := nm_ok h
      refine x_iast (f := (C_fi v)) (bs' := [cB G a ((C_se v), (C_jo v), (C_sh v), (C_pi v), (C_vo v), (C_ar v), (C_ch v), (C_fe v), g_5, (C_sd v)), cB G a1 v1]) 0 5 X hw rfl rfl k_4 dX0_copyFrom_113 (by rw [eg_5]; rfl) (fun H locs hw => ?_)
      refine lv_aload_n hx hb dX0_copyFrom_114 rfl (lv_at hl 0 rfl) ?_
      refine x_get (v := .ref (a 6)) 0 0 X hw in_X0_copyFrom_0 rfl rfl rfl 9 (by decide) (List.mem_of_getElem? (i := 10) rfl) rfl rfl dX0_copyFrom_115 ?_
      refine lv_iload_n hx hb dX0_copyFrom_118 rfl (lv_at hl 2 rfl) ?_
      refine lv_aload_n hx hb dX0_copyFrom_119 rfl (lv_at hl 1 rfl) ?_
      refine x_get (v := .ref (a1 6)) 1 0 X hw in_X0_copyFrom_0 rfl rfl rfl 9 (by decide) (List.mem_of_getElem? (i := 10) rfl) rfl rfl dX0_copyFrom_120 ?_
      refine lv_iload_n hx hb dX0_copyFrom_123 rfl (lv_at hl 2 rfl) ?_
      obtain ⟨k_6, h⟩ := ck_ok h
      refine x_iald (f := (C_sd v1)) 1 6 X hw rfl rfl k_6 dX0_copyFrom_124 ?_
      obtain ⟨t_7, et_7, h⟩ := nm_ok h
      rw [← et_7]
      obtain ⟨k_8, h⟩ := ck_ok h
      obtain ⟨g_9, eg_9, h⟩ := nm_ok h
      refine x_iast (f := (C_sd v)) (bs' := [cB G a ((C_se v), (C_jo v), (C_sh v), (C_pi v), (C_vo v), (C_ar v), (C_ch v), (C_fe v), g_5, g_9), cB G a1 v1]) 0 6 X hw rfl rfl k_8 dX0_copyFrom_125 (by rw [eg_9]; rfl) (fun H locs hw => ?_)
      obtain ⟨t_10, et_10, h⟩ := nm_ok h
      refine lv_iinc (v := t_10) (lv' := [(2, .int t_10), (0, .ref (a 0)), (1, .ref (a1 0))]) hx hb dX0_copyFrom_126 hl (k := 2) rfl (by rw [et_10]; rfl) (by decide) rfl (fun ls hl => ?_)
      refine lv_goto (tgt := 96) hx hb dX0_copyFrom_129 (by decide) ?_
      exact ih ((C_se v), (C_jo v), (C_sh v), (C_pi v), (C_vo v), (C_ar v), (C_ch v), (C_fe v), g_5, g_9) t_10 _ _ _ h hw (lv_sub hl [1, 2, 0] rfl)
noncomputable def f_X0_copyFrom_b34  (v1 : CV) : Nat → CV → Int32 → Option (CV)
  | 0 => fun _ _ => none
  | n + 1 => fun v x2 =>
    br (12 ≤ x2)
      (f_X0_copyFrom_b96 v1 FU v 0)
      (ck (vp_in x2 12) <|
       nm (((C_vo v1) x2.toNatClampNeg) : Int32) fun t_3 =>
       ck (vp_in x2 12) <|
       nm (upd (C_vo v) x2.toNatClampNeg t_3) fun g_5 =>
       ck (vp_in x2 12) <|
       nm (((C_ar v1) x2.toNatClampNeg) : Int32) fun t_7 =>
       ck (vp_in x2 12) <|
       nm (upd (C_ar v) x2.toNatClampNeg t_7) fun g_9 =>
       ck (vp_in x2 12) <|
       nm (((C_ch v1) x2.toNatClampNeg) : Int32) fun t_11 =>
       ck (vp_in x2 12) <|
       nm (upd (C_ch v) x2.toNatClampNeg t_11) fun g_13 =>
       ck (vp_in x2 12) <|
       nm (((C_fe v1) x2.toNatClampNeg) : Int32) fun t_15 =>
       ck (vp_in x2 12) <|
       ck (t_15 = 0 ∨ t_15 = 1) <|
       nm (upd (C_fe v) x2.toNatClampNeg t_15) fun g_18 =>
       nm (x2 + 1 : Int32) fun t_19 =>
       f_X0_copyFrom_b34 v1 n ((C_se v), (C_jo v), (C_sh v), (C_pi v), g_5, g_9, g_13, g_18, (C_fi v), (C_sd v)) t_19)
set_option maxHeartbeats 4000000 in
set_option maxRecDepth 100000 in
theorem w_X0_copyFrom_b34 {G : GG} {l : Launch} {p : Program} {e : Env} {s : State} {m : MethodId} {args : Array Value} {below : List Frame} {meth : Method} {c : Code} {A : Nat → Prop} {a : Nat → Nat} {a1 : Nat → Nat} {v1 : CV} {zv : CV}   (X : Cx p s m args meth c cX0_copyFrom 3 none wsX0_copyFrom RX0 G A)  :
    ∀ (n : Nat) (v : CV) (x2 : Int32) (H : Heap) (locs : List Loc) (ls : Array Slot), f_X0_copyFrom_b34 v1 n v x2 = some (zv) → Wd G A s H locs (fl [cB G a v, cB G a1 v1]) → lv_has ls 3 [(0, .ref (a 0)), (1, .ref (a1 0)), (2, .int x2)] → W p l e rX0_copyFrom s m args below meth c H locs 0 0 (MQ below (Qv G A (fl [cB G a zv, cB G a1 v1])) args s 0 0 A) (F0 m 34 ls []) := by
  obtain ⟨⟨hx, hb, hml, hown, hts⟩, hK, hr, hlk, hA⟩ := id X
  intro n
  induction n with
  | zero =>
    intro v x2 H locs ls h
    rw [f_X0_copyFrom_b34] at h
    cases h
  | succ n ih =>
    intro v x2 H locs ls h hw hl
    rw [f_X0_copyFrom_b34] at h
    refine lv_iload_n hx hb dX0_copyFrom_34 rfl (lv_at hl 2 rfl) ?_
    refine lv_bipush (v := 12) hx hb dX0_copyFrom_35 (by decide) ?_
    refine lv_icmp_ge (tgt := 94) hx hb dX0_copyFrom_37 (by decide) (fun k_1 => ?_) (fun k_1 => ?_)
    · have h := br_yes h k_1
      refine lv_iconst (v := 0) hx hb dX0_copyFrom_94 (by decide) ?_
      refine lv_istore_n (lv' := [(2, .int 0), (0, .ref (a 0)), (1, .ref (a1 0))]) hx hb dX0_copyFrom_95 rfl hl (by decide) rfl (fun ls hl => ?_)
      exact w_X0_copyFrom_b96 X FU v 0 _ _ _ h hw (lv_sub hl [1, 2, 0] rfl)
    · have h := br_no h k_1
      refine lv_aload_n hx hb dX0_copyFrom_40 rfl (lv_at hl 0 rfl) ?_
      refine x_get (v := .ref (a 1)) 0 0 X hw in_X0_copyFrom_0 rfl rfl rfl 4 (by decide) (List.mem_of_getElem? (i := 5) rfl) rfl rfl dX0_copyFrom_41 ?_
      refine lv_iload_n hx hb dX0_copyFrom_44 rfl (lv_at hl 2 rfl) ?_
      refine lv_aload_n hx hb dX0_copyFrom_45 rfl (lv_at hl 1 rfl) ?_
      refine x_get (v := .ref (a1 1)) 1 0 X hw in_X0_copyFrom_0 rfl rfl rfl 4 (by decide) (List.mem_of_getElem? (i := 5) rfl) rfl rfl dX0_copyFrom_46 ?_
      refine lv_iload_n hx hb dX0_copyFrom_49 rfl (lv_at hl 2 rfl) ?_
      obtain ⟨k_2, h⟩ := ck_ok h
      refine x_iald (f := (C_vo v1)) 1 1 X hw rfl rfl k_2 dX0_copyFrom_50 ?_
      obtain ⟨t_3, et_3, h⟩ := nm_ok h
      rw [← et_3]
      obtain ⟨k_4, h⟩ := ck_ok h
      obtain ⟨g_5, eg_5, h⟩ := nm_ok h
      refine x_iast (f := (C_vo v)) (bs' := [cB G a ((C_se v), (C_jo v), (C_sh v), (C_pi v), g_5, (C_ar v), (C_ch v), (C_fe v), (C_fi v), (C_sd v)), cB G a1 v1]) 0 1 X hw rfl rfl k_4 dX0_copyFrom_51 (by rw [eg_5]; rfl) (fun H locs hw => ?_)
      refine lv_aload_n hx hb dX0_copyFrom_52 rfl (lv_at hl 0 rfl) ?_
      refine x_get (v := .ref (a 2)) 0 0 X hw in_X0_copyFrom_0 rfl rfl rfl 5 (by decide) (List.mem_of_getElem? (i := 6) rfl) rfl rfl dX0_copyFrom_53 ?_
      refine lv_iload_n hx hb dX0_copyFrom_56 rfl (lv_at hl 2 rfl) ?_
      refine lv_aload_n hx hb dX0_copyFrom_57 rfl (lv_at hl 1 rfl) ?_
      refine x_get (v := .ref (a1 2)) 1 0 X hw in_X0_copyFrom_0 rfl rfl rfl 5 (by decide) (List.mem_of_getElem? (i := 6) rfl) rfl rfl dX0_copyFrom_58 ?_
      refine lv_iload_n hx hb dX0_copyFrom_61 rfl (lv_at hl 2 rfl) ?_
      obtain ⟨k_6, h⟩ := ck_ok h
      refine x_iald (f := (C_ar v1)) 1 2 X hw rfl rfl k_6 dX0_copyFrom_62 ?_
      obtain ⟨t_7, et_7, h⟩ := nm_ok h
      rw [← et_7]
      obtain ⟨k_8, h⟩ := ck_ok h
      obtain ⟨g_9, eg_9, h⟩ := nm_ok h
      refine x_iast (f := (C_ar v)) (bs' := [cB G a ((C_se v), (C_jo v), (C_sh v), (C_pi v), g_5, g_9, (C_ch v), (C_fe v), (C_fi v), (C_sd v)), cB G a1 v1]) 0 2 X hw rfl rfl k_8 dX0_copyFrom_63 (by rw [eg_9]; rfl) (fun H locs hw => ?_)
      refine lv_aload_n hx hb dX0_copyFrom_64 rfl (lv_at hl 0 rfl) ?_
      refine x_get (v := .ref (a 3)) 0 0 X hw in_X0_copyFrom_0 rfl rfl rfl 6 (by decide) (List.mem_of_getElem? (i := 7) rfl) rfl rfl dX0_copyFrom_65 ?_
      refine lv_iload_n hx hb dX0_copyFrom_68 rfl (lv_at hl 2 rfl) ?_
      refine lv_aload_n hx hb dX0_copyFrom_69 rfl (lv_at hl 1 rfl) ?_
      refine x_get (v := .ref (a1 3)) 1 0 X hw in_X0_copyFrom_0 rfl rfl rfl 6 (by decide) (List.mem_of_getElem? (i := 7) rfl) rfl rfl dX0_copyFrom_70 ?_
      refine lv_iload_n hx hb dX0_copyFrom_73 rfl (lv_at hl 2 rfl) ?_
      obtain ⟨k_10, h⟩ := ck_ok h
      refine x_iald (f := (C_ch v1)) 1 3 X hw rfl rfl k_10 dX0_copyFrom_74 ?_
      obtain ⟨t_11, et_11, h⟩ := nm_ok h
      rw [← et_11]
      obtain ⟨k_12, h⟩ := ck_ok h
      obtain ⟨g_13, eg_13, h⟩ := nm_ok h
      refine x_iast (f := (C_ch v)) (bs' := [cB G a ((C_se v), (C_jo v), (C_sh v), (C_pi v), g_5, g_9, g_13, (C_fe v), (C_fi v), (C_sd v)), cB G a1 v1]) 0 3 X hw rfl rfl k_12 dX0_copyFrom_75 (by rw [eg_13]; rfl) (fun H locs hw => ?_)
      refine lv_aload_n hx hb dX0_copyFrom_76 rfl (lv_at hl 0 rfl) ?_
      refine x_get (v := .ref (a 4)) 0 0 X hw in_X0_copyFrom_0 rfl rfl rfl 7 (by decide) (List.mem_of_getElem? (i := 8) rfl) rfl rfl dX0_copyFrom_77 ?_
      refine lv_iload_n hx hb dX0_copyFrom_80 rfl (lv_at hl 2 rfl) ?_
      refine lv_aload_n hx hb dX0_copyFrom_81 rfl (lv_at hl 1 rfl) ?_
      refine x_get (v := .ref (a1 4)) 1 0 X hw in_X0_copyFrom_0 rfl rfl rfl 7 (by decide) (List.mem_of_getElem? (i := 8) rfl) rfl rfl dX0_copyFrom_82 ?_
      refine lv_iload_n hx hb dX0_copyFrom_85 rfl (lv_at hl 2 rfl) ?_
      obtain ⟨k_14, h⟩ := ck_ok h
      refine x_zald (f := (C_fe v1)) 1 4 X hw rfl rfl k_14 dX0_copyFrom_86 ?_
      obtain ⟨t_15, et_15, h⟩ := nm_ok h
      rw [← et_15]
      obtain ⟨k_16, h⟩ := ck_ok h
      obtain ⟨k_17, h⟩ := ck_ok h
      obtain ⟨g_18, eg_18, h⟩ := nm_ok h
      refine x_zast (f := (C_fe v)) (bs' := [cB G a ((C_se v), (C_jo v), (C_sh v), (C_pi v), g_5, g_9, g_13, g_18, (C_fi v), (C_sd v)), cB G a1 v1]) 0 4 X hw rfl rfl k_17 k_16 dX0_copyFrom_87 (by rw [eg_18]; rfl) (fun H locs hw => ?_)
      obtain ⟨t_19, et_19, h⟩ := nm_ok h
      refine lv_iinc (v := t_19) (lv' := [(2, .int t_19), (0, .ref (a 0)), (1, .ref (a1 0))]) hx hb dX0_copyFrom_88 hl (k := 2) rfl (by rw [et_19]; rfl) (by decide) rfl (fun ls hl => ?_)
      refine lv_goto (tgt := 34) hx hb dX0_copyFrom_91 (by decide) ?_
      exact ih ((C_se v), (C_jo v), (C_sh v), (C_pi v), g_5, g_9, g_13, g_18, (C_fi v), (C_sd v)) t_19 _ _ _ h hw (lv_sub hl [1, 2, 0] rfl)
noncomputable def f_X0_copyFrom  (v : CV) (v1 : CV)  : Option (CV) :=
  f_X0_copyFrom_b34 v1 FU ((C_se v1), (C_jo v1), (C_sh v1), (C_pi v1), (C_vo v), (C_ar v), (C_ch v), (C_fe v), (C_fi v), (C_sd v)) 0
set_option maxHeartbeats 4000000 in
set_option maxRecDepth 100000 in
theorem m_X0_copyFrom {G : GG} {l : Launch} {a : Nat → Nat} {a1 : Nat → Nat} {v : CV} {v1 : CV}  {zv : CV} (h : f_X0_copyFrom v v1 = some (zv)) : Cv G l yX0_copyFrom wsX0_copyFrom rX0_copyFrom [.ref (a 0), .ref (a1 0)] (fl [cB G a v, cB G a1 v1]) (fl [cB G a zv, cB G a1 v1]) := by
  refine Cv.intro cX0_copyFrom 3 none RX0 (by decide) rfl rfl (Nat.le_of_ble_eq_true rfl) ?_
  intro p e s m below meth c A ls X hw hl
  obtain ⟨⟨hx, hb, hml, hown, hts⟩, hK, hr, hlk, hA⟩ := id X
  unfold f_X0_copyFrom at h
  have hl : lv_has ls 3 [(0, .ref (a 0)), (1, .ref (a1 0))] := hl
  refine lv_aload_n hx hb dX0_copyFrom_0 rfl (lv_at hl 0 rfl) ?_
  refine lv_aload_n hx hb dX0_copyFrom_1 rfl (lv_at hl 1 rfl) ?_
  refine x_get (v := .int (C_se v1)) 1 0 X hw in_X0_copyFrom_0 rfl rfl rfl 0 (by decide) (List.mem_of_getElem? (i := 1) rfl) rfl rfl dX0_copyFrom_2 ?_
  refine x_put (bs' := [cB G a ((C_se v1), (C_jo v), (C_sh v), (C_pi v), (C_vo v), (C_ar v), (C_ch v), (C_fe v), (C_fi v), (C_sd v)), cB G a1 v1]) 0 0 X hw in_X0_copyFrom_0 tyX0 tyX0_ok nmX0 rfl rfl rfl 0 (by decide) (List.mem_of_getElem? (i := 1) rfl) rfl rfl rfl rfl (Nat.le_of_ble_eq_true rfl) dX0_copyFrom_5 rfl (fun H locs hw => ?_)
  refine lv_aload_n hx hb dX0_copyFrom_8 rfl (lv_at hl 0 rfl) ?_
  refine lv_aload_n hx hb dX0_copyFrom_9 rfl (lv_at hl 1 rfl) ?_
  refine x_get (v := .int (C_jo v1)) 1 0 X hw in_X0_copyFrom_0 rfl rfl rfl 1 (by decide) (List.mem_of_getElem? (i := 2) rfl) rfl rfl dX0_copyFrom_10 ?_
  refine x_put (bs' := [cB G a ((C_se v1), (C_jo v1), (C_sh v), (C_pi v), (C_vo v), (C_ar v), (C_ch v), (C_fe v), (C_fi v), (C_sd v)), cB G a1 v1]) 0 0 X hw in_X0_copyFrom_0 tyX0 tyX0_ok nmX0 rfl rfl rfl 1 (by decide) (List.mem_of_getElem? (i := 2) rfl) rfl rfl rfl rfl (Nat.le_of_ble_eq_true rfl) dX0_copyFrom_13 rfl (fun H locs hw => ?_)
  refine lv_aload_n hx hb dX0_copyFrom_16 rfl (lv_at hl 0 rfl) ?_
  refine lv_aload_n hx hb dX0_copyFrom_17 rfl (lv_at hl 1 rfl) ?_
  refine x_get (v := .int (C_sh v1)) 1 0 X hw in_X0_copyFrom_0 rfl rfl rfl 2 (by decide) (List.mem_of_getElem? (i := 3) rfl) rfl rfl dX0_copyFrom_18 ?_
  refine x_put (bs' := [cB G a ((C_se v1), (C_jo v1), (C_sh v1), (C_pi v), (C_vo v), (C_ar v), (C_ch v), (C_fe v), (C_fi v), (C_sd v)), cB G a1 v1]) 0 0 X hw in_X0_copyFrom_0 tyX0 tyX0_ok nmX0 rfl rfl rfl 2 (by decide) (List.mem_of_getElem? (i := 3) rfl) rfl rfl rfl rfl (Nat.le_of_ble_eq_true rfl) dX0_copyFrom_21 rfl (fun H locs hw => ?_)
  refine lv_aload_n hx hb dX0_copyFrom_24 rfl (lv_at hl 0 rfl) ?_
  refine lv_aload_n hx hb dX0_copyFrom_25 rfl (lv_at hl 1 rfl) ?_
  refine x_get (v := .int (C_pi v1)) 1 0 X hw in_X0_copyFrom_0 rfl rfl rfl 3 (by decide) (List.mem_of_getElem? (i := 4) rfl) rfl rfl dX0_copyFrom_26 ?_
  refine x_put (bs' := [cB G a ((C_se v1), (C_jo v1), (C_sh v1), (C_pi v1), (C_vo v), (C_ar v), (C_ch v), (C_fe v), (C_fi v), (C_sd v)), cB G a1 v1]) 0 0 X hw in_X0_copyFrom_0 tyX0 tyX0_ok nmX0 rfl rfl rfl 3 (by decide) (List.mem_of_getElem? (i := 4) rfl) rfl rfl rfl rfl (Nat.le_of_ble_eq_true rfl) dX0_copyFrom_29 rfl (fun H locs hw => ?_)
  refine lv_iconst (v := 0) hx hb dX0_copyFrom_32 (by decide) ?_
  refine lv_istore_n (lv' := [(2, .int 0), (0, .ref (a 0)), (1, .ref (a1 0))]) hx hb dX0_copyFrom_33 rfl hl (by decide) rfl (fun ls hl => ?_)
  exact w_X0_copyFrom_b34 X FU ((C_se v1), (C_jo v1), (C_sh v1), (C_pi v1), (C_vo v), (C_ar v), (C_ch v), (C_fe v), (C_fi v), (C_sd v)) 0 _ _ _ h hw (lv_sub hl [1, 2, 0] rfl)

def rX0_append : Room := { frames := 0, cells := 0, slots := 0, locals := 0 }
theorem hd_X0_append : yX0_append.cls = RX0 ∧ yX0_append.cls ≠ "java/lang/invoke/MethodHandle" ∧ yX0_append.cls ≠ "java/lang/invoke/VarHandle" ∧ (parseMethodDescriptor yX0_append.desc).map (fun d => d.parameters.length) = some 4 := by decide +kernel
theorem in_X0_append_0 : ∀ w ∈ u_ws RX0 TX0 10, w ∈ wsX0_append := fun w h => (List.mem_cons_of_mem _ (List.mem_append_right _ h))
noncomputable def f_X0_append  (v : CV) (x1 : Int32) (x2 : Int32) (x3 : Int32) (x4 : Int32) : Option (Int32 × CV) :=
  br ((C_se v) < 0)
    (some ((-5), v))
    (br ((C_se v) < 12)
       (ck (vp_in (C_se v) 12) <|
        nm (upd (C_vo v) ((C_se v) : Int32).toNatClampNeg x1) fun g_4 =>
        ck (vp_in (C_se v) 12) <|
        nm (upd (C_ar v) ((C_se v) : Int32).toNatClampNeg x2) fun g_6 =>
        ck (vp_in (C_se v) 12) <|
        nm (upd (C_ch v) ((C_se v) : Int32).toNatClampNeg x3) fun g_8 =>
        ck (vp_in (C_se v) 12) <|
        ck (x4 = 0 ∨ x4 = 1) <|
        nm (upd (C_fe v) ((C_se v) : Int32).toNatClampNeg x4) fun g_11 =>
        nm (((C_se v) + 1) : Int32) fun t_12 =>
        some ((C_se v), (t_12, (C_jo v), (C_sh v), (C_pi v), g_4, g_6, g_8, g_11, (C_fi v), (C_sd v))))
       (some ((-5), v)))
set_option maxHeartbeats 4000000 in
set_option maxRecDepth 100000 in
theorem m_X0_append {G : GG} {l : Launch} {a : Nat → Nat} {v : CV} {x1 : Int32} {x2 : Int32} {x3 : Int32} {x4 : Int32} {r : Int32} {zv : CV} (h : f_X0_append v x1 x2 x3 x4 = some (r, zv)) : Ci G l yX0_append wsX0_append rX0_append [.ref (a 0), .int x1, .int x2, .int x3, .int x4] (fl [cB G a v]) r (fl [cB G a zv]) := by
  refine Ci.intro cX0_append 6 (some .int) RX0 (by decide) rfl rfl (Nat.le_of_ble_eq_true rfl) ?_
  intro p e s m below meth c A ls X hw hl
  obtain ⟨⟨hx, hb, hml, hown, hts⟩, hK, hr, hlk, hA⟩ := id X
  unfold f_X0_append at h
  have hl : lv_has ls 6 [(0, .ref (a 0)), (1, .int x1), (2, .int x2), (3, .int x3), (4, .int x4)] := hl
  refine lv_aload_n hx hb dX0_append_0 rfl (lv_at hl 0 rfl) ?_
  refine x_get (v := .int (C_se v)) 0 0 X hw in_X0_append_0 rfl rfl rfl 0 (by decide) (List.mem_of_getElem? (i := 1) rfl) rfl rfl dX0_append_1 ?_
  refine lv_istore (lv' := [(5, .int (C_se v)), (0, .ref (a 0)), (1, .int x1), (2, .int x2), (3, .int x3), (4, .int x4)]) hx hb dX0_append_4 hl (by decide) rfl (fun ls hl => ?_)
  refine lv_iload hx hb dX0_append_6 (lv_at hl 0 rfl) ?_
  refine lv_if_lt (tgt := 18) hx hb dX0_append_8 (by decide) (fun k_1 => ?_) (fun k_1 => ?_)
  · have h := br_yes h k_1
    refine lv_bipush (v := (-5)) hx hb dX0_append_18 (by decide) ?_
    cases h
    exact x_iret X (vp_nar_int _) hw rfl rfl dX0_append_20
  · have h := br_no h k_1
    refine lv_iload hx hb dX0_append_11 (lv_at hl 0 rfl) ?_
    refine lv_bipush (v := 12) hx hb dX0_append_13 (by decide) ?_
    refine lv_icmp_lt (tgt := 21) hx hb dX0_append_15 (by decide) (fun k_2 => ?_) (fun k_2 => ?_)
    · have h := br_yes h k_2
      refine lv_aload_n hx hb dX0_append_21 rfl (lv_at hl 1 rfl) ?_
      refine x_get (v := .ref (a 1)) 0 0 X hw in_X0_append_0 rfl rfl rfl 4 (by decide) (List.mem_of_getElem? (i := 2) rfl) rfl rfl dX0_append_22 ?_
      refine lv_iload hx hb dX0_append_25 (lv_at hl 0 rfl) ?_
      refine lv_iload_n hx hb dX0_append_27 rfl (lv_at hl 2 rfl) ?_
      obtain ⟨k_3, h⟩ := ck_ok h
      obtain ⟨g_4, eg_4, h⟩ := nm_ok h
      refine x_iast (f := (C_vo v)) (bs' := [cB G a ((C_se v), (C_jo v), (C_sh v), (C_pi v), g_4, (C_ar v), (C_ch v), (C_fe v), (C_fi v), (C_sd v))]) 0 1 X hw rfl rfl k_3 dX0_append_28 (by rw [eg_4]; rfl) (fun H locs hw => ?_)
      refine lv_aload_n hx hb dX0_append_29 rfl (lv_at hl 1 rfl) ?_
      refine x_get (v := .ref (a 2)) 0 0 X hw in_X0_append_0 rfl rfl rfl 5 (by decide) (List.mem_of_getElem? (i := 3) rfl) rfl rfl dX0_append_30 ?_
      refine lv_iload hx hb dX0_append_33 (lv_at hl 0 rfl) ?_
      refine lv_iload_n hx hb dX0_append_35 rfl (lv_at hl 3 rfl) ?_
      obtain ⟨k_5, h⟩ := ck_ok h
      obtain ⟨g_6, eg_6, h⟩ := nm_ok h
      refine x_iast (f := (C_ar v)) (bs' := [cB G a ((C_se v), (C_jo v), (C_sh v), (C_pi v), g_4, g_6, (C_ch v), (C_fe v), (C_fi v), (C_sd v))]) 0 2 X hw rfl rfl k_5 dX0_append_36 (by rw [eg_6]; rfl) (fun H locs hw => ?_)
      refine lv_aload_n hx hb dX0_append_37 rfl (lv_at hl 1 rfl) ?_
      refine x_get (v := .ref (a 3)) 0 0 X hw in_X0_append_0 rfl rfl rfl 6 (by decide) (List.mem_of_getElem? (i := 4) rfl) rfl rfl dX0_append_38 ?_
      refine lv_iload hx hb dX0_append_41 (lv_at hl 0 rfl) ?_
      refine lv_iload_n hx hb dX0_append_43 rfl (lv_at hl 4 rfl) ?_
      obtain ⟨k_7, h⟩ := ck_ok h
      obtain ⟨g_8, eg_8, h⟩ := nm_ok h
      refine x_iast (f := (C_ch v)) (bs' := [cB G a ((C_se v), (C_jo v), (C_sh v), (C_pi v), g_4, g_6, g_8, (C_fe v), (C_fi v), (C_sd v))]) 0 3 X hw rfl rfl k_7 dX0_append_44 (by rw [eg_8]; rfl) (fun H locs hw => ?_)
      refine lv_aload_n hx hb dX0_append_45 rfl (lv_at hl 1 rfl) ?_
      refine x_get (v := .ref (a 4)) 0 0 X hw in_X0_append_0 rfl rfl rfl 7 (by decide) (List.mem_of_getElem? (i := 5) rfl) rfl rfl dX0_append_46 ?_
      refine lv_iload hx hb dX0_append_49 (lv_at hl 0 rfl) ?_
      refine lv_iload hx hb dX0_append_51 (lv_at hl 5 rfl) ?_
      obtain ⟨k_9, h⟩ := ck_ok h
      obtain ⟨k_10, h⟩ := ck_ok h
      obtain ⟨g_11, eg_11, h⟩ := nm_ok h
      refine x_zast (f := (C_fe v)) (bs' := [cB G a ((C_se v), (C_jo v), (C_sh v), (C_pi v), g_4, g_6, g_8, g_11, (C_fi v), (C_sd v))]) 0 4 X hw rfl rfl k_10 k_9 dX0_append_53 (by rw [eg_11]; rfl) (fun H locs hw => ?_)
      refine lv_aload_n hx hb dX0_append_54 rfl (lv_at hl 1 rfl) ?_
      refine lv_iload hx hb dX0_append_55 (lv_at hl 0 rfl) ?_
      refine lv_iconst (v := 1) hx hb dX0_append_57 (by decide) ?_
      refine lv_iadd hx hb dX0_append_58 ?_
      obtain ⟨t_12, et_12, h⟩ := nm_ok h
      refine x_put (bs' := [cB G a (t_12, (C_jo v), (C_sh v), (C_pi v), g_4, g_6, g_8, g_11, (C_fi v), (C_sd v))]) 0 0 X hw in_X0_append_0 tyX0 tyX0_ok nmX0 rfl rfl rfl 0 (by decide) (List.mem_of_getElem? (i := 1) rfl) rfl rfl rfl rfl (Nat.le_of_ble_eq_true rfl) dX0_append_59 (by rw [et_12]; rfl) (fun H locs hw => ?_)
      refine lv_iload hx hb dX0_append_62 (lv_at hl 0 rfl) ?_
      cases h
      exact x_iret X (vp_nar_int _) hw rfl rfl dX0_append_64
    · have h := br_no h k_2
      refine lv_bipush (v := (-5)) hx hb dX0_append_18 (by decide) ?_
      cases h
      exact x_iret X (vp_nar_int _) hw rfl rfl dX0_append_20

def rX0_cooledArea : Room := { frames := 1, cells := 0, slots := 0, locals := 21 }
theorem hd_X0_cooledArea : yX0_cooledArea.cls = RX0 ∧ yX0_cooledArea.cls ≠ "java/lang/invoke/MethodHandle" ∧ yX0_cooledArea.cls ≠ "java/lang/invoke/VarHandle" ∧ (parseMethodDescriptor yX0_cooledArea.desc).map (fun d => d.parameters.length) = some 1 := by decide +kernel
theorem in_X0_cooledArea_0 : ∀ w ∈ u_ws RX0 TX0 10, w ∈ wsX0_cooledArea := fun w h => (List.mem_cons_of_mem _ (List.mem_append_right _ h))
noncomputable def f_X0_cooledArea  (v : CV) (x1 : Int32) : Option (Int32) :=
  bd (f_X4_at 12 (C_ar v) x1) fun r_1 =>
  bd (f_X4_at 12 (C_ch v) x1) fun r_3 =>
  some ((r_1 + r_3))
set_option maxHeartbeats 4000000 in
set_option maxRecDepth 100000 in
theorem m_X0_cooledArea {G : GG} {l : Launch} {a : Nat → Nat} {v : CV} {x1 : Int32} {r : Int32}  (h : f_X0_cooledArea v x1 = some (r)) : Ci G l yX0_cooledArea wsX0_cooledArea rX0_cooledArea [.ref (a 0), .int x1] (fl [cB G a v]) r (fl [cB G a v]) := by
  refine Ci.intro cX0_cooledArea 2 (some .int) RX0 (by decide) rfl rfl (Nat.le_of_ble_eq_true rfl) ?_
  intro p e s m below meth c A ls X hw hl
  obtain ⟨⟨hx, hb, hml, hown, hts⟩, hK, hr, hlk, hA⟩ := id X
  unfold f_X0_cooledArea at h
  have hl : lv_has ls 2 [(0, .ref (a 0)), (1, .int x1)] := hl
  refine lv_aload_n hx hb dX0_cooledArea_0 rfl (lv_at hl 0 rfl) ?_
  refine x_get (v := .ref (a 2)) 0 0 X hw in_X0_cooledArea_0 rfl rfl rfl 5 (by decide) (List.mem_of_getElem? (i := 1) rfl) rfl rfl dX0_cooledArea_1 ?_
  refine lv_iload_n hx hb dX0_cooledArea_4 rfl (lv_at hl 1 rfl) ?_
  obtain ⟨r_1, c_2, h⟩ := bd_ok h
  refine x_Ni (As := [.ref (a 2), .int x1]) (w' := fl [cB G a v]) X hw (m_X4_at (G := G) (l := l) (q := (a 2)) c_2) (Cut.cellr 0 2 rfl rfl) ⟨va_cnB 2 hts gX0_cooledArea_X4_at_n48 rfl rfl rfl (hK.2.1 _ (List.mem_of_getElem? (i := 3) rfl)) (hts _ (List.mem_of_getElem? (i := 4) rfl)) hd_X4_at.2 ⟨Nat.le_of_ble_eq_true rfl, Nat.le_of_ble_eq_true rfl⟩, hts _ (List.mem_of_getElem? (i := 3) rfl), trivial⟩ rfl hl.1 rfl (Nat.le_of_ble_eq_true rfl) dX0_cooledArea_5 ⟨Nat.le_of_ble_eq_true rfl, Nat.le_of_ble_eq_true rfl⟩ (fun H locs hw => ?_)
  refine lv_aload_n hx hb dX0_cooledArea_8 rfl (lv_at hl 0 rfl) ?_
  refine x_get (v := .ref (a 3)) 0 0 X hw in_X0_cooledArea_0 rfl rfl rfl 6 (by decide) (List.mem_of_getElem? (i := 2) rfl) rfl rfl dX0_cooledArea_9 ?_
  refine lv_iload_n hx hb dX0_cooledArea_12 rfl (lv_at hl 1 rfl) ?_
  obtain ⟨r_3, c_4, h⟩ := bd_ok h
  refine x_Ni (As := [.ref (a 3), .int x1]) (w' := fl [cB G a v]) X hw (m_X4_at (G := G) (l := l) (q := (a 3)) c_4) (Cut.cellr 0 3 rfl rfl) ⟨va_cnB 2 hts gX0_cooledArea_X4_at_n48 rfl rfl rfl (hK.2.1 _ (List.mem_of_getElem? (i := 3) rfl)) (hts _ (List.mem_of_getElem? (i := 4) rfl)) hd_X4_at.2 ⟨Nat.le_of_ble_eq_true rfl, Nat.le_of_ble_eq_true rfl⟩, hts _ (List.mem_of_getElem? (i := 3) rfl), trivial⟩ rfl hl.1 rfl (Nat.le_of_ble_eq_true rfl) dX0_cooledArea_13 ⟨Nat.le_of_ble_eq_true rfl, Nat.le_of_ble_eq_true rfl⟩ (fun H locs hw => ?_)
  refine lv_iadd hx hb dX0_cooledArea_16 ?_
  cases h
  exact x_iret X (vp_nar_int _) hw rfl rfl dX0_cooledArea_17

def rX0_stepOf : Room := { frames := 2, cells := 0, slots := 0, locals := 42 }
theorem hd_X0_stepOf : yX0_stepOf.cls = RX0 ∧ yX0_stepOf.cls ≠ "java/lang/invoke/MethodHandle" ∧ yX0_stepOf.cls ≠ "java/lang/invoke/VarHandle" ∧ (parseMethodDescriptor yX0_stepOf.desc).map (fun d => d.parameters.length) = some 1 := by decide +kernel
theorem in_X0_stepOf_0 : ∀ w ∈ u_ws RX0 TX0 10, w ∈ wsX0_stepOf := fun w h => (List.mem_cons_of_mem _ (List.mem_append_right _ h))
noncomputable def f_X0_stepOf_b21  (v : CV) (x1 : Int32) (x2 : Int32) (x3 : Int32) : Nat → Int32 → Int32 → Option (Int32)
  | 0 => fun _ _ => none
  | n + 1 => fun x4 x5 =>
    br ((C_se v) ≤ x5)
      (some (x4))
      (bd (f_X4_at 12 (C_vo v) x5) fun r_2 =>
       nm ((r_2 * x3) : Int32) fun t_4 =>
       bd (f_X0_cooledArea v x5) fun r_5 =>
       nm ((x2 * r_5) : Int32) fun t_7 =>
       br (t_4 < t_7)
         (nm (x4 + 1 : Int32) fun t_9 =>
          nm (x5 + 1 : Int32) fun t_10 =>
          f_X0_stepOf_b21 v x1 x2 x3 n t_9 t_10)
         (br (t_4 = t_7)
            (br (x1 ≤ x5)
               (nm (x5 + 1 : Int32) fun t_14 =>
                f_X0_stepOf_b21 v x1 x2 x3 n x4 t_14)
               (nm (x4 + 1 : Int32) fun t_15 =>
                nm (x5 + 1 : Int32) fun t_16 =>
                f_X0_stepOf_b21 v x1 x2 x3 n t_15 t_16))
            (nm (x5 + 1 : Int32) fun t_12 =>
             f_X0_stepOf_b21 v x1 x2 x3 n x4 t_12)))
set_option maxHeartbeats 4000000 in
set_option maxRecDepth 100000 in
theorem w_X0_stepOf_b21 {G : GG} {l : Launch} {p : Program} {e : Env} {s : State} {m : MethodId} {args : Array Value} {below : List Frame} {meth : Method} {c : Code} {A : Nat → Prop} {a : Nat → Nat} {v : CV} {x1 : Int32} {x2 : Int32} {x3 : Int32} {r : Int32}    (X : Cx p s m args meth c cX0_stepOf 8 (some .int) wsX0_stepOf RX0 G A)  :
    ∀ (n : Nat) (x4 : Int32) (x5 : Int32) (H : Heap) (locs : List Loc) (ls : Array Slot), f_X0_stepOf_b21 v x1 x2 x3 n x4 x5 = some (r) → Wd G A s H locs (fl [cB G a v]) → lv_has ls 8 [(0, .ref (a 0)), (1, .int x1), (2, .int x2), (3, .int x3), (4, .int x4), (5, .int x5)] → W p l e rX0_stepOf s m args below meth c H locs 0 0 (MQ below (Qi G A r (fl [cB G a v])) args s 0 0 A) (F0 m 21 ls []) := by
  obtain ⟨⟨hx, hb, hml, hown, hts⟩, hK, hr, hlk, hA⟩ := id X
  intro n
  induction n with
  | zero =>
    intro x4 x5 H locs ls h
    rw [f_X0_stepOf_b21] at h
    cases h
  | succ n ih =>
    intro x4 x5 H locs ls h hw hl
    rw [f_X0_stepOf_b21] at h
    refine lv_iload hx hb dX0_stepOf_21 (lv_at hl 5 rfl) ?_
    refine lv_aload_n hx hb dX0_stepOf_23 rfl (lv_at hl 0 rfl) ?_
    refine x_get (v := .int (C_se v)) 0 0 X hw in_X0_stepOf_0 rfl rfl rfl 0 (by decide) (List.mem_of_getElem? (i := 2) rfl) rfl rfl dX0_stepOf_24 ?_
    refine lv_icmp_ge (tgt := 82) hx hb dX0_stepOf_27 (by decide) (fun k_1 => ?_) (fun k_1 => ?_)
    · have h := br_yes h k_1
      refine lv_iload hx hb dX0_stepOf_82 (lv_at hl 4 rfl) ?_
      cases h
      exact x_iret X (vp_nar_int _) hw rfl rfl dX0_stepOf_84
    · have h := br_no h k_1
      refine lv_aload_n hx hb dX0_stepOf_30 rfl (lv_at hl 0 rfl) ?_
      refine x_get (v := .ref (a 1)) 0 0 X hw in_X0_stepOf_0 rfl rfl rfl 4 (by decide) (List.mem_of_getElem? (i := 1) rfl) rfl rfl dX0_stepOf_31 ?_
      refine lv_iload hx hb dX0_stepOf_34 (lv_at hl 5 rfl) ?_
      obtain ⟨r_2, c_3, h⟩ := bd_ok h
      refine x_Ni (As := [.ref (a 1), .int x5]) (w' := fl [cB G a v]) X hw (m_X4_at (G := G) (l := l) (q := (a 1)) c_3) (Cut.cellr 0 1 rfl rfl) ⟨va_cnB 2 hts gX0_stepOf_X4_at_n48 rfl rfl rfl (hK.2.1 _ (List.mem_of_getElem? (i := 3) rfl)) (hts _ (List.mem_of_getElem? (i := 4) rfl)) hd_X4_at.2 ⟨Nat.le_of_ble_eq_true rfl, Nat.le_of_ble_eq_true rfl⟩, hts _ (List.mem_of_getElem? (i := 3) rfl), trivial⟩ rfl hl.1 rfl (Nat.le_of_ble_eq_true rfl) dX0_stepOf_36 ⟨Nat.le_of_ble_eq_true rfl, Nat.le_of_ble_eq_true rfl⟩ (fun H locs hw => ?_)
      refine lv_iload_n hx hb dX0_stepOf_39 rfl (lv_at hl 3 rfl) ?_
      refine lv_imul hx hb dX0_stepOf_40 ?_
      obtain ⟨t_4, et_4, h⟩ := nm_ok h
      refine lv_istore (lv' := [(6, .int t_4), (0, .ref (a 0)), (1, .int x1), (2, .int x2), (3, .int x3), (4, .int x4), (5, .int x5)]) hx hb dX0_stepOf_41 hl (by decide) (by rw [et_4]; rfl) (fun ls hl => ?_)
      refine lv_iload_n hx hb dX0_stepOf_43 rfl (lv_at hl 3 rfl) ?_
      refine lv_aload_n hx hb dX0_stepOf_44 rfl (lv_at hl 1 rfl) ?_
      refine lv_iload hx hb dX0_stepOf_45 (lv_at hl 6 rfl) ?_
      obtain ⟨r_5, c_6, h⟩ := bd_ok h
      refine x_Vi (As := [.int x5]) (w' := fl [cB G a v]) X hw (m_X0_cooledArea (G := G) (l := l) (a := a) c_6) Cut.all 0 0 rfl rfl rfl (cwV 1 hts gX0_stepOf_X0_cooledArea rfl rfl rfl hd_X0_cooledArea ⟨Nat.le_of_ble_eq_true rfl, Nat.le_of_ble_eq_true rfl⟩) rfl hl.1 rfl (Nat.le_of_ble_eq_true rfl) dX0_stepOf_47 ⟨Nat.le_of_ble_eq_true rfl, Nat.le_of_ble_eq_true rfl⟩ (fun H locs hw => ?_)
      refine lv_imul hx hb dX0_stepOf_50 ?_
      obtain ⟨t_7, et_7, h⟩ := nm_ok h
      refine lv_istore (lv' := [(7, .int t_7), (6, .int t_4), (0, .ref (a 0)), (1, .int x1), (2, .int x2), (3, .int x3), (4, .int x4), (5, .int x5)]) hx hb dX0_stepOf_51 hl (by decide) (by rw [et_7]; rfl) (fun ls hl => ?_)
      refine lv_iload hx hb dX0_stepOf_53 (lv_at hl 1 rfl) ?_
      refine lv_iload hx hb dX0_stepOf_55 (lv_at hl 0 rfl) ?_
      refine lv_icmp_lt (tgt := 73) hx hb dX0_stepOf_57 (by decide) (fun k_8 => ?_) (fun k_8 => ?_)
      · have h := br_yes h k_8
        obtain ⟨t_9, et_9, h⟩ := nm_ok h
        refine lv_iinc (v := t_9) (lv' := [(4, .int t_9), (7, .int t_7), (6, .int t_4), (0, .ref (a 0)), (1, .int x1), (2, .int x2), (3, .int x3), (5, .int x5)]) hx hb dX0_stepOf_73 hl (k := 6) rfl (by rw [et_9]; rfl) (by decide) rfl (fun ls hl => ?_)
        obtain ⟨t_10, et_10, h⟩ := nm_ok h
        refine lv_iinc (v := t_10) (lv' := [(5, .int t_10), (4, .int t_9), (7, .int t_7), (6, .int t_4), (0, .ref (a 0)), (1, .int x1), (2, .int x2), (3, .int x3)]) hx hb dX0_stepOf_76 hl (k := 7) rfl (by rw [et_10]; rfl) (by decide) rfl (fun ls hl => ?_)
        refine lv_goto (tgt := 21) hx hb dX0_stepOf_79 (by decide) ?_
        exact ih t_9 t_10 _ _ _ h hw (lv_sub hl [4, 5, 6, 7, 1, 0] rfl)
      · have h := br_no h k_8
        refine lv_iload hx hb dX0_stepOf_60 (lv_at hl 1 rfl) ?_
        refine lv_iload hx hb dX0_stepOf_62 (lv_at hl 0 rfl) ?_
        refine lv_icmp_ne (tgt := 76) hx hb dX0_stepOf_64 (by decide) (fun k_11 => ?_) (fun k_11 => ?_)
        · have h := br_no h k_11
          obtain ⟨t_12, et_12, h⟩ := nm_ok h
          refine lv_iinc (v := t_12) (lv' := [(5, .int t_12), (7, .int t_7), (6, .int t_4), (0, .ref (a 0)), (1, .int x1), (2, .int x2), (3, .int x3), (4, .int x4)]) hx hb dX0_stepOf_76 hl (k := 7) rfl (by rw [et_12]; rfl) (by decide) rfl (fun ls hl => ?_)
          refine lv_goto (tgt := 21) hx hb dX0_stepOf_79 (by decide) ?_
          exact ih x4 t_12 _ _ _ h hw (lv_sub hl [3, 4, 5, 6, 7, 0] rfl)
        · have h := br_yes h k_11
          refine lv_iload hx hb dX0_stepOf_67 (lv_at hl 7 rfl) ?_
          refine lv_iload_n hx hb dX0_stepOf_69 rfl (lv_at hl 3 rfl) ?_
          refine lv_icmp_ge (tgt := 76) hx hb dX0_stepOf_70 (by decide) (fun k_13 => ?_) (fun k_13 => ?_)
          · have h := br_yes h k_13
            obtain ⟨t_14, et_14, h⟩ := nm_ok h
            refine lv_iinc (v := t_14) (lv' := [(5, .int t_14), (7, .int t_7), (6, .int t_4), (0, .ref (a 0)), (1, .int x1), (2, .int x2), (3, .int x3), (4, .int x4)]) hx hb dX0_stepOf_76 hl (k := 7) rfl (by rw [et_14]; rfl) (by decide) rfl (fun ls hl => ?_)
            refine lv_goto (tgt := 21) hx hb dX0_stepOf_79 (by decide) ?_
            exact ih x4 t_14 _ _ _ h hw (lv_sub hl [3, 4, 5, 6, 7, 0] rfl)
          · have h := br_no h k_13
            obtain ⟨t_15, et_15, h⟩ := nm_ok h
            refine lv_iinc (v := t_15) (lv' := [(4, .int t_15), (7, .int t_7), (6, .int t_4), (0, .ref (a 0)), (1, .int x1), (2, .int x2), (3, .int x3), (5, .int x5)]) hx hb dX0_stepOf_73 hl (k := 6) rfl (by rw [et_15]; rfl) (by decide) rfl (fun ls hl => ?_)
            obtain ⟨t_16, et_16, h⟩ := nm_ok h
            refine lv_iinc (v := t_16) (lv' := [(5, .int t_16), (4, .int t_15), (7, .int t_7), (6, .int t_4), (0, .ref (a 0)), (1, .int x1), (2, .int x2), (3, .int x3)]) hx hb dX0_stepOf_76 hl (k := 7) rfl (by rw [et_16]; rfl) (by decide) rfl (fun ls hl => ?_)
            refine lv_goto (tgt := 21) hx hb dX0_stepOf_79 (by decide) ?_
            exact ih t_15 t_16 _ _ _ h hw (lv_sub hl [4, 5, 6, 7, 1, 0] rfl)
noncomputable def f_X0_stepOf  (v : CV) (x1 : Int32) : Option (Int32) :=
  bd (f_X4_at 12 (C_vo v) x1) fun r_1 =>
  bd (f_X0_cooledArea v x1) fun r_3 =>
  f_X0_stepOf_b21 v x1 r_1 r_3 FU 0 0
set_option maxHeartbeats 4000000 in
set_option maxRecDepth 100000 in
theorem m_X0_stepOf {G : GG} {l : Launch} {a : Nat → Nat} {v : CV} {x1 : Int32} {r : Int32}  (h : f_X0_stepOf v x1 = some (r)) : Ci G l yX0_stepOf wsX0_stepOf rX0_stepOf [.ref (a 0), .int x1] (fl [cB G a v]) r (fl [cB G a v]) := by
  refine Ci.intro cX0_stepOf 8 (some .int) RX0 (by decide) rfl rfl (Nat.le_of_ble_eq_true rfl) ?_
  intro p e s m below meth c A ls X hw hl
  obtain ⟨⟨hx, hb, hml, hown, hts⟩, hK, hr, hlk, hA⟩ := id X
  unfold f_X0_stepOf at h
  have hl : lv_has ls 8 [(0, .ref (a 0)), (1, .int x1)] := hl
  refine lv_aload_n hx hb dX0_stepOf_0 rfl (lv_at hl 0 rfl) ?_
  refine x_get (v := .ref (a 1)) 0 0 X hw in_X0_stepOf_0 rfl rfl rfl 4 (by decide) (List.mem_of_getElem? (i := 1) rfl) rfl rfl dX0_stepOf_1 ?_
  refine lv_iload_n hx hb dX0_stepOf_4 rfl (lv_at hl 1 rfl) ?_
  obtain ⟨r_1, c_2, h⟩ := bd_ok h
  refine x_Ni (As := [.ref (a 1), .int x1]) (w' := fl [cB G a v]) X hw (m_X4_at (G := G) (l := l) (q := (a 1)) c_2) (Cut.cellr 0 1 rfl rfl) ⟨va_cnB 2 hts gX0_stepOf_X4_at_n48 rfl rfl rfl (hK.2.1 _ (List.mem_of_getElem? (i := 3) rfl)) (hts _ (List.mem_of_getElem? (i := 4) rfl)) hd_X4_at.2 ⟨Nat.le_of_ble_eq_true rfl, Nat.le_of_ble_eq_true rfl⟩, hts _ (List.mem_of_getElem? (i := 3) rfl), trivial⟩ rfl hl.1 rfl (Nat.le_of_ble_eq_true rfl) dX0_stepOf_5 ⟨Nat.le_of_ble_eq_true rfl, Nat.le_of_ble_eq_true rfl⟩ (fun H locs hw => ?_)
  refine lv_istore_n (lv' := [(2, .int r_1), (0, .ref (a 0)), (1, .int x1)]) hx hb dX0_stepOf_8 rfl hl (by decide) rfl (fun ls hl => ?_)
  refine lv_aload_n hx hb dX0_stepOf_9 rfl (lv_at hl 1 rfl) ?_
  refine lv_iload_n hx hb dX0_stepOf_10 rfl (lv_at hl 2 rfl) ?_
  obtain ⟨r_3, c_4, h⟩ := bd_ok h
  refine x_Vi (As := [.int x1]) (w' := fl [cB G a v]) X hw (m_X0_cooledArea (G := G) (l := l) (a := a) c_4) Cut.all 0 0 rfl rfl rfl (cwV 1 hts gX0_stepOf_X0_cooledArea rfl rfl rfl hd_X0_cooledArea ⟨Nat.le_of_ble_eq_true rfl, Nat.le_of_ble_eq_true rfl⟩) rfl hl.1 rfl (Nat.le_of_ble_eq_true rfl) dX0_stepOf_11 ⟨Nat.le_of_ble_eq_true rfl, Nat.le_of_ble_eq_true rfl⟩ (fun H locs hw => ?_)
  refine lv_istore_n (lv' := [(3, .int r_3), (2, .int r_1), (0, .ref (a 0)), (1, .int x1)]) hx hb dX0_stepOf_14 rfl hl (by decide) rfl (fun ls hl => ?_)
  refine lv_iconst (v := 0) hx hb dX0_stepOf_15 (by decide) ?_
  refine lv_istore (lv' := [(4, .int 0), (3, .int r_3), (2, .int r_1), (0, .ref (a 0)), (1, .int x1)]) hx hb dX0_stepOf_16 hl (by decide) rfl (fun ls hl => ?_)
  refine lv_iconst (v := 0) hx hb dX0_stepOf_18 (by decide) ?_
  refine lv_istore (lv' := [(5, .int 0), (4, .int 0), (3, .int r_3), (2, .int r_1), (0, .ref (a 0)), (1, .int x1)]) hx hb dX0_stepOf_19 hl (by decide) rfl (fun ls hl => ?_)
  exact w_X0_stepOf_b21 X FU 0 0 _ _ _ h hw (lv_sub hl [4, 5, 3, 2, 1, 0] rfl)

def rX0_firstNeed : Room := { frames := 1, cells := 0, slots := 0, locals := 21 }
theorem hd_X0_firstNeed : yX0_firstNeed.cls = RX0 ∧ yX0_firstNeed.cls ≠ "java/lang/invoke/MethodHandle" ∧ yX0_firstNeed.cls ≠ "java/lang/invoke/VarHandle" ∧ (parseMethodDescriptor yX0_firstNeed.desc).map (fun d => d.parameters.length) = some 1 := by decide +kernel
theorem in_X0_firstNeed_0 : ∀ w ∈ u_ws RX0 TX0 10, w ∈ wsX0_firstNeed := fun w h => (List.mem_cons_of_mem _ (List.mem_append_right _ h))
noncomputable def f_X0_firstNeed  (v : CV) (x1 : Int32) : Option (Int32) :=
  bd (f_X4_at 12 (C_vo v) x1) fun r_1 =>
  ck (¬ (1000 : Int32) = 0) <|
  nm ((r_1 * (C_sh v)) : Int32) fun t_4 =>
  some ((t_4 / 1000))
set_option maxHeartbeats 4000000 in
set_option maxRecDepth 100000 in
theorem m_X0_firstNeed {G : GG} {l : Launch} {a : Nat → Nat} {v : CV} {x1 : Int32} {r : Int32}  (h : f_X0_firstNeed v x1 = some (r)) : Ci G l yX0_firstNeed wsX0_firstNeed rX0_firstNeed [.ref (a 0), .int x1] (fl [cB G a v]) r (fl [cB G a v]) := by
  refine Ci.intro cX0_firstNeed 2 (some .int) RX0 (by decide) rfl rfl (Nat.le_of_ble_eq_true rfl) ?_
  intro p e s m below meth c A ls X hw hl
  obtain ⟨⟨hx, hb, hml, hown, hts⟩, hK, hr, hlk, hA⟩ := id X
  unfold f_X0_firstNeed at h
  have hl : lv_has ls 2 [(0, .ref (a 0)), (1, .int x1)] := hl
  refine lv_aload_n hx hb dX0_firstNeed_0 rfl (lv_at hl 0 rfl) ?_
  refine x_get (v := .ref (a 1)) 0 0 X hw in_X0_firstNeed_0 rfl rfl rfl 4 (by decide) (List.mem_of_getElem? (i := 1) rfl) rfl rfl dX0_firstNeed_1 ?_
  refine lv_iload_n hx hb dX0_firstNeed_4 rfl (lv_at hl 1 rfl) ?_
  obtain ⟨r_1, c_2, h⟩ := bd_ok h
  refine x_Ni (As := [.ref (a 1), .int x1]) (w' := fl [cB G a v]) X hw (m_X4_at (G := G) (l := l) (q := (a 1)) c_2) (Cut.cellr 0 1 rfl rfl) ⟨va_cnB 2 hts gX0_firstNeed_X4_at_n48 rfl rfl rfl (hK.2.1 _ (List.mem_of_getElem? (i := 3) rfl)) (hts _ (List.mem_of_getElem? (i := 4) rfl)) hd_X4_at.2 ⟨Nat.le_of_ble_eq_true rfl, Nat.le_of_ble_eq_true rfl⟩, hts _ (List.mem_of_getElem? (i := 3) rfl), trivial⟩ rfl hl.1 rfl (Nat.le_of_ble_eq_true rfl) dX0_firstNeed_5 ⟨Nat.le_of_ble_eq_true rfl, Nat.le_of_ble_eq_true rfl⟩ (fun H locs hw => ?_)
  refine lv_aload_n hx hb dX0_firstNeed_8 rfl (lv_at hl 0 rfl) ?_
  refine x_get (v := .int (C_sh v)) 0 0 X hw in_X0_firstNeed_0 rfl rfl rfl 2 (by decide) (List.mem_of_getElem? (i := 2) rfl) rfl rfl dX0_firstNeed_9 ?_
  refine lv_imul hx hb dX0_firstNeed_12 ?_
  refine lv_sipush (v := 1000) hx hb dX0_firstNeed_13 (by decide) ?_
  obtain ⟨k_3, h⟩ := ck_ok h
  obtain ⟨t_4, et_4, h⟩ := nm_ok h
  rw [← et_4]
  refine lv_idiv hx hb dX0_firstNeed_16 k_3 ?_
  cases h
  exact x_iret X (vp_nar_int _) hw rfl rfl dX0_firstNeed_17

def rX0_has : Room := { frames := 0, cells := 0, slots := 0, locals := 0 }
theorem hd_X0_has : yX0_has.cls = RX0 ∧ yX0_has.cls ≠ "java/lang/invoke/MethodHandle" ∧ yX0_has.cls ≠ "java/lang/invoke/VarHandle" ∧ (parseMethodDescriptor yX0_has.desc).map (fun d => d.parameters.length) = some 1 := by decide +kernel
theorem in_X0_has_0 : ∀ w ∈ u_ws RX0 TX0 10, w ∈ wsX0_has := fun w h => (List.mem_cons_of_mem _ (List.mem_append_right _ h))
noncomputable def f_X0_has  (v : CV) (x1 : Int32) : Option (Int32) :=
  br (x1 < 0)
    (some (0))
    (br ((C_se v) ≤ x1)
       (some (0))
       (some (1)))
set_option maxHeartbeats 4000000 in
set_option maxRecDepth 100000 in
theorem m_X0_has {G : GG} {l : Launch} {a : Nat → Nat} {v : CV} {x1 : Int32} {r : Int32}  (h : f_X0_has v x1 = some (r)) : Ci G l yX0_has wsX0_has rX0_has [.ref (a 0), .int x1] (fl [cB G a v]) r (fl [cB G a v]) := by
  refine Ci.intro cX0_has 2 (some .boolean) RX0 (by decide) rfl rfl (Nat.le_of_ble_eq_true rfl) ?_
  intro p e s m below meth c A ls X hw hl
  obtain ⟨⟨hx, hb, hml, hown, hts⟩, hK, hr, hlk, hA⟩ := id X
  unfold f_X0_has at h
  have hl : lv_has ls 2 [(0, .ref (a 0)), (1, .int x1)] := hl
  refine lv_iload_n hx hb dX0_has_0 rfl (lv_at hl 1 rfl) ?_
  refine lv_if_lt (tgt := 16) hx hb dX0_has_1 (by decide) (fun k_1 => ?_) (fun k_1 => ?_)
  · have h := br_yes h k_1
    refine lv_iconst (v := 0) hx hb dX0_has_16 (by decide) ?_
    cases h
    exact x_iret X (narz (Or.inl rfl)) hw rfl rfl dX0_has_17
  · have h := br_no h k_1
    refine lv_iload_n hx hb dX0_has_4 rfl (lv_at hl 1 rfl) ?_
    refine lv_aload_n hx hb dX0_has_5 rfl (lv_at hl 0 rfl) ?_
    refine x_get (v := .int (C_se v)) 0 0 X hw in_X0_has_0 rfl rfl rfl 0 (by decide) (List.mem_of_getElem? (i := 1) rfl) rfl rfl dX0_has_6 ?_
    refine lv_icmp_ge (tgt := 16) hx hb dX0_has_9 (by decide) (fun k_2 => ?_) (fun k_2 => ?_)
    · have h := br_yes h k_2
      refine lv_iconst (v := 0) hx hb dX0_has_16 (by decide) ?_
      cases h
      exact x_iret X (narz (Or.inl rfl)) hw rfl rfl dX0_has_17
    · have h := br_no h k_2
      refine lv_iconst (v := 1) hx hb dX0_has_12 (by decide) ?_
      refine lv_goto (tgt := 17) hx hb dX0_has_13 (by decide) ?_
      cases h
      exact x_iret X (narz (Or.inr rfl)) hw rfl rfl dX0_has_17

def rX0_isFeeder : Room := { frames := 1, cells := 0, slots := 0, locals := 21 }
theorem hd_X0_isFeeder : yX0_isFeeder.cls = RX0 ∧ yX0_isFeeder.cls ≠ "java/lang/invoke/MethodHandle" ∧ yX0_isFeeder.cls ≠ "java/lang/invoke/VarHandle" ∧ (parseMethodDescriptor yX0_isFeeder.desc).map (fun d => d.parameters.length) = some 1 := by decide +kernel
theorem in_X0_isFeeder_0 : ∀ w ∈ u_ws RX0 TX0 10, w ∈ wsX0_isFeeder := fun w h => (List.mem_cons_of_mem _ (List.mem_append_right _ h))
noncomputable def f_X0_isFeeder  (v : CV) (x1 : Int32) : Option (Int32) :=
  bd (f_X0_has v x1) fun r_1 =>
  br (r_1 = 0)
    (some (0))
    (ck (vp_in x1 12) <|
     br (((C_fe v) x1.toNatClampNeg) = 0)
       (some (0))
       (some (1)))
set_option maxHeartbeats 4000000 in
set_option maxRecDepth 100000 in
theorem m_X0_isFeeder {G : GG} {l : Launch} {a : Nat → Nat} {v : CV} {x1 : Int32} {r : Int32}  (h : f_X0_isFeeder v x1 = some (r)) : Ci G l yX0_isFeeder wsX0_isFeeder rX0_isFeeder [.ref (a 0), .int x1] (fl [cB G a v]) r (fl [cB G a v]) := by
  refine Ci.intro cX0_isFeeder 2 (some .boolean) RX0 (by decide) rfl rfl (Nat.le_of_ble_eq_true rfl) ?_
  intro p e s m below meth c A ls X hw hl
  obtain ⟨⟨hx, hb, hml, hown, hts⟩, hK, hr, hlk, hA⟩ := id X
  unfold f_X0_isFeeder at h
  have hl : lv_has ls 2 [(0, .ref (a 0)), (1, .int x1)] := hl
  refine lv_aload_n hx hb dX0_isFeeder_0 rfl (lv_at hl 0 rfl) ?_
  refine lv_iload_n hx hb dX0_isFeeder_1 rfl (lv_at hl 1 rfl) ?_
  obtain ⟨r_1, c_2, h⟩ := bd_ok h
  refine x_Vi (As := [.int x1]) (w' := fl [cB G a v]) X hw (m_X0_has (G := G) (l := l) (a := a) c_2) Cut.all 0 0 rfl rfl rfl (cwV 1 hts gX0_isFeeder_X0_has rfl rfl rfl hd_X0_has ⟨Nat.le_of_ble_eq_true rfl, Nat.le_of_ble_eq_true rfl⟩) rfl hl.1 rfl (Nat.le_of_ble_eq_true rfl) dX0_isFeeder_2 ⟨Nat.le_of_ble_eq_true rfl, Nat.le_of_ble_eq_true rfl⟩ (fun H locs hw => ?_)
  refine lv_if_eq (tgt := 21) hx hb dX0_isFeeder_5 (by decide) (fun k_3 => ?_) (fun k_3 => ?_)
  · have h := br_yes h k_3
    refine lv_iconst (v := 0) hx hb dX0_isFeeder_21 (by decide) ?_
    cases h
    exact x_iret X (narz (Or.inl rfl)) hw rfl rfl dX0_isFeeder_22
  · have h := br_no h k_3
    refine lv_aload_n hx hb dX0_isFeeder_8 rfl (lv_at hl 0 rfl) ?_
    refine x_get (v := .ref (a 4)) 0 0 X hw in_X0_isFeeder_0 rfl rfl rfl 7 (by decide) (List.mem_of_getElem? (i := 1) rfl) rfl rfl dX0_isFeeder_9 ?_
    refine lv_iload_n hx hb dX0_isFeeder_12 rfl (lv_at hl 1 rfl) ?_
    obtain ⟨k_4, h⟩ := ck_ok h
    refine x_zald (f := (C_fe v)) 0 4 X hw rfl rfl k_4 dX0_isFeeder_13 ?_
    refine lv_if_eq (tgt := 21) hx hb dX0_isFeeder_14 (by decide) (fun k_5 => ?_) (fun k_5 => ?_)
    · have h := br_yes h k_5
      refine lv_iconst (v := 0) hx hb dX0_isFeeder_21 (by decide) ?_
      cases h
      exact x_iret X (narz (Or.inl rfl)) hw rfl rfl dX0_isFeeder_22
    · have h := br_no h k_5
      refine lv_iconst (v := 1) hx hb dX0_isFeeder_17 (by decide) ?_
      refine lv_goto (tgt := 22) hx hb dX0_isFeeder_18 (by decide) ?_
      cases h
      exact x_iret X (narz (Or.inr rfl)) hw rfl rfl dX0_isFeeder_22

def rX0_bearablePores : Room := { frames := 2, cells := 0, slots := 0, locals := 42 }
theorem hd_X0_bearablePores : yX0_bearablePores.cls = RX0 ∧ yX0_bearablePores.cls ≠ "java/lang/invoke/MethodHandle" ∧ yX0_bearablePores.cls ≠ "java/lang/invoke/VarHandle" ∧ (parseMethodDescriptor yX0_bearablePores.desc).map (fun d => d.parameters.length) = some 1 := by decide +kernel
theorem in_X0_bearablePores_0 : ∀ w ∈ u_ws RX0 TX0 10, w ∈ wsX0_bearablePores := fun w h => (List.mem_cons_of_mem _ (List.mem_append_right _ h))
noncomputable def f_X0_bearablePores  (v : CV) (x1 : Int32) : Option (Int32) :=
  bd (f_X0_isFeeder v x1) fun r_1 =>
  br (r_1 = 0)
    (some (0))
    (bd (f_X4_at 12 (C_vo v) x1) fun r_4 =>
     ck (¬ (1000 : Int32) = 0) <|
     nm ((r_4 * (C_pi v)) : Int32) fun t_7 =>
     some ((t_7 / 1000)))
set_option maxHeartbeats 4000000 in
set_option maxRecDepth 100000 in
theorem m_X0_bearablePores {G : GG} {l : Launch} {a : Nat → Nat} {v : CV} {x1 : Int32} {r : Int32}  (h : f_X0_bearablePores v x1 = some (r)) : Ci G l yX0_bearablePores wsX0_bearablePores rX0_bearablePores [.ref (a 0), .int x1] (fl [cB G a v]) r (fl [cB G a v]) := by
  refine Ci.intro cX0_bearablePores 2 (some .int) RX0 (by decide) rfl rfl (Nat.le_of_ble_eq_true rfl) ?_
  intro p e s m below meth c A ls X hw hl
  obtain ⟨⟨hx, hb, hml, hown, hts⟩, hK, hr, hlk, hA⟩ := id X
  unfold f_X0_bearablePores at h
  have hl : lv_has ls 2 [(0, .ref (a 0)), (1, .int x1)] := hl
  refine lv_aload_n hx hb dX0_bearablePores_0 rfl (lv_at hl 0 rfl) ?_
  refine lv_iload_n hx hb dX0_bearablePores_1 rfl (lv_at hl 1 rfl) ?_
  obtain ⟨r_1, c_2, h⟩ := bd_ok h
  refine x_Vi (As := [.int x1]) (w' := fl [cB G a v]) X hw (m_X0_isFeeder (G := G) (l := l) (a := a) c_2) Cut.all 0 0 rfl rfl rfl (cwV 1 hts gX0_bearablePores_X0_isFeeder rfl rfl rfl hd_X0_isFeeder ⟨Nat.le_of_ble_eq_true rfl, Nat.le_of_ble_eq_true rfl⟩) rfl hl.1 rfl (Nat.le_of_ble_eq_true rfl) dX0_bearablePores_2 ⟨Nat.le_of_ble_eq_true rfl, Nat.le_of_ble_eq_true rfl⟩ (fun H locs hw => ?_)
  refine lv_if_eq (tgt := 28) hx hb dX0_bearablePores_5 (by decide) (fun k_3 => ?_) (fun k_3 => ?_)
  · have h := br_yes h k_3
    refine lv_iconst (v := 0) hx hb dX0_bearablePores_28 (by decide) ?_
    cases h
    exact x_iret X (vp_nar_int _) hw rfl rfl dX0_bearablePores_29
  · have h := br_no h k_3
    refine lv_aload_n hx hb dX0_bearablePores_8 rfl (lv_at hl 0 rfl) ?_
    refine x_get (v := .ref (a 1)) 0 0 X hw in_X0_bearablePores_0 rfl rfl rfl 4 (by decide) (List.mem_of_getElem? (i := 1) rfl) rfl rfl dX0_bearablePores_9 ?_
    refine lv_iload_n hx hb dX0_bearablePores_12 rfl (lv_at hl 1 rfl) ?_
    obtain ⟨r_4, c_5, h⟩ := bd_ok h
    refine x_Ni (As := [.ref (a 1), .int x1]) (w' := fl [cB G a v]) X hw (m_X4_at (G := G) (l := l) (q := (a 1)) c_5) (Cut.cellr 0 1 rfl rfl) ⟨va_cnB 2 hts gX0_bearablePores_X4_at_n48 rfl rfl rfl (hK.2.1 _ (List.mem_of_getElem? (i := 3) rfl)) (hts _ (List.mem_of_getElem? (i := 15) rfl)) hd_X4_at.2 ⟨Nat.le_of_ble_eq_true rfl, Nat.le_of_ble_eq_true rfl⟩, hts _ (List.mem_of_getElem? (i := 14) rfl), trivial⟩ rfl hl.1 rfl (Nat.le_of_ble_eq_true rfl) dX0_bearablePores_13 ⟨Nat.le_of_ble_eq_true rfl, Nat.le_of_ble_eq_true rfl⟩ (fun H locs hw => ?_)
    refine lv_aload_n hx hb dX0_bearablePores_16 rfl (lv_at hl 0 rfl) ?_
    refine x_get (v := .int (C_pi v)) 0 0 X hw in_X0_bearablePores_0 rfl rfl rfl 3 (by decide) (List.mem_of_getElem? (i := 2) rfl) rfl rfl dX0_bearablePores_17 ?_
    refine lv_imul hx hb dX0_bearablePores_20 ?_
    refine lv_sipush (v := 1000) hx hb dX0_bearablePores_21 (by decide) ?_
    obtain ⟨k_6, h⟩ := ck_ok h
    obtain ⟨t_7, et_7, h⟩ := nm_ok h
    rw [← et_7]
    refine lv_idiv hx hb dX0_bearablePores_24 k_6 ?_
    refine lv_goto (tgt := 29) hx hb dX0_bearablePores_25 (by decide) ?_
    cases h
    exact x_iret X (vp_nar_int _) hw rfl rfl dX0_bearablePores_29

def rX0_touches : Room := { frames := 1, cells := 0, slots := 0, locals := 21 }
theorem hd_X0_touches : yX0_touches.cls = RX0 ∧ yX0_touches.cls ≠ "java/lang/invoke/MethodHandle" ∧ yX0_touches.cls ≠ "java/lang/invoke/VarHandle" ∧ (parseMethodDescriptor yX0_touches.desc).map (fun d => d.parameters.length) = some 2 := by decide +kernel
theorem in_X0_touches_0 : ∀ w ∈ u_ws RX0 TX0 10, w ∈ wsX0_touches := fun w h => (List.mem_cons_of_mem _ (List.mem_append_right _ h))
noncomputable def f_X0_touches_b24  (v : CV) : Option (Int32) :=
  some (1)
set_option maxHeartbeats 4000000 in
set_option maxRecDepth 100000 in
theorem w_X0_touches_b24 {G : GG} {l : Launch} {p : Program} {e : Env} {s : State} {m : MethodId} {args : Array Value} {below : List Frame} {meth : Method} {c : Code} {A : Nat → Prop} {a : Nat → Nat} {v : CV} {r : Int32}    (X : Cx p s m args meth c cX0_touches 3 (some .boolean) wsX0_touches RX0 G A)  :
    ∀  (H : Heap) (locs : List Loc) (ls : Array Slot), f_X0_touches_b24 v = some (r) → Wd G A s H locs (fl [cB G a v]) → lv_has ls 3 [] → W p l e rX0_touches s m args below meth c H locs 0 0 (MQ below (Qi G A r (fl [cB G a v])) args s 0 0 A) (F0 m 24 ls []) := by
  obtain ⟨⟨hx, hb, hml, hown, hts⟩, hK, hr, hlk, hA⟩ := id X
  intro  H locs ls h hw hl
  unfold f_X0_touches_b24 at h
  refine lv_iconst (v := 1) hx hb dX0_touches_24 (by decide) ?_
  refine lv_goto (tgt := 29) hx hb dX0_touches_25 (by decide) ?_
  cases h
  exact x_iret X (narz (Or.inr rfl)) hw rfl rfl dX0_touches_29
noncomputable def f_X0_touches  (v : CV) (x1 : Int32) (x2 : Int32) : Option (Int32) :=
  bd (f_X4_at 20 (C_fi v) x1) fun r_1 =>
  br (r_1 = x2)
    (f_X0_touches_b24 v)
    (bd (f_X4_at 20 (C_sd v) x1) fun r_4 =>
     br (r_4 = x2)
       (f_X0_touches_b24 v)
       (some (0)))
set_option maxHeartbeats 4000000 in
set_option maxRecDepth 100000 in
theorem m_X0_touches {G : GG} {l : Launch} {a : Nat → Nat} {v : CV} {x1 : Int32} {x2 : Int32} {r : Int32}  (h : f_X0_touches v x1 x2 = some (r)) : Ci G l yX0_touches wsX0_touches rX0_touches [.ref (a 0), .int x1, .int x2] (fl [cB G a v]) r (fl [cB G a v]) := by
  refine Ci.intro cX0_touches 3 (some .boolean) RX0 (by decide) rfl rfl (Nat.le_of_ble_eq_true rfl) ?_
  intro p e s m below meth c A ls X hw hl
  obtain ⟨⟨hx, hb, hml, hown, hts⟩, hK, hr, hlk, hA⟩ := id X
  unfold f_X0_touches at h
  have hl : lv_has ls 3 [(0, .ref (a 0)), (1, .int x1), (2, .int x2)] := hl
  refine lv_aload_n hx hb dX0_touches_0 rfl (lv_at hl 0 rfl) ?_
  refine x_get (v := .ref (a 5)) 0 0 X hw in_X0_touches_0 rfl rfl rfl 8 (by decide) (List.mem_of_getElem? (i := 1) rfl) rfl rfl dX0_touches_1 ?_
  refine lv_iload_n hx hb dX0_touches_4 rfl (lv_at hl 1 rfl) ?_
  obtain ⟨r_1, c_2, h⟩ := bd_ok h
  refine x_Ni (As := [.ref (a 5), .int x1]) (w' := fl [cB G a v]) X hw (m_X4_at (G := G) (l := l) (q := (a 5)) c_2) (Cut.cellr 0 5 rfl rfl) ⟨va_cnB 2 hts gX0_touches_X4_at_n48 rfl rfl rfl (hK.2.1 _ (List.mem_of_getElem? (i := 3) rfl)) (hts _ (List.mem_of_getElem? (i := 4) rfl)) hd_X4_at.2 ⟨Nat.le_of_ble_eq_true rfl, Nat.le_of_ble_eq_true rfl⟩, hts _ (List.mem_of_getElem? (i := 3) rfl), trivial⟩ rfl hl.1 rfl (Nat.le_of_ble_eq_true rfl) dX0_touches_5 ⟨Nat.le_of_ble_eq_true rfl, Nat.le_of_ble_eq_true rfl⟩ (fun H locs hw => ?_)
  refine lv_iload_n hx hb dX0_touches_8 rfl (lv_at hl 2 rfl) ?_
  refine lv_icmp_eq (tgt := 24) hx hb dX0_touches_9 (by decide) (fun k_3 => ?_) (fun k_3 => ?_)
  · have h := br_yes h k_3
    exact w_X0_touches_b24 X _ _ _ h hw (lv_sub hl [] rfl)
  · have h := br_no h k_3
    refine lv_aload_n hx hb dX0_touches_12 rfl (lv_at hl 0 rfl) ?_
    refine x_get (v := .ref (a 6)) 0 0 X hw in_X0_touches_0 rfl rfl rfl 9 (by decide) (List.mem_of_getElem? (i := 2) rfl) rfl rfl dX0_touches_13 ?_
    refine lv_iload_n hx hb dX0_touches_16 rfl (lv_at hl 1 rfl) ?_
    obtain ⟨r_4, c_5, h⟩ := bd_ok h
    refine x_Ni (As := [.ref (a 6), .int x1]) (w' := fl [cB G a v]) X hw (m_X4_at (G := G) (l := l) (q := (a 6)) c_5) (Cut.cellr 0 6 rfl rfl) ⟨va_cnB 2 hts gX0_touches_X4_at_n48 rfl rfl rfl (hK.2.1 _ (List.mem_of_getElem? (i := 3) rfl)) (hts _ (List.mem_of_getElem? (i := 4) rfl)) hd_X4_at.2 ⟨Nat.le_of_ble_eq_true rfl, Nat.le_of_ble_eq_true rfl⟩, hts _ (List.mem_of_getElem? (i := 3) rfl), trivial⟩ rfl hl.1 rfl (Nat.le_of_ble_eq_true rfl) dX0_touches_17 ⟨Nat.le_of_ble_eq_true rfl, Nat.le_of_ble_eq_true rfl⟩ (fun H locs hw => ?_)
    refine lv_iload_n hx hb dX0_touches_20 rfl (lv_at hl 2 rfl) ?_
    refine lv_icmp_ne (tgt := 28) hx hb dX0_touches_21 (by decide) (fun k_6 => ?_) (fun k_6 => ?_)
    · have h := br_no h k_6
      refine lv_iconst (v := 0) hx hb dX0_touches_28 (by decide) ?_
      cases h
      exact x_iret X (narz (Or.inl rfl)) hw rfl rfl dX0_touches_29
    · have h := br_yes h k_6
      exact w_X0_touches_b24 X _ _ _ h hw (lv_sub hl [] rfl)

def rX0_unlink : Room := { frames := 1, cells := 0, slots := 0, locals := 22 }
theorem hd_X0_unlink : yX0_unlink.cls = RX0 ∧ yX0_unlink.cls ≠ "java/lang/invoke/MethodHandle" ∧ yX0_unlink.cls ≠ "java/lang/invoke/VarHandle" ∧ (parseMethodDescriptor yX0_unlink.desc).map (fun d => d.parameters.length) = some 1 := by decide +kernel
theorem in_X0_unlink_0 : ∀ w ∈ u_ws RX0 TX0 10, w ∈ wsX0_unlink := fun w h => (List.mem_cons_of_mem _ (List.mem_append_right _ h))
noncomputable def f_X0_unlink_b6   : Nat → CV → Int32 → Option (CV)
  | 0 => fun _ _ => none
  | n + 1 => fun v x2 =>
    br ((C_jo v) ≤ (x2 + 1))
      (nm (((C_jo v) - 1) : Int32) fun t_2 =>
       some (((C_se v), t_2, (C_sh v), (C_pi v), (C_vo v), (C_ar v), (C_ch v), (C_fe v), (C_fi v), (C_sd v))))
      (bd (f_X4_at 20 (C_fi v) (x2 + 1)) fun r_3 =>
       bd (f_X4_put 20 (C_fi v) x2 r_3) fun g_5 =>
       bd (f_X4_at 20 (C_sd v) (x2 + 1)) fun r_7 =>
       bd (f_X4_put 20 (C_sd v) x2 r_7) fun g_9 =>
       nm (x2 + 1 : Int32) fun t_11 =>
       f_X0_unlink_b6 n ((C_se v), (C_jo v), (C_sh v), (C_pi v), (C_vo v), (C_ar v), (C_ch v), (C_fe v), g_5, g_9) t_11)
set_option maxHeartbeats 4000000 in
set_option maxRecDepth 100000 in
theorem w_X0_unlink_b6 {G : GG} {l : Launch} {p : Program} {e : Env} {s : State} {m : MethodId} {args : Array Value} {below : List Frame} {meth : Method} {c : Code} {A : Nat → Prop} {a : Nat → Nat}  {zv : CV}   (X : Cx p s m args meth c cX0_unlink 3 none wsX0_unlink RX0 G A)  :
    ∀ (n : Nat) (v : CV) (x2 : Int32) (H : Heap) (locs : List Loc) (ls : Array Slot), f_X0_unlink_b6 n v x2 = some (zv) → Wd G A s H locs (fl [cB G a v]) → lv_has ls 3 [(0, .ref (a 0)), (2, .int x2)] → W p l e rX0_unlink s m args below meth c H locs 0 0 (MQ below (Qv G A (fl [cB G a zv])) args s 0 0 A) (F0 m 6 ls []) := by
  obtain ⟨⟨hx, hb, hml, hown, hts⟩, hK, hr, hlk, hA⟩ := id X
  intro n
  induction n with
  | zero =>
    intro v x2 H locs ls h
    rw [f_X0_unlink_b6] at h
    cases h
  | succ n ih =>
    intro v x2 H locs ls h hw hl
    rw [f_X0_unlink_b6] at h
    refine lv_iload_n hx hb dX0_unlink_6 rfl (lv_at hl 1 rfl) ?_
    refine lv_iconst (v := 1) hx hb dX0_unlink_7 (by decide) ?_
    refine lv_iadd hx hb dX0_unlink_8 ?_
    refine lv_aload_n hx hb dX0_unlink_9 rfl (lv_at hl 0 rfl) ?_
    refine x_get (v := .int (C_jo v)) 0 0 X hw in_X0_unlink_0 rfl rfl rfl 1 (by decide) (List.mem_of_getElem? (i := 5) rfl) rfl rfl dX0_unlink_10 ?_
    refine lv_icmp_ge (tgt := 58) hx hb dX0_unlink_13 (by decide) (fun k_1 => ?_) (fun k_1 => ?_)
    · have h := br_yes h k_1
      refine lv_aload_n hx hb dX0_unlink_58 rfl (lv_at hl 0 rfl) ?_
      refine lv_dup hx hb dX0_unlink_59 rfl ?_
      refine x_get (v := .int (C_jo v)) 0 0 X hw in_X0_unlink_0 rfl rfl rfl 1 (by decide) (List.mem_of_getElem? (i := 5) rfl) rfl rfl dX0_unlink_60 ?_
      refine lv_iconst (v := 1) hx hb dX0_unlink_63 (by decide) ?_
      refine lv_isub hx hb dX0_unlink_64 ?_
      obtain ⟨t_2, et_2, h⟩ := nm_ok h
      refine x_put (bs' := [cB G a ((C_se v), t_2, (C_sh v), (C_pi v), (C_vo v), (C_ar v), (C_ch v), (C_fe v), (C_fi v), (C_sd v))]) 0 0 X hw in_X0_unlink_0 tyX0 tyX0_ok nmX0 rfl rfl rfl 1 (by decide) (List.mem_of_getElem? (i := 5) rfl) rfl rfl rfl rfl (Nat.le_of_ble_eq_true rfl) dX0_unlink_65 (by rw [et_2]; rfl) (fun H locs hw => ?_)
      cases h
      exact x_vret X hw rfl dX0_unlink_68
    · have h := br_no h k_1
      refine lv_aload_n hx hb dX0_unlink_16 rfl (lv_at hl 0 rfl) ?_
      refine x_get (v := .ref (a 5)) 0 0 X hw in_X0_unlink_0 rfl rfl rfl 8 (by decide) (List.mem_of_getElem? (i := 6) rfl) rfl rfl dX0_unlink_17 ?_
      refine lv_iload_n hx hb dX0_unlink_20 rfl (lv_at hl 1 rfl) ?_
      refine lv_aload_n hx hb dX0_unlink_21 rfl (lv_at hl 0 rfl) ?_
      refine x_get (v := .ref (a 5)) 0 0 X hw in_X0_unlink_0 rfl rfl rfl 8 (by decide) (List.mem_of_getElem? (i := 6) rfl) rfl rfl dX0_unlink_22 ?_
      refine lv_iload_n hx hb dX0_unlink_25 rfl (lv_at hl 1 rfl) ?_
      refine lv_iconst (v := 1) hx hb dX0_unlink_26 (by decide) ?_
      refine lv_iadd hx hb dX0_unlink_27 ?_
      obtain ⟨r_3, c_4, h⟩ := bd_ok h
      refine x_Ni (As := [.ref (a 5), .int (x2 + 1)]) (w' := fl [cB G a v]) X hw (m_X4_at (G := G) (l := l) (q := (a 5)) c_4) (Cut.cellr 0 5 rfl rfl) ⟨va_cnB 2 hts gX0_unlink_X4_at_n48 rfl rfl rfl (hK.2.1 _ (List.mem_of_getElem? (i := 3) rfl)) (hts _ (List.mem_of_getElem? (i := 9) rfl)) hd_X4_at.2 ⟨Nat.le_of_ble_eq_true rfl, Nat.le_of_ble_eq_true rfl⟩, hts _ (List.mem_of_getElem? (i := 8) rfl), trivial⟩ rfl hl.1 rfl (Nat.le_of_ble_eq_true rfl) dX0_unlink_28 ⟨Nat.le_of_ble_eq_true rfl, Nat.le_of_ble_eq_true rfl⟩ (fun H locs hw => ?_)
      obtain ⟨g_5, c_6, h⟩ := bd_ok h
      refine x_Nv (As := [.ref (a 5), .int x2, .int r_3]) (w' := fl [cB G a ((C_se v), (C_jo v), (C_sh v), (C_pi v), (C_vo v), (C_ar v), (C_ch v), (C_fe v), g_5, (C_sd v))]) X hw (m_X4_put (G := G) (l := l) (q := (a 5)) c_6) (Cut.cell (bs' := [cB G a ((C_se v), (C_jo v), (C_sh v), (C_pi v), (C_vo v), (C_ar v), (C_ch v), (C_fe v), g_5, (C_sd v))]) 0 5 rfl rfl rfl) ⟨va_cnB 3 hts gX0_unlink_X4_put_n69 rfl rfl rfl (hK.2.1 _ (List.mem_of_getElem? (i := 4) rfl)) (hts _ (List.mem_of_getElem? (i := 9) rfl)) hd_X4_put.2 ⟨Nat.le_of_ble_eq_true rfl, Nat.le_of_ble_eq_true rfl⟩, hts _ (List.mem_of_getElem? (i := 11) rfl), trivial⟩ rfl hl.1 rfl (Nat.le_of_ble_eq_true rfl) dX0_unlink_31 ⟨Nat.le_of_ble_eq_true rfl, Nat.le_of_ble_eq_true rfl⟩ (fun H locs hw => ?_)
      refine lv_aload_n hx hb dX0_unlink_34 rfl (lv_at hl 0 rfl) ?_
      refine x_get (v := .ref (a 6)) 0 0 X hw in_X0_unlink_0 rfl rfl rfl 9 (by decide) (List.mem_of_getElem? (i := 7) rfl) rfl rfl dX0_unlink_35 ?_
      refine lv_iload_n hx hb dX0_unlink_38 rfl (lv_at hl 1 rfl) ?_
      refine lv_aload_n hx hb dX0_unlink_39 rfl (lv_at hl 0 rfl) ?_
      refine x_get (v := .ref (a 6)) 0 0 X hw in_X0_unlink_0 rfl rfl rfl 9 (by decide) (List.mem_of_getElem? (i := 7) rfl) rfl rfl dX0_unlink_40 ?_
      refine lv_iload_n hx hb dX0_unlink_43 rfl (lv_at hl 1 rfl) ?_
      refine lv_iconst (v := 1) hx hb dX0_unlink_44 (by decide) ?_
      refine lv_iadd hx hb dX0_unlink_45 ?_
      obtain ⟨r_7, c_8, h⟩ := bd_ok h
      refine x_Ni (As := [.ref (a 6), .int (x2 + 1)]) (w' := fl [cB G a ((C_se v), (C_jo v), (C_sh v), (C_pi v), (C_vo v), (C_ar v), (C_ch v), (C_fe v), g_5, (C_sd v))]) X hw (m_X4_at (G := G) (l := l) (q := (a 6)) c_8) (Cut.cellr 0 6 rfl rfl) ⟨va_cnB 2 hts gX0_unlink_X4_at_n48 rfl rfl rfl (hK.2.1 _ (List.mem_of_getElem? (i := 3) rfl)) (hts _ (List.mem_of_getElem? (i := 9) rfl)) hd_X4_at.2 ⟨Nat.le_of_ble_eq_true rfl, Nat.le_of_ble_eq_true rfl⟩, hts _ (List.mem_of_getElem? (i := 8) rfl), trivial⟩ rfl hl.1 rfl (Nat.le_of_ble_eq_true rfl) dX0_unlink_46 ⟨Nat.le_of_ble_eq_true rfl, Nat.le_of_ble_eq_true rfl⟩ (fun H locs hw => ?_)
      obtain ⟨g_9, c_10, h⟩ := bd_ok h
      refine x_Nv (As := [.ref (a 6), .int x2, .int r_7]) (w' := fl [cB G a ((C_se v), (C_jo v), (C_sh v), (C_pi v), (C_vo v), (C_ar v), (C_ch v), (C_fe v), g_5, g_9)]) X hw (m_X4_put (G := G) (l := l) (q := (a 6)) c_10) (Cut.cell (bs' := [cB G a ((C_se v), (C_jo v), (C_sh v), (C_pi v), (C_vo v), (C_ar v), (C_ch v), (C_fe v), g_5, g_9)]) 0 6 rfl rfl rfl) ⟨va_cnB 3 hts gX0_unlink_X4_put_n69 rfl rfl rfl (hK.2.1 _ (List.mem_of_getElem? (i := 4) rfl)) (hts _ (List.mem_of_getElem? (i := 9) rfl)) hd_X4_put.2 ⟨Nat.le_of_ble_eq_true rfl, Nat.le_of_ble_eq_true rfl⟩, hts _ (List.mem_of_getElem? (i := 11) rfl), trivial⟩ rfl hl.1 rfl (Nat.le_of_ble_eq_true rfl) dX0_unlink_49 ⟨Nat.le_of_ble_eq_true rfl, Nat.le_of_ble_eq_true rfl⟩ (fun H locs hw => ?_)
      obtain ⟨t_11, et_11, h⟩ := nm_ok h
      refine lv_iinc (v := t_11) (lv' := [(2, .int t_11), (0, .ref (a 0))]) hx hb dX0_unlink_52 hl (k := 1) rfl (by rw [et_11]; rfl) (by decide) rfl (fun ls hl => ?_)
      refine lv_goto (tgt := 6) hx hb dX0_unlink_55 (by decide) ?_
      exact ih ((C_se v), (C_jo v), (C_sh v), (C_pi v), (C_vo v), (C_ar v), (C_ch v), (C_fe v), g_5, g_9) t_11 _ _ _ h hw (lv_sub hl [1, 0] rfl)
noncomputable def f_X0_unlink  (v : CV) (x1 : Int32) : Option (CV) :=
  nm ((if x1 < 0 then 0 else x1) : Int32) fun t_1 =>
  f_X0_unlink_b6 FU v t_1
set_option maxHeartbeats 4000000 in
set_option maxRecDepth 100000 in
theorem m_X0_unlink {G : GG} {l : Launch} {a : Nat → Nat} {v : CV} {x1 : Int32} {zv : CV} (h : f_X0_unlink v x1 = some (zv)) : Cv G l yX0_unlink wsX0_unlink rX0_unlink [.ref (a 0), .int x1] (fl [cB G a v]) (fl [cB G a zv]) := by
  refine Cv.intro cX0_unlink 3 none RX0 (by decide) rfl rfl (Nat.le_of_ble_eq_true rfl) ?_
  intro p e s m below meth c A ls X hw hl
  obtain ⟨⟨hx, hb, hml, hown, hts⟩, hK, hr, hlk, hA⟩ := id X
  unfold f_X0_unlink at h
  have hl : lv_has ls 3 [(0, .ref (a 0)), (1, .int x1)] := hl
  refine lv_iload_n hx hb dX0_unlink_0 rfl (lv_at hl 1 rfl) ?_
  refine lv_iconst (v := 0) hx hb dX0_unlink_1 (by decide) ?_
  refine va_mmax hx hb (hml.trans hl.1.symm) hown (hts _ (List.mem_of_getElem? (i := 1) rfl)) (hts _ (List.mem_of_getElem? (i := 2) rfl)) (hts _ (List.mem_of_getElem? (i := 3) rfl)) (hts _ (List.mem_of_getElem? (i := 4) rfl)) (Nat.le_of_ble_eq_true rfl) (Nat.le_of_ble_eq_true rfl) (Nat.le_of_ble_eq_true rfl) (Nat.le_of_ble_eq_true rfl) dX0_unlink_2 ?_
  obtain ⟨t_1, et_1, h⟩ := nm_ok h
  rw [← et_1]
  refine lv_istore_n (lv' := [(2, .int t_1), (0, .ref (a 0)), (1, .int x1)]) hx hb dX0_unlink_5 rfl hl (by decide) rfl (fun ls hl => ?_)
  exact w_X0_unlink_b6 X FU v t_1 _ _ _ h hw (lv_sub hl [1, 0] rfl)

def rX0_without : Room := { frames := 0, cells := 0, slots := 0, locals := 0 }
theorem hd_X0_without : yX0_without.cls = RX0 ∧ yX0_without.cls ≠ "java/lang/invoke/MethodHandle" ∧ yX0_without.cls ≠ "java/lang/invoke/VarHandle" ∧ (parseMethodDescriptor yX0_without.desc).map (fun d => d.parameters.length) = some 2 := by decide +kernel
noncomputable def f_X0_without   (x0 : Int32) (x1 : Int32) : Option (Int32) :=
  br (x1 ≤ x0)
    (some (x1))
    (some ((x1 - 1)))
set_option maxHeartbeats 4000000 in
set_option maxRecDepth 100000 in
theorem m_X0_without {G : GG} {l : Launch}   {x0 : Int32} {x1 : Int32} {r : Int32}  (h : f_X0_without x0 x1 = some (r)) : Ci G l yX0_without wsX0_without rX0_without [.int x0, .int x1] (fl []) r (fl []) := by
  refine Ci.intro cX0_without 2 (some .int) RX0 (by decide) rfl rfl (Nat.le_of_ble_eq_true rfl) ?_
  intro p e s m below meth c A ls X hw hl
  obtain ⟨⟨hx, hb, hml, hown, hts⟩, hK, hr, hlk, hA⟩ := id X
  unfold f_X0_without at h
  have hl : lv_has ls 2 [(0, .int x0), (1, .int x1)] := hl
  refine lv_iload_n hx hb dX0_without_0 rfl (lv_at hl 1 rfl) ?_
  refine lv_iload_n hx hb dX0_without_1 rfl (lv_at hl 0 rfl) ?_
  refine lv_icmp_le (tgt := 11) hx hb dX0_without_2 (by decide) (fun k_1 => ?_) (fun k_1 => ?_)
  · have h := br_yes h k_1
    refine lv_iload_n hx hb dX0_without_11 rfl (lv_at hl 1 rfl) ?_
    cases h
    exact x_iret X (vp_nar_int _) hw rfl rfl dX0_without_12
  · have h := br_no h k_1
    refine lv_iload_n hx hb dX0_without_5 rfl (lv_at hl 1 rfl) ?_
    refine lv_iconst (v := 1) hx hb dX0_without_6 (by decide) ?_
    refine lv_isub hx hb dX0_without_7 ?_
    refine lv_goto (tgt := 12) hx hb dX0_without_8 (by decide) ?_
    cases h
    exact x_iret X (vp_nar_int _) hw rfl rfl dX0_without_12

def rX0_drop : Room := { frames := 2, cells := 0, slots := 0, locals := 44 }
theorem hd_X0_drop : yX0_drop.cls = RX0 ∧ yX0_drop.cls ≠ "java/lang/invoke/MethodHandle" ∧ yX0_drop.cls ≠ "java/lang/invoke/VarHandle" ∧ (parseMethodDescriptor yX0_drop.desc).map (fun d => d.parameters.length) = some 1 := by decide +kernel
theorem in_X0_drop_0 : ∀ w ∈ u_ws RX0 TX0 10, w ∈ wsX0_drop := fun w h => (List.mem_cons_of_mem _ (List.mem_append_right _ h))
noncomputable def f_X0_drop_b93   : Nat → CV → Int32 → Option (CV)
  | 0 => fun _ _ => none
  | n + 1 => fun v x2 =>
    br (12 ≤ (x2 + 1))
      (nm (((C_se v) - 1) : Int32) fun t_2 =>
       some ((t_2, (C_jo v), (C_sh v), (C_pi v), (C_vo v), (C_ar v), (C_ch v), (C_fe v), (C_fi v), (C_sd v))))
      (nm ((x2 + 1) : Int32) fun t_3 =>
       ck (vp_in t_3 12) <|
       nm (((C_vo v) t_3.toNatClampNeg) : Int32) fun t_5 =>
       ck (vp_in x2 12) <|
       nm (upd (C_vo v) x2.toNatClampNeg t_5) fun g_7 =>
       nm ((x2 + 1) : Int32) fun t_8 =>
       ck (vp_in t_8 12) <|
       nm (((C_ar v) t_8.toNatClampNeg) : Int32) fun t_10 =>
       ck (vp_in x2 12) <|
       nm (upd (C_ar v) x2.toNatClampNeg t_10) fun g_12 =>
       nm ((x2 + 1) : Int32) fun t_13 =>
       ck (vp_in t_13 12) <|
       nm (((C_ch v) t_13.toNatClampNeg) : Int32) fun t_15 =>
       ck (vp_in x2 12) <|
       nm (upd (C_ch v) x2.toNatClampNeg t_15) fun g_17 =>
       nm ((x2 + 1) : Int32) fun t_18 =>
       ck (vp_in t_18 12) <|
       nm (((C_fe v) t_18.toNatClampNeg) : Int32) fun t_20 =>
       ck (vp_in x2 12) <|
       ck (t_20 = 0 ∨ t_20 = 1) <|
       nm (upd (C_fe v) x2.toNatClampNeg t_20) fun g_23 =>
       nm (x2 + 1 : Int32) fun t_24 =>
       f_X0_drop_b93 n ((C_se v), (C_jo v), (C_sh v), (C_pi v), g_7, g_12, g_17, g_23, (C_fi v), (C_sd v)) t_24)
set_option maxHeartbeats 4000000 in
set_option maxRecDepth 100000 in
theorem w_X0_drop_b93 {G : GG} {l : Launch} {p : Program} {e : Env} {s : State} {m : MethodId} {args : Array Value} {below : List Frame} {meth : Method} {c : Code} {A : Nat → Prop} {a : Nat → Nat}  {zv : CV}   (X : Cx p s m args meth c cX0_drop 3 none wsX0_drop RX0 G A)  :
    ∀ (n : Nat) (v : CV) (x2 : Int32) (H : Heap) (locs : List Loc) (ls : Array Slot), f_X0_drop_b93 n v x2 = some (zv) → Wd G A s H locs (fl [cB G a v]) → lv_has ls 3 [(0, .ref (a 0)), (2, .int x2)] → W p l e rX0_drop s m args below meth c H locs 0 0 (MQ below (Qv G A (fl [cB G a zv])) args s 0 0 A) (F0 m 93 ls []) := by
  obtain ⟨⟨hx, hb, hml, hown, hts⟩, hK, hr, hlk, hA⟩ := id X
  intro n
  induction n with
  | zero =>
    intro v x2 H locs ls h
    rw [f_X0_drop_b93] at h
    cases h
  | succ n ih =>
    intro v x2 H locs ls h hw hl
    rw [f_X0_drop_b93] at h
    refine lv_iload_n hx hb dX0_drop_93 rfl (lv_at hl 1 rfl) ?_
    refine lv_iconst (v := 1) hx hb dX0_drop_94 (by decide) ?_
    refine lv_iadd hx hb dX0_drop_95 ?_
    refine lv_bipush (v := 12) hx hb dX0_drop_96 (by decide) ?_
    refine lv_icmp_ge (tgt := 163) hx hb dX0_drop_98 (by decide) (fun k_1 => ?_) (fun k_1 => ?_)
    · have h := br_yes h k_1
      refine lv_aload_n hx hb dX0_drop_163 rfl (lv_at hl 0 rfl) ?_
      refine lv_dup hx hb dX0_drop_164 rfl ?_
      refine x_get (v := .int (C_se v)) 0 0 X hw in_X0_drop_0 rfl rfl rfl 0 (by decide) (List.mem_of_getElem? (i := 12) rfl) rfl rfl dX0_drop_165 ?_
      refine lv_iconst (v := 1) hx hb dX0_drop_168 (by decide) ?_
      refine lv_isub hx hb dX0_drop_169 ?_
      obtain ⟨t_2, et_2, h⟩ := nm_ok h
      refine x_put (bs' := [cB G a (t_2, (C_jo v), (C_sh v), (C_pi v), (C_vo v), (C_ar v), (C_ch v), (C_fe v), (C_fi v), (C_sd v))]) 0 0 X hw in_X0_drop_0 tyX0 tyX0_ok nmX0 rfl rfl rfl 0 (by decide) (List.mem_of_getElem? (i := 12) rfl) rfl rfl rfl rfl (Nat.le_of_ble_eq_true rfl) dX0_drop_170 (by rw [et_2]; rfl) (fun H locs hw => ?_)
      cases h
      exact x_vret X hw rfl dX0_drop_173
    · have h := br_no h k_1
      refine lv_aload_n hx hb dX0_drop_101 rfl (lv_at hl 0 rfl) ?_
      refine x_get (v := .ref (a 1)) 0 0 X hw in_X0_drop_0 rfl rfl rfl 4 (by decide) (List.mem_of_getElem? (i := 8) rfl) rfl rfl dX0_drop_102 ?_
      refine lv_iload_n hx hb dX0_drop_105 rfl (lv_at hl 1 rfl) ?_
      refine lv_aload_n hx hb dX0_drop_106 rfl (lv_at hl 0 rfl) ?_
      refine x_get (v := .ref (a 1)) 0 0 X hw in_X0_drop_0 rfl rfl rfl 4 (by decide) (List.mem_of_getElem? (i := 8) rfl) rfl rfl dX0_drop_107 ?_
      refine lv_iload_n hx hb dX0_drop_110 rfl (lv_at hl 1 rfl) ?_
      refine lv_iconst (v := 1) hx hb dX0_drop_111 (by decide) ?_
      refine lv_iadd hx hb dX0_drop_112 ?_
      obtain ⟨t_3, et_3, h⟩ := nm_ok h
      rw [← et_3]
      obtain ⟨k_4, h⟩ := ck_ok h
      refine x_iald (f := (C_vo v)) 0 1 X hw rfl rfl k_4 dX0_drop_113 ?_
      obtain ⟨t_5, et_5, h⟩ := nm_ok h
      rw [← et_5]
      obtain ⟨k_6, h⟩ := ck_ok h
      obtain ⟨g_7, eg_7, h⟩ := nm_ok h
      refine x_iast (f := (C_vo v)) (bs' := [cB G a ((C_se v), (C_jo v), (C_sh v), (C_pi v), g_7, (C_ar v), (C_ch v), (C_fe v), (C_fi v), (C_sd v))]) 0 1 X hw rfl rfl k_6 dX0_drop_114 (by rw [eg_7]; rfl) (fun H locs hw => ?_)
      refine lv_aload_n hx hb dX0_drop_115 rfl (lv_at hl 0 rfl) ?_
      refine x_get (v := .ref (a 2)) 0 0 X hw in_X0_drop_0 rfl rfl rfl 5 (by decide) (List.mem_of_getElem? (i := 9) rfl) rfl rfl dX0_drop_116 ?_
      refine lv_iload_n hx hb dX0_drop_119 rfl (lv_at hl 1 rfl) ?_
      refine lv_aload_n hx hb dX0_drop_120 rfl (lv_at hl 0 rfl) ?_
      refine x_get (v := .ref (a 2)) 0 0 X hw in_X0_drop_0 rfl rfl rfl 5 (by decide) (List.mem_of_getElem? (i := 9) rfl) rfl rfl dX0_drop_121 ?_
      refine lv_iload_n hx hb dX0_drop_124 rfl (lv_at hl 1 rfl) ?_
      refine lv_iconst (v := 1) hx hb dX0_drop_125 (by decide) ?_
      refine lv_iadd hx hb dX0_drop_126 ?_
      obtain ⟨t_8, et_8, h⟩ := nm_ok h
      rw [← et_8]
      obtain ⟨k_9, h⟩ := ck_ok h
      refine x_iald (f := (C_ar v)) 0 2 X hw rfl rfl k_9 dX0_drop_127 ?_
      obtain ⟨t_10, et_10, h⟩ := nm_ok h
      rw [← et_10]
      obtain ⟨k_11, h⟩ := ck_ok h
      obtain ⟨g_12, eg_12, h⟩ := nm_ok h
      refine x_iast (f := (C_ar v)) (bs' := [cB G a ((C_se v), (C_jo v), (C_sh v), (C_pi v), g_7, g_12, (C_ch v), (C_fe v), (C_fi v), (C_sd v))]) 0 2 X hw rfl rfl k_11 dX0_drop_128 (by rw [eg_12]; rfl) (fun H locs hw => ?_)
      refine lv_aload_n hx hb dX0_drop_129 rfl (lv_at hl 0 rfl) ?_
      refine x_get (v := .ref (a 3)) 0 0 X hw in_X0_drop_0 rfl rfl rfl 6 (by decide) (List.mem_of_getElem? (i := 10) rfl) rfl rfl dX0_drop_130 ?_
      refine lv_iload_n hx hb dX0_drop_133 rfl (lv_at hl 1 rfl) ?_
      refine lv_aload_n hx hb dX0_drop_134 rfl (lv_at hl 0 rfl) ?_
      refine x_get (v := .ref (a 3)) 0 0 X hw in_X0_drop_0 rfl rfl rfl 6 (by decide) (List.mem_of_getElem? (i := 10) rfl) rfl rfl dX0_drop_135 ?_
      refine lv_iload_n hx hb dX0_drop_138 rfl (lv_at hl 1 rfl) ?_
      refine lv_iconst (v := 1) hx hb dX0_drop_139 (by decide) ?_
      refine lv_iadd hx hb dX0_drop_140 ?_
      obtain ⟨t_13, et_13, h⟩ := nm_ok h
      rw [← et_13]
      obtain ⟨k_14, h⟩ := ck_ok h
      refine x_iald (f := (C_ch v)) 0 3 X hw rfl rfl k_14 dX0_drop_141 ?_
      obtain ⟨t_15, et_15, h⟩ := nm_ok h
      rw [← et_15]
      obtain ⟨k_16, h⟩ := ck_ok h
      obtain ⟨g_17, eg_17, h⟩ := nm_ok h
      refine x_iast (f := (C_ch v)) (bs' := [cB G a ((C_se v), (C_jo v), (C_sh v), (C_pi v), g_7, g_12, g_17, (C_fe v), (C_fi v), (C_sd v))]) 0 3 X hw rfl rfl k_16 dX0_drop_142 (by rw [eg_17]; rfl) (fun H locs hw => ?_)
      refine lv_aload_n hx hb dX0_drop_143 rfl (lv_at hl 0 rfl) ?_
      refine x_get (v := .ref (a 4)) 0 0 X hw in_X0_drop_0 rfl rfl rfl 7 (by decide) (List.mem_of_getElem? (i := 11) rfl) rfl rfl dX0_drop_144 ?_
      refine lv_iload_n hx hb dX0_drop_147 rfl (lv_at hl 1 rfl) ?_
      refine lv_aload_n hx hb dX0_drop_148 rfl (lv_at hl 0 rfl) ?_
      refine x_get (v := .ref (a 4)) 0 0 X hw in_X0_drop_0 rfl rfl rfl 7 (by decide) (List.mem_of_getElem? (i := 11) rfl) rfl rfl dX0_drop_149 ?_
      refine lv_iload_n hx hb dX0_drop_152 rfl (lv_at hl 1 rfl) ?_
      refine lv_iconst (v := 1) hx hb dX0_drop_153 (by decide) ?_
      refine lv_iadd hx hb dX0_drop_154 ?_
      obtain ⟨t_18, et_18, h⟩ := nm_ok h
      rw [← et_18]
      obtain ⟨k_19, h⟩ := ck_ok h
      refine x_zald (f := (C_fe v)) 0 4 X hw rfl rfl k_19 dX0_drop_155 ?_
      obtain ⟨t_20, et_20, h⟩ := nm_ok h
      rw [← et_20]
      obtain ⟨k_21, h⟩ := ck_ok h
      obtain ⟨k_22, h⟩ := ck_ok h
      obtain ⟨g_23, eg_23, h⟩ := nm_ok h
      refine x_zast (f := (C_fe v)) (bs' := [cB G a ((C_se v), (C_jo v), (C_sh v), (C_pi v), g_7, g_12, g_17, g_23, (C_fi v), (C_sd v))]) 0 4 X hw rfl rfl k_22 k_21 dX0_drop_156 (by rw [eg_23]; rfl) (fun H locs hw => ?_)
      obtain ⟨t_24, et_24, h⟩ := nm_ok h
      refine lv_iinc (v := t_24) (lv' := [(2, .int t_24), (0, .ref (a 0))]) hx hb dX0_drop_157 hl (k := 1) rfl (by rw [et_24]; rfl) (by decide) rfl (fun ls hl => ?_)
      refine lv_goto (tgt := 93) hx hb dX0_drop_160 (by decide) ?_
      exact ih ((C_se v), (C_jo v), (C_sh v), (C_pi v), g_7, g_12, g_17, g_23, (C_fi v), (C_sd v)) t_24 _ _ _ h hw (lv_sub hl [1, 0] rfl)
noncomputable def f_X0_drop_b33  (x1 : Int32) : Nat → CV → Int32 → Option (CV)
  | 0 => fun _ _ => none
  | n + 1 => fun v x2 =>
    br ((C_jo v) ≤ x2)
      (nm ((if x1 < 0 then 0 else x1) : Int32) fun t_2 =>
       f_X0_drop_b93 FU v t_2)
      (bd (f_X4_at 20 (C_fi v) x2) fun r_3 =>
       bd (f_X0_without x1 r_3) fun r_5 =>
       bd (f_X4_put 20 (C_fi v) x2 r_5) fun g_7 =>
       bd (f_X4_at 20 (C_sd v) x2) fun r_9 =>
       bd (f_X0_without x1 r_9) fun r_11 =>
       bd (f_X4_put 20 (C_sd v) x2 r_11) fun g_13 =>
       nm (x2 + 1 : Int32) fun t_15 =>
       f_X0_drop_b33 x1 n ((C_se v), (C_jo v), (C_sh v), (C_pi v), (C_vo v), (C_ar v), (C_ch v), (C_fe v), g_7, g_13) t_15)
set_option maxHeartbeats 4000000 in
set_option maxRecDepth 100000 in
theorem w_X0_drop_b33 {G : GG} {l : Launch} {p : Program} {e : Env} {s : State} {m : MethodId} {args : Array Value} {below : List Frame} {meth : Method} {c : Code} {A : Nat → Prop} {a : Nat → Nat} {x1 : Int32} {zv : CV}   (X : Cx p s m args meth c cX0_drop 3 none wsX0_drop RX0 G A)  :
    ∀ (n : Nat) (v : CV) (x2 : Int32) (H : Heap) (locs : List Loc) (ls : Array Slot), f_X0_drop_b33 x1 n v x2 = some (zv) → Wd G A s H locs (fl [cB G a v]) → lv_has ls 3 [(0, .ref (a 0)), (1, .int x1), (2, .int x2)] → W p l e rX0_drop s m args below meth c H locs 0 0 (MQ below (Qv G A (fl [cB G a zv])) args s 0 0 A) (F0 m 33 ls []) := by
  obtain ⟨⟨hx, hb, hml, hown, hts⟩, hK, hr, hlk, hA⟩ := id X
  intro n
  induction n with
  | zero =>
    intro v x2 H locs ls h
    rw [f_X0_drop_b33] at h
    cases h
  | succ n ih =>
    intro v x2 H locs ls h hw hl
    rw [f_X0_drop_b33] at h
    refine lv_iload_n hx hb dX0_drop_33 rfl (lv_at hl 2 rfl) ?_
    refine lv_aload_n hx hb dX0_drop_34 rfl (lv_at hl 0 rfl) ?_
    refine x_get (v := .int (C_jo v)) 0 0 X hw in_X0_drop_0 rfl rfl rfl 1 (by decide) (List.mem_of_getElem? (i := 1) rfl) rfl rfl dX0_drop_35 ?_
    refine lv_icmp_ge (tgt := 87) hx hb dX0_drop_38 (by decide) (fun k_1 => ?_) (fun k_1 => ?_)
    · have h := br_yes h k_1
      refine lv_iload_n hx hb dX0_drop_87 rfl (lv_at hl 1 rfl) ?_
      refine lv_iconst (v := 0) hx hb dX0_drop_88 (by decide) ?_
      refine va_mmax hx hb (hml.trans hl.1.symm) hown (hts _ (List.mem_of_getElem? (i := 4) rfl)) (hts _ (List.mem_of_getElem? (i := 5) rfl)) (hts _ (List.mem_of_getElem? (i := 6) rfl)) (hts _ (List.mem_of_getElem? (i := 7) rfl)) (Nat.le_of_ble_eq_true rfl) (Nat.le_of_ble_eq_true rfl) (Nat.le_of_ble_eq_true rfl) (Nat.le_of_ble_eq_true rfl) dX0_drop_89 ?_
      obtain ⟨t_2, et_2, h⟩ := nm_ok h
      rw [← et_2]
      refine lv_istore_n (lv' := [(2, .int t_2), (0, .ref (a 0)), (1, .int x1)]) hx hb dX0_drop_92 rfl hl (by decide) rfl (fun ls hl => ?_)
      exact w_X0_drop_b93 X FU v t_2 _ _ _ h hw (lv_sub hl [1, 0] rfl)
    · have h := br_no h k_1
      refine lv_aload_n hx hb dX0_drop_41 rfl (lv_at hl 0 rfl) ?_
      refine x_get (v := .ref (a 5)) 0 0 X hw in_X0_drop_0 rfl rfl rfl 8 (by decide) (List.mem_of_getElem? (i := 2) rfl) rfl rfl dX0_drop_42 ?_
      refine lv_iload_n hx hb dX0_drop_45 rfl (lv_at hl 2 rfl) ?_
      refine lv_iload_n hx hb dX0_drop_46 rfl (lv_at hl 1 rfl) ?_
      refine lv_aload_n hx hb dX0_drop_47 rfl (lv_at hl 0 rfl) ?_
      refine x_get (v := .ref (a 5)) 0 0 X hw in_X0_drop_0 rfl rfl rfl 8 (by decide) (List.mem_of_getElem? (i := 2) rfl) rfl rfl dX0_drop_48 ?_
      refine lv_iload_n hx hb dX0_drop_51 rfl (lv_at hl 2 rfl) ?_
      obtain ⟨r_3, c_4, h⟩ := bd_ok h
      refine x_Ni (As := [.ref (a 5), .int x2]) (w' := fl [cB G a v]) X hw (m_X4_at (G := G) (l := l) (q := (a 5)) c_4) (Cut.cellr 0 5 rfl rfl) ⟨va_cnB 2 hts gX0_drop_X4_at_n48 rfl rfl rfl (hK.2.1 _ (List.mem_of_getElem? (i := 3) rfl)) (hts _ (List.mem_of_getElem? (i := 19) rfl)) hd_X4_at.2 ⟨Nat.le_of_ble_eq_true rfl, Nat.le_of_ble_eq_true rfl⟩, hts _ (List.mem_of_getElem? (i := 18) rfl), trivial⟩ rfl hl.1 rfl (Nat.le_of_ble_eq_true rfl) dX0_drop_52 ⟨Nat.le_of_ble_eq_true rfl, Nat.le_of_ble_eq_true rfl⟩ (fun H locs hw => ?_)
      obtain ⟨r_5, c_6, h⟩ := bd_ok h
      refine x_Si (As := [.int x1, .int r_3]) (w' := fl [cB G a v]) X hw (m_X0_without (G := G) (l := l) c_6) Cut.nil (va_cwS 2 hts gX0_drop_X0_without rfl rfl rfl hd_X0_without.2 ⟨Nat.le_of_ble_eq_true rfl, Nat.le_of_ble_eq_true rfl⟩) rfl hl.1 rfl (Nat.le_of_ble_eq_true rfl) dX0_drop_55 ⟨Nat.le_of_ble_eq_true rfl, Nat.le_of_ble_eq_true rfl⟩ (fun H locs hw => ?_)
      obtain ⟨g_7, c_8, h⟩ := bd_ok h
      refine x_Nv (As := [.ref (a 5), .int x2, .int r_5]) (w' := fl [cB G a ((C_se v), (C_jo v), (C_sh v), (C_pi v), (C_vo v), (C_ar v), (C_ch v), (C_fe v), g_7, (C_sd v))]) X hw (m_X4_put (G := G) (l := l) (q := (a 5)) c_8) (Cut.cell (bs' := [cB G a ((C_se v), (C_jo v), (C_sh v), (C_pi v), (C_vo v), (C_ar v), (C_ch v), (C_fe v), g_7, (C_sd v))]) 0 5 rfl rfl rfl) ⟨va_cnB 3 hts gX0_drop_X4_put_n69 rfl rfl rfl (hK.2.1 _ (List.mem_of_getElem? (i := 4) rfl)) (hts _ (List.mem_of_getElem? (i := 19) rfl)) hd_X4_put.2 ⟨Nat.le_of_ble_eq_true rfl, Nat.le_of_ble_eq_true rfl⟩, hts _ (List.mem_of_getElem? (i := 25) rfl), trivial⟩ rfl hl.1 rfl (Nat.le_of_ble_eq_true rfl) dX0_drop_58 ⟨Nat.le_of_ble_eq_true rfl, Nat.le_of_ble_eq_true rfl⟩ (fun H locs hw => ?_)
      refine lv_aload_n hx hb dX0_drop_61 rfl (lv_at hl 0 rfl) ?_
      refine x_get (v := .ref (a 6)) 0 0 X hw in_X0_drop_0 rfl rfl rfl 9 (by decide) (List.mem_of_getElem? (i := 3) rfl) rfl rfl dX0_drop_62 ?_
      refine lv_iload_n hx hb dX0_drop_65 rfl (lv_at hl 2 rfl) ?_
      refine lv_iload_n hx hb dX0_drop_66 rfl (lv_at hl 1 rfl) ?_
      refine lv_aload_n hx hb dX0_drop_67 rfl (lv_at hl 0 rfl) ?_
      refine x_get (v := .ref (a 6)) 0 0 X hw in_X0_drop_0 rfl rfl rfl 9 (by decide) (List.mem_of_getElem? (i := 3) rfl) rfl rfl dX0_drop_68 ?_
      refine lv_iload_n hx hb dX0_drop_71 rfl (lv_at hl 2 rfl) ?_
      obtain ⟨r_9, c_10, h⟩ := bd_ok h
      refine x_Ni (As := [.ref (a 6), .int x2]) (w' := fl [cB G a ((C_se v), (C_jo v), (C_sh v), (C_pi v), (C_vo v), (C_ar v), (C_ch v), (C_fe v), g_7, (C_sd v))]) X hw (m_X4_at (G := G) (l := l) (q := (a 6)) c_10) (Cut.cellr 0 6 rfl rfl) ⟨va_cnB 2 hts gX0_drop_X4_at_n48 rfl rfl rfl (hK.2.1 _ (List.mem_of_getElem? (i := 3) rfl)) (hts _ (List.mem_of_getElem? (i := 19) rfl)) hd_X4_at.2 ⟨Nat.le_of_ble_eq_true rfl, Nat.le_of_ble_eq_true rfl⟩, hts _ (List.mem_of_getElem? (i := 18) rfl), trivial⟩ rfl hl.1 rfl (Nat.le_of_ble_eq_true rfl) dX0_drop_72 ⟨Nat.le_of_ble_eq_true rfl, Nat.le_of_ble_eq_true rfl⟩ (fun H locs hw => ?_)
      obtain ⟨r_11, c_12, h⟩ := bd_ok h
      refine x_Si (As := [.int x1, .int r_9]) (w' := fl [cB G a ((C_se v), (C_jo v), (C_sh v), (C_pi v), (C_vo v), (C_ar v), (C_ch v), (C_fe v), g_7, (C_sd v))]) X hw (m_X0_without (G := G) (l := l) c_12) Cut.nil (va_cwS 2 hts gX0_drop_X0_without rfl rfl rfl hd_X0_without.2 ⟨Nat.le_of_ble_eq_true rfl, Nat.le_of_ble_eq_true rfl⟩) rfl hl.1 rfl (Nat.le_of_ble_eq_true rfl) dX0_drop_75 ⟨Nat.le_of_ble_eq_true rfl, Nat.le_of_ble_eq_true rfl⟩ (fun H locs hw => ?_)
      obtain ⟨g_13, c_14, h⟩ := bd_ok h
      refine x_Nv (As := [.ref (a 6), .int x2, .int r_11]) (w' := fl [cB G a ((C_se v), (C_jo v), (C_sh v), (C_pi v), (C_vo v), (C_ar v), (C_ch v), (C_fe v), g_7, g_13)]) X hw (m_X4_put (G := G) (l := l) (q := (a 6)) c_14) (Cut.cell (bs' := [cB G a ((C_se v), (C_jo v), (C_sh v), (C_pi v), (C_vo v), (C_ar v), (C_ch v), (C_fe v), g_7, g_13)]) 0 6 rfl rfl rfl) ⟨va_cnB 3 hts gX0_drop_X4_put_n69 rfl rfl rfl (hK.2.1 _ (List.mem_of_getElem? (i := 4) rfl)) (hts _ (List.mem_of_getElem? (i := 19) rfl)) hd_X4_put.2 ⟨Nat.le_of_ble_eq_true rfl, Nat.le_of_ble_eq_true rfl⟩, hts _ (List.mem_of_getElem? (i := 25) rfl), trivial⟩ rfl hl.1 rfl (Nat.le_of_ble_eq_true rfl) dX0_drop_78 ⟨Nat.le_of_ble_eq_true rfl, Nat.le_of_ble_eq_true rfl⟩ (fun H locs hw => ?_)
      obtain ⟨t_15, et_15, h⟩ := nm_ok h
      refine lv_iinc (v := t_15) (lv' := [(2, .int t_15), (0, .ref (a 0)), (1, .int x1)]) hx hb dX0_drop_81 hl (k := 2) rfl (by rw [et_15]; rfl) (by decide) rfl (fun ls hl => ?_)
      refine lv_goto (tgt := 33) hx hb dX0_drop_84 (by decide) ?_
      exact ih ((C_se v), (C_jo v), (C_sh v), (C_pi v), (C_vo v), (C_ar v), (C_ch v), (C_fe v), g_7, g_13) t_15 _ _ _ h hw (lv_sub hl [1, 2, 0] rfl)
noncomputable def f_X0_drop_b7  (x1 : Int32) : Nat → CV → Int32 → Option (CV)
  | 0 => fun _ _ => none
  | n + 1 => fun v x2 =>
    br (x2 < 0)
      (f_X0_drop_b33 x1 FU v 0)
      (bd (f_X0_touches v x2 x1) fun r_2 =>
       br (r_2 = 0)
         (nm (x2 + (-1) : Int32) fun t_5 =>
          f_X0_drop_b7 x1 n v t_5)
         (bd (f_X0_unlink v x2) fun v_6 =>
          nm (x2 + (-1) : Int32) fun t_8 =>
          f_X0_drop_b7 x1 n v_6 t_8))
set_option maxHeartbeats 4000000 in
set_option maxRecDepth 100000 in
theorem w_X0_drop_b7 {G : GG} {l : Launch} {p : Program} {e : Env} {s : State} {m : MethodId} {args : Array Value} {below : List Frame} {meth : Method} {c : Code} {A : Nat → Prop} {a : Nat → Nat} {x1 : Int32} {zv : CV}   (X : Cx p s m args meth c cX0_drop 3 none wsX0_drop RX0 G A)  :
    ∀ (n : Nat) (v : CV) (x2 : Int32) (H : Heap) (locs : List Loc) (ls : Array Slot), f_X0_drop_b7 x1 n v x2 = some (zv) → Wd G A s H locs (fl [cB G a v]) → lv_has ls 3 [(0, .ref (a 0)), (1, .int x1), (2, .int x2)] → W p l e rX0_drop s m args below meth c H locs 0 0 (MQ below (Qv G A (fl [cB G a zv])) args s 0 0 A) (F0 m 7 ls []) := by
  obtain ⟨⟨hx, hb, hml, hown, hts⟩, hK, hr, hlk, hA⟩ := id X
  intro n
  induction n with
  | zero =>
    intro v x2 H locs ls h
    rw [f_X0_drop_b7] at h
    cases h
  | succ n ih =>
    intro v x2 H locs ls h hw hl
    rw [f_X0_drop_b7] at h
    refine lv_iload_n hx hb dX0_drop_7 rfl (lv_at hl 2 rfl) ?_
    refine lv_if_lt (tgt := 31) hx hb dX0_drop_8 (by decide) (fun k_1 => ?_) (fun k_1 => ?_)
    · have h := br_yes h k_1
      refine lv_iconst (v := 0) hx hb dX0_drop_31 (by decide) ?_
      refine lv_istore_n (lv' := [(2, .int 0), (0, .ref (a 0)), (1, .int x1)]) hx hb dX0_drop_32 rfl hl (by decide) rfl (fun ls hl => ?_)
      exact w_X0_drop_b33 X FU v 0 _ _ _ h hw (lv_sub hl [1, 2, 0] rfl)
    · have h := br_no h k_1
      refine lv_aload_n hx hb dX0_drop_11 rfl (lv_at hl 0 rfl) ?_
      refine lv_iload_n hx hb dX0_drop_12 rfl (lv_at hl 2 rfl) ?_
      refine lv_iload_n hx hb dX0_drop_13 rfl (lv_at hl 1 rfl) ?_
      obtain ⟨r_2, c_3, h⟩ := bd_ok h
      refine x_Vi (As := [.int x2, .int x1]) (w' := fl [cB G a v]) X hw (m_X0_touches (G := G) (l := l) (a := a) c_3) Cut.all 0 0 rfl rfl rfl (cwV 2 hts gX0_drop_X0_touches rfl rfl rfl hd_X0_touches ⟨Nat.le_of_ble_eq_true rfl, Nat.le_of_ble_eq_true rfl⟩) rfl hl.1 rfl (Nat.le_of_ble_eq_true rfl) dX0_drop_14 ⟨Nat.le_of_ble_eq_true rfl, Nat.le_of_ble_eq_true rfl⟩ (fun H locs hw => ?_)
      refine lv_if_eq (tgt := 25) hx hb dX0_drop_17 (by decide) (fun k_4 => ?_) (fun k_4 => ?_)
      · have h := br_yes h k_4
        obtain ⟨t_5, et_5, h⟩ := nm_ok h
        refine lv_iinc (v := t_5) (lv' := [(2, .int t_5), (0, .ref (a 0)), (1, .int x1)]) hx hb dX0_drop_25 hl (k := 2) rfl (by rw [et_5]; rfl) (by decide) rfl (fun ls hl => ?_)
        refine lv_goto (tgt := 7) hx hb dX0_drop_28 (by decide) ?_
        exact ih v t_5 _ _ _ h hw (lv_sub hl [1, 2, 0] rfl)
      · have h := br_no h k_4
        refine lv_aload_n hx hb dX0_drop_20 rfl (lv_at hl 0 rfl) ?_
        refine lv_iload_n hx hb dX0_drop_21 rfl (lv_at hl 2 rfl) ?_
        obtain ⟨v_6, c_7, h⟩ := bd_ok h
        refine x_Vv (As := [.int x2]) (w' := fl [cB G a v_6]) X hw (m_X0_unlink (G := G) (l := l) (a := a) c_7) Cut.all 0 0 rfl rfl rfl (cwV 1 hts gX0_drop_X0_unlink rfl rfl rfl hd_X0_unlink ⟨Nat.le_of_ble_eq_true rfl, Nat.le_of_ble_eq_true rfl⟩) rfl hl.1 rfl (Nat.le_of_ble_eq_true rfl) dX0_drop_22 ⟨Nat.le_of_ble_eq_true rfl, Nat.le_of_ble_eq_true rfl⟩ (fun H locs hw => ?_)
        obtain ⟨t_8, et_8, h⟩ := nm_ok h
        refine lv_iinc (v := t_8) (lv' := [(2, .int t_8), (0, .ref (a 0)), (1, .int x1)]) hx hb dX0_drop_25 hl (k := 2) rfl (by rw [et_8]; rfl) (by decide) rfl (fun ls hl => ?_)
        refine lv_goto (tgt := 7) hx hb dX0_drop_28 (by decide) ?_
        exact ih v_6 t_8 _ _ _ h hw (lv_sub hl [1, 2, 0] rfl)
noncomputable def f_X0_drop  (v : CV) (x1 : Int32) : Option (CV) :=
  nm (((C_jo v) - 1) : Int32) fun t_1 =>
  f_X0_drop_b7 x1 FU v t_1
set_option maxHeartbeats 4000000 in
set_option maxRecDepth 100000 in
theorem m_X0_drop {G : GG} {l : Launch} {a : Nat → Nat} {v : CV} {x1 : Int32} {zv : CV} (h : f_X0_drop v x1 = some (zv)) : Cv G l yX0_drop wsX0_drop rX0_drop [.ref (a 0), .int x1] (fl [cB G a v]) (fl [cB G a zv]) := by
  refine Cv.intro cX0_drop 3 none RX0 (by decide) rfl rfl (Nat.le_of_ble_eq_true rfl) ?_
  intro p e s m below meth c A ls X hw hl
  obtain ⟨⟨hx, hb, hml, hown, hts⟩, hK, hr, hlk, hA⟩ := id X
  unfold f_X0_drop at h
  have hl : lv_has ls 3 [(0, .ref (a 0)), (1, .int x1)] := hl
  refine lv_aload_n hx hb dX0_drop_0 rfl (lv_at hl 0 rfl) ?_
  refine x_get (v := .int (C_jo v)) 0 0 X hw in_X0_drop_0 rfl rfl rfl 1 (by decide) (List.mem_of_getElem? (i := 1) rfl) rfl rfl dX0_drop_1 ?_
  refine lv_iconst (v := 1) hx hb dX0_drop_4 (by decide) ?_
  refine lv_isub hx hb dX0_drop_5 ?_
  obtain ⟨t_1, et_1, h⟩ := nm_ok h
  refine lv_istore_n (lv' := [(2, .int t_1), (0, .ref (a 0)), (1, .int x1)]) hx hb dX0_drop_6 rfl hl (by decide) (by rw [et_1]; rfl) (fun ls hl => ?_)
  exact w_X0_drop_b7 X FU v t_1 _ _ _ h hw (lv_sub hl [1, 2, 0] rfl)

def rX0_canLink : Room := { frames := 2, cells := 0, slots := 0, locals := 43 }
theorem hd_X0_canLink : yX0_canLink.cls = RX0 ∧ yX0_canLink.cls ≠ "java/lang/invoke/MethodHandle" ∧ yX0_canLink.cls ≠ "java/lang/invoke/VarHandle" ∧ (parseMethodDescriptor yX0_canLink.desc).map (fun d => d.parameters.length) = some 2 := by decide +kernel
theorem in_X0_canLink_0 : ∀ w ∈ u_ws RX0 TX0 10, w ∈ wsX0_canLink := fun w h => (List.mem_cons_of_mem _ (List.mem_append_right _ h))
noncomputable def f_X0_canLink_b9  (v : CV) (x1 : Int32) (x2 : Int32) : Nat → Int32 → Option (Int32)
  | 0 => fun _ => none
  | n + 1 => fun x3 =>
    br ((C_jo v) ≤ x3)
      (some (1))
      (bd (f_X0_touches v x3 x1) fun r_2 =>
       br (r_2 = 0)
         (nm (x3 + 1 : Int32) fun t_5 =>
          f_X0_canLink_b9 v x1 x2 n t_5)
         (bd (f_X0_touches v x3 x2) fun r_6 =>
          br (r_6 = 0)
            (nm (x3 + 1 : Int32) fun t_9 =>
             f_X0_canLink_b9 v x1 x2 n t_9)
            (some (0))))
set_option maxHeartbeats 4000000 in
set_option maxRecDepth 100000 in
theorem w_X0_canLink_b9 {G : GG} {l : Launch} {p : Program} {e : Env} {s : State} {m : MethodId} {args : Array Value} {below : List Frame} {meth : Method} {c : Code} {A : Nat → Prop} {a : Nat → Nat} {v : CV} {x1 : Int32} {x2 : Int32} {r : Int32}    (X : Cx p s m args meth c cX0_canLink 4 (some .boolean) wsX0_canLink RX0 G A)  :
    ∀ (n : Nat) (x3 : Int32) (H : Heap) (locs : List Loc) (ls : Array Slot), f_X0_canLink_b9 v x1 x2 n x3 = some (r) → Wd G A s H locs (fl [cB G a v]) → lv_has ls 4 [(0, .ref (a 0)), (1, .int x1), (2, .int x2), (3, .int x3)] → W p l e rX0_canLink s m args below meth c H locs 0 0 (MQ below (Qi G A r (fl [cB G a v])) args s 0 0 A) (F0 m 9 ls []) := by
  obtain ⟨⟨hx, hb, hml, hown, hts⟩, hK, hr, hlk, hA⟩ := id X
  intro n
  induction n with
  | zero =>
    intro x3 H locs ls h
    rw [f_X0_canLink_b9] at h
    cases h
  | succ n ih =>
    intro x3 H locs ls h hw hl
    rw [f_X0_canLink_b9] at h
    refine lv_iload_n hx hb dX0_canLink_9 rfl (lv_at hl 3 rfl) ?_
    refine lv_aload_n hx hb dX0_canLink_10 rfl (lv_at hl 0 rfl) ?_
    refine x_get (v := .int (C_jo v)) 0 0 X hw in_X0_canLink_0 rfl rfl rfl 1 (by decide) (List.mem_of_getElem? (i := 1) rfl) rfl rfl dX0_canLink_11 ?_
    refine lv_icmp_ge (tgt := 43) hx hb dX0_canLink_14 (by decide) (fun k_1 => ?_) (fun k_1 => ?_)
    · have h := br_yes h k_1
      refine lv_iconst (v := 1) hx hb dX0_canLink_43 (by decide) ?_
      cases h
      exact x_iret X (narz (Or.inr rfl)) hw rfl rfl dX0_canLink_44
    · have h := br_no h k_1
      refine lv_aload_n hx hb dX0_canLink_17 rfl (lv_at hl 0 rfl) ?_
      refine lv_iload_n hx hb dX0_canLink_18 rfl (lv_at hl 3 rfl) ?_
      refine lv_iload_n hx hb dX0_canLink_19 rfl (lv_at hl 1 rfl) ?_
      obtain ⟨r_2, c_3, h⟩ := bd_ok h
      refine x_Vi (As := [.int x3, .int x1]) (w' := fl [cB G a v]) X hw (m_X0_touches (G := G) (l := l) (a := a) c_3) Cut.all 0 0 rfl rfl rfl (cwV 2 hts gX0_canLink_X0_touches rfl rfl rfl hd_X0_touches ⟨Nat.le_of_ble_eq_true rfl, Nat.le_of_ble_eq_true rfl⟩) rfl hl.1 rfl (Nat.le_of_ble_eq_true rfl) dX0_canLink_20 ⟨Nat.le_of_ble_eq_true rfl, Nat.le_of_ble_eq_true rfl⟩ (fun H locs hw => ?_)
      refine lv_if_eq (tgt := 37) hx hb dX0_canLink_23 (by decide) (fun k_4 => ?_) (fun k_4 => ?_)
      · have h := br_yes h k_4
        obtain ⟨t_5, et_5, h⟩ := nm_ok h
        refine lv_iinc (v := t_5) (lv' := [(3, .int t_5), (0, .ref (a 0)), (1, .int x1), (2, .int x2)]) hx hb dX0_canLink_37 hl (k := 3) rfl (by rw [et_5]; rfl) (by decide) rfl (fun ls hl => ?_)
        refine lv_goto (tgt := 9) hx hb dX0_canLink_40 (by decide) ?_
        exact ih t_5 _ _ _ h hw (lv_sub hl [1, 2, 3, 0] rfl)
      · have h := br_no h k_4
        refine lv_aload_n hx hb dX0_canLink_26 rfl (lv_at hl 0 rfl) ?_
        refine lv_iload_n hx hb dX0_canLink_27 rfl (lv_at hl 3 rfl) ?_
        refine lv_iload_n hx hb dX0_canLink_28 rfl (lv_at hl 2 rfl) ?_
        obtain ⟨r_6, c_7, h⟩ := bd_ok h
        refine x_Vi (As := [.int x3, .int x2]) (w' := fl [cB G a v]) X hw (m_X0_touches (G := G) (l := l) (a := a) c_7) Cut.all 0 0 rfl rfl rfl (cwV 2 hts gX0_canLink_X0_touches rfl rfl rfl hd_X0_touches ⟨Nat.le_of_ble_eq_true rfl, Nat.le_of_ble_eq_true rfl⟩) rfl hl.1 rfl (Nat.le_of_ble_eq_true rfl) dX0_canLink_29 ⟨Nat.le_of_ble_eq_true rfl, Nat.le_of_ble_eq_true rfl⟩ (fun H locs hw => ?_)
        refine lv_if_eq (tgt := 37) hx hb dX0_canLink_32 (by decide) (fun k_8 => ?_) (fun k_8 => ?_)
        · have h := br_yes h k_8
          obtain ⟨t_9, et_9, h⟩ := nm_ok h
          refine lv_iinc (v := t_9) (lv' := [(3, .int t_9), (0, .ref (a 0)), (1, .int x1), (2, .int x2)]) hx hb dX0_canLink_37 hl (k := 3) rfl (by rw [et_9]; rfl) (by decide) rfl (fun ls hl => ?_)
          refine lv_goto (tgt := 9) hx hb dX0_canLink_40 (by decide) ?_
          exact ih t_9 _ _ _ h hw (lv_sub hl [1, 2, 3, 0] rfl)
        · have h := br_no h k_8
          refine lv_iconst (v := 0) hx hb dX0_canLink_35 (by decide) ?_
          cases h
          exact x_iret X (narz (Or.inl rfl)) hw rfl rfl dX0_canLink_36
noncomputable def f_X0_canLink  (v : CV) (x1 : Int32) (x2 : Int32) : Option (Int32) :=
  br (x1 = x2)
    (some (0))
    (f_X0_canLink_b9 v x1 x2 FU 0)
set_option maxHeartbeats 4000000 in
set_option maxRecDepth 100000 in
theorem m_X0_canLink {G : GG} {l : Launch} {a : Nat → Nat} {v : CV} {x1 : Int32} {x2 : Int32} {r : Int32}  (h : f_X0_canLink v x1 x2 = some (r)) : Ci G l yX0_canLink wsX0_canLink rX0_canLink [.ref (a 0), .int x1, .int x2] (fl [cB G a v]) r (fl [cB G a v]) := by
  refine Ci.intro cX0_canLink 4 (some .boolean) RX0 (by decide) rfl rfl (Nat.le_of_ble_eq_true rfl) ?_
  intro p e s m below meth c A ls X hw hl
  obtain ⟨⟨hx, hb, hml, hown, hts⟩, hK, hr, hlk, hA⟩ := id X
  unfold f_X0_canLink at h
  have hl : lv_has ls 4 [(0, .ref (a 0)), (1, .int x1), (2, .int x2)] := hl
  refine lv_iload_n hx hb dX0_canLink_0 rfl (lv_at hl 1 rfl) ?_
  refine lv_iload_n hx hb dX0_canLink_1 rfl (lv_at hl 2 rfl) ?_
  refine lv_icmp_ne (tgt := 7) hx hb dX0_canLink_2 (by decide) (fun k_1 => ?_) (fun k_1 => ?_)
  · have h := br_no h k_1
    refine lv_iconst (v := 0) hx hb dX0_canLink_7 (by decide) ?_
    refine lv_istore_n (lv' := [(3, .int 0), (0, .ref (a 0)), (1, .int x1), (2, .int x2)]) hx hb dX0_canLink_8 rfl hl (by decide) rfl (fun ls hl => ?_)
    exact w_X0_canLink_b9 X FU 0 _ _ _ h hw (lv_sub hl [1, 2, 3, 0] rfl)
  · have h := br_yes h k_1
    refine lv_iconst (v := 0) hx hb dX0_canLink_5 (by decide) ?_
    cases h
    exact x_iret X (narz (Or.inl rfl)) hw rfl rfl dX0_canLink_6

def rX0_hasRoomForJoint : Room := { frames := 0, cells := 0, slots := 0, locals := 0 }
theorem hd_X0_hasRoomForJoint : yX0_hasRoomForJoint.cls = RX0 ∧ yX0_hasRoomForJoint.cls ≠ "java/lang/invoke/MethodHandle" ∧ yX0_hasRoomForJoint.cls ≠ "java/lang/invoke/VarHandle" ∧ (parseMethodDescriptor yX0_hasRoomForJoint.desc).map (fun d => d.parameters.length) = some 0 := by decide +kernel
theorem in_X0_hasRoomForJoint_0 : ∀ w ∈ u_ws RX0 TX0 10, w ∈ wsX0_hasRoomForJoint := fun w h => (List.mem_cons_of_mem _ (List.mem_append_right _ h))
noncomputable def f_X0_hasRoomForJoint  (v : CV)  : Option (Int32) :=
  br (20 ≤ (C_jo v))
    (some (0))
    (some (1))
set_option maxHeartbeats 4000000 in
set_option maxRecDepth 100000 in
theorem m_X0_hasRoomForJoint {G : GG} {l : Launch} {a : Nat → Nat} {v : CV}  {r : Int32}  (h : f_X0_hasRoomForJoint v = some (r)) : Ci G l yX0_hasRoomForJoint wsX0_hasRoomForJoint rX0_hasRoomForJoint [.ref (a 0)] (fl [cB G a v]) r (fl [cB G a v]) := by
  refine Ci.intro cX0_hasRoomForJoint 1 (some .boolean) RX0 (by decide) rfl rfl (Nat.le_of_ble_eq_true rfl) ?_
  intro p e s m below meth c A ls X hw hl
  obtain ⟨⟨hx, hb, hml, hown, hts⟩, hK, hr, hlk, hA⟩ := id X
  unfold f_X0_hasRoomForJoint at h
  have hl : lv_has ls 1 [(0, .ref (a 0))] := hl
  refine lv_aload_n hx hb dX0_hasRoomForJoint_0 rfl (lv_at hl 0 rfl) ?_
  refine x_get (v := .int (C_jo v)) 0 0 X hw in_X0_hasRoomForJoint_0 rfl rfl rfl 1 (by decide) (List.mem_of_getElem? (i := 1) rfl) rfl rfl dX0_hasRoomForJoint_1 ?_
  refine lv_bipush (v := 20) hx hb dX0_hasRoomForJoint_4 (by decide) ?_
  refine lv_icmp_ge (tgt := 13) hx hb dX0_hasRoomForJoint_6 (by decide) (fun k_1 => ?_) (fun k_1 => ?_)
  · have h := br_yes h k_1
    refine lv_iconst (v := 0) hx hb dX0_hasRoomForJoint_13 (by decide) ?_
    cases h
    exact x_iret X (narz (Or.inl rfl)) hw rfl rfl dX0_hasRoomForJoint_14
  · have h := br_no h k_1
    refine lv_iconst (v := 1) hx hb dX0_hasRoomForJoint_9 (by decide) ?_
    refine lv_goto (tgt := 14) hx hb dX0_hasRoomForJoint_10 (by decide) ?_
    cases h
    exact x_iret X (narz (Or.inr rfl)) hw rfl rfl dX0_hasRoomForJoint_14

def rX0_link : Room := { frames := 0, cells := 0, slots := 0, locals := 0 }
theorem hd_X0_link : yX0_link.cls = RX0 ∧ yX0_link.cls ≠ "java/lang/invoke/MethodHandle" ∧ yX0_link.cls ≠ "java/lang/invoke/VarHandle" ∧ (parseMethodDescriptor yX0_link.desc).map (fun d => d.parameters.length) = some 2 := by decide +kernel
theorem in_X0_link_0 : ∀ w ∈ u_ws RX0 TX0 10, w ∈ wsX0_link := fun w h => (List.mem_cons_of_mem _ (List.mem_append_right _ h))
noncomputable def f_X0_link  (v : CV) (x1 : Int32) (x2 : Int32) : Option (Int32 × CV) :=
  br ((C_jo v) < 0)
    (some ((-5), v))
    (br ((C_jo v) < 20)
       (ck (vp_in (C_jo v) 20) <|
        nm (upd (C_fi v) ((C_jo v) : Int32).toNatClampNeg x1) fun g_4 =>
        ck (vp_in (C_jo v) 20) <|
        nm (upd (C_sd v) ((C_jo v) : Int32).toNatClampNeg x2) fun g_6 =>
        nm (((C_jo v) + 1) : Int32) fun t_7 =>
        some ((C_jo v), ((C_se v), t_7, (C_sh v), (C_pi v), (C_vo v), (C_ar v), (C_ch v), (C_fe v), g_4, g_6)))
       (some ((-5), v)))
set_option maxHeartbeats 4000000 in
set_option maxRecDepth 100000 in
theorem m_X0_link {G : GG} {l : Launch} {a : Nat → Nat} {v : CV} {x1 : Int32} {x2 : Int32} {r : Int32} {zv : CV} (h : f_X0_link v x1 x2 = some (r, zv)) : Ci G l yX0_link wsX0_link rX0_link [.ref (a 0), .int x1, .int x2] (fl [cB G a v]) r (fl [cB G a zv]) := by
  refine Ci.intro cX0_link 4 (some .int) RX0 (by decide) rfl rfl (Nat.le_of_ble_eq_true rfl) ?_
  intro p e s m below meth c A ls X hw hl
  obtain ⟨⟨hx, hb, hml, hown, hts⟩, hK, hr, hlk, hA⟩ := id X
  unfold f_X0_link at h
  have hl : lv_has ls 4 [(0, .ref (a 0)), (1, .int x1), (2, .int x2)] := hl
  refine lv_aload_n hx hb dX0_link_0 rfl (lv_at hl 0 rfl) ?_
  refine x_get (v := .int (C_jo v)) 0 0 X hw in_X0_link_0 rfl rfl rfl 1 (by decide) (List.mem_of_getElem? (i := 1) rfl) rfl rfl dX0_link_1 ?_
  refine lv_istore_n (lv' := [(3, .int (C_jo v)), (0, .ref (a 0)), (1, .int x1), (2, .int x2)]) hx hb dX0_link_4 rfl hl (by decide) rfl (fun ls hl => ?_)
  refine lv_iload_n hx hb dX0_link_5 rfl (lv_at hl 0 rfl) ?_
  refine lv_if_lt (tgt := 15) hx hb dX0_link_6 (by decide) (fun k_1 => ?_) (fun k_1 => ?_)
  · have h := br_yes h k_1
    refine lv_bipush (v := (-5)) hx hb dX0_link_15 (by decide) ?_
    cases h
    exact x_iret X (vp_nar_int _) hw rfl rfl dX0_link_17
  · have h := br_no h k_1
    refine lv_iload_n hx hb dX0_link_9 rfl (lv_at hl 0 rfl) ?_
    refine lv_bipush (v := 20) hx hb dX0_link_10 (by decide) ?_
    refine lv_icmp_lt (tgt := 18) hx hb dX0_link_12 (by decide) (fun k_2 => ?_) (fun k_2 => ?_)
    · have h := br_yes h k_2
      refine lv_aload_n hx hb dX0_link_18 rfl (lv_at hl 1 rfl) ?_
      refine x_get (v := .ref (a 5)) 0 0 X hw in_X0_link_0 rfl rfl rfl 8 (by decide) (List.mem_of_getElem? (i := 2) rfl) rfl rfl dX0_link_19 ?_
      refine lv_iload_n hx hb dX0_link_22 rfl (lv_at hl 0 rfl) ?_
      refine lv_iload_n hx hb dX0_link_23 rfl (lv_at hl 2 rfl) ?_
      obtain ⟨k_3, h⟩ := ck_ok h
      obtain ⟨g_4, eg_4, h⟩ := nm_ok h
      refine x_iast (f := (C_fi v)) (bs' := [cB G a ((C_se v), (C_jo v), (C_sh v), (C_pi v), (C_vo v), (C_ar v), (C_ch v), (C_fe v), g_4, (C_sd v))]) 0 5 X hw rfl rfl k_3 dX0_link_24 (by rw [eg_4]; rfl) (fun H locs hw => ?_)
      refine lv_aload_n hx hb dX0_link_25 rfl (lv_at hl 1 rfl) ?_
      refine x_get (v := .ref (a 6)) 0 0 X hw in_X0_link_0 rfl rfl rfl 9 (by decide) (List.mem_of_getElem? (i := 3) rfl) rfl rfl dX0_link_26 ?_
      refine lv_iload_n hx hb dX0_link_29 rfl (lv_at hl 0 rfl) ?_
      refine lv_iload_n hx hb dX0_link_30 rfl (lv_at hl 3 rfl) ?_
      obtain ⟨k_5, h⟩ := ck_ok h
      obtain ⟨g_6, eg_6, h⟩ := nm_ok h
      refine x_iast (f := (C_sd v)) (bs' := [cB G a ((C_se v), (C_jo v), (C_sh v), (C_pi v), (C_vo v), (C_ar v), (C_ch v), (C_fe v), g_4, g_6)]) 0 6 X hw rfl rfl k_5 dX0_link_31 (by rw [eg_6]; rfl) (fun H locs hw => ?_)
      refine lv_aload_n hx hb dX0_link_32 rfl (lv_at hl 1 rfl) ?_
      refine lv_iload_n hx hb dX0_link_33 rfl (lv_at hl 0 rfl) ?_
      refine lv_iconst (v := 1) hx hb dX0_link_34 (by decide) ?_
      refine lv_iadd hx hb dX0_link_35 ?_
      obtain ⟨t_7, et_7, h⟩ := nm_ok h
      refine x_put (bs' := [cB G a ((C_se v), t_7, (C_sh v), (C_pi v), (C_vo v), (C_ar v), (C_ch v), (C_fe v), g_4, g_6)]) 0 0 X hw in_X0_link_0 tyX0 tyX0_ok nmX0 rfl rfl rfl 1 (by decide) (List.mem_of_getElem? (i := 1) rfl) rfl rfl rfl rfl (Nat.le_of_ble_eq_true rfl) dX0_link_36 (by rw [et_7]; rfl) (fun H locs hw => ?_)
      refine lv_iload_n hx hb dX0_link_39 rfl (lv_at hl 0 rfl) ?_
      cases h
      exact x_iret X (vp_nar_int _) hw rfl rfl dX0_link_40
    · have h := br_no h k_2
      refine lv_bipush (v := (-5)) hx hb dX0_link_15 (by decide) ?_
      cases h
      exact x_iret X (vp_nar_int _) hw rfl rfl dX0_link_17

def rX0_hasJoint : Room := { frames := 0, cells := 0, slots := 0, locals := 0 }
theorem hd_X0_hasJoint : yX0_hasJoint.cls = RX0 ∧ yX0_hasJoint.cls ≠ "java/lang/invoke/MethodHandle" ∧ yX0_hasJoint.cls ≠ "java/lang/invoke/VarHandle" ∧ (parseMethodDescriptor yX0_hasJoint.desc).map (fun d => d.parameters.length) = some 1 := by decide +kernel
theorem in_X0_hasJoint_0 : ∀ w ∈ u_ws RX0 TX0 10, w ∈ wsX0_hasJoint := fun w h => (List.mem_cons_of_mem _ (List.mem_append_right _ h))
noncomputable def f_X0_hasJoint  (v : CV) (x1 : Int32) : Option (Int32) :=
  br (x1 < 0)
    (some (0))
    (br ((C_jo v) ≤ x1)
       (some (0))
       (some (1)))
set_option maxHeartbeats 4000000 in
set_option maxRecDepth 100000 in
theorem m_X0_hasJoint {G : GG} {l : Launch} {a : Nat → Nat} {v : CV} {x1 : Int32} {r : Int32}  (h : f_X0_hasJoint v x1 = some (r)) : Ci G l yX0_hasJoint wsX0_hasJoint rX0_hasJoint [.ref (a 0), .int x1] (fl [cB G a v]) r (fl [cB G a v]) := by
  refine Ci.intro cX0_hasJoint 2 (some .boolean) RX0 (by decide) rfl rfl (Nat.le_of_ble_eq_true rfl) ?_
  intro p e s m below meth c A ls X hw hl
  obtain ⟨⟨hx, hb, hml, hown, hts⟩, hK, hr, hlk, hA⟩ := id X
  unfold f_X0_hasJoint at h
  have hl : lv_has ls 2 [(0, .ref (a 0)), (1, .int x1)] := hl
  refine lv_iload_n hx hb dX0_hasJoint_0 rfl (lv_at hl 1 rfl) ?_
  refine lv_if_lt (tgt := 16) hx hb dX0_hasJoint_1 (by decide) (fun k_1 => ?_) (fun k_1 => ?_)
  · have h := br_yes h k_1
    refine lv_iconst (v := 0) hx hb dX0_hasJoint_16 (by decide) ?_
    cases h
    exact x_iret X (narz (Or.inl rfl)) hw rfl rfl dX0_hasJoint_17
  · have h := br_no h k_1
    refine lv_iload_n hx hb dX0_hasJoint_4 rfl (lv_at hl 1 rfl) ?_
    refine lv_aload_n hx hb dX0_hasJoint_5 rfl (lv_at hl 0 rfl) ?_
    refine x_get (v := .int (C_jo v)) 0 0 X hw in_X0_hasJoint_0 rfl rfl rfl 1 (by decide) (List.mem_of_getElem? (i := 1) rfl) rfl rfl dX0_hasJoint_6 ?_
    refine lv_icmp_ge (tgt := 16) hx hb dX0_hasJoint_9 (by decide) (fun k_2 => ?_) (fun k_2 => ?_)
    · have h := br_yes h k_2
      refine lv_iconst (v := 0) hx hb dX0_hasJoint_16 (by decide) ?_
      cases h
      exact x_iret X (narz (Or.inl rfl)) hw rfl rfl dX0_hasJoint_17
    · have h := br_no h k_2
      refine lv_iconst (v := 1) hx hb dX0_hasJoint_12 (by decide) ?_
      refine lv_goto (tgt := 17) hx hb dX0_hasJoint_13 (by decide) ?_
      cases h
      exact x_iret X (narz (Or.inr rfl)) hw rfl rfl dX0_hasJoint_17

def rX0_feeders : Room := { frames := 2, cells := 0, slots := 0, locals := 42 }
theorem hd_X0_feeders : yX0_feeders.cls = RX0 ∧ yX0_feeders.cls ≠ "java/lang/invoke/MethodHandle" ∧ yX0_feeders.cls ≠ "java/lang/invoke/VarHandle" ∧ (parseMethodDescriptor yX0_feeders.desc).map (fun d => d.parameters.length) = some 0 := by decide +kernel
theorem in_X0_feeders_0 : ∀ w ∈ u_ws RX0 TX0 10, w ∈ wsX0_feeders := fun w h => (List.mem_cons_of_mem _ (List.mem_append_right _ h))
noncomputable def f_X0_feeders_b4  (v : CV) : Nat → Int32 → Int32 → Option (Int32)
  | 0 => fun _ _ => none
  | n + 1 => fun x1 x2 =>
    br ((C_se v) ≤ x2)
      (some (x1))
      (bd (f_X0_isFeeder v x2) fun r_2 =>
       br (r_2 = 0)
         (nm (x2 + 1 : Int32) fun t_5 =>
          f_X0_feeders_b4 v n x1 t_5)
         (nm (x1 + 1 : Int32) fun t_6 =>
          nm (x2 + 1 : Int32) fun t_7 =>
          f_X0_feeders_b4 v n t_6 t_7))
set_option maxHeartbeats 4000000 in
set_option maxRecDepth 100000 in
theorem w_X0_feeders_b4 {G : GG} {l : Launch} {p : Program} {e : Env} {s : State} {m : MethodId} {args : Array Value} {below : List Frame} {meth : Method} {c : Code} {A : Nat → Prop} {a : Nat → Nat} {v : CV} {r : Int32}    (X : Cx p s m args meth c cX0_feeders 3 (some .int) wsX0_feeders RX0 G A)  :
    ∀ (n : Nat) (x1 : Int32) (x2 : Int32) (H : Heap) (locs : List Loc) (ls : Array Slot), f_X0_feeders_b4 v n x1 x2 = some (r) → Wd G A s H locs (fl [cB G a v]) → lv_has ls 3 [(0, .ref (a 0)), (1, .int x1), (2, .int x2)] → W p l e rX0_feeders s m args below meth c H locs 0 0 (MQ below (Qi G A r (fl [cB G a v])) args s 0 0 A) (F0 m 4 ls []) := by
  obtain ⟨⟨hx, hb, hml, hown, hts⟩, hK, hr, hlk, hA⟩ := id X
  intro n
  induction n with
  | zero =>
    intro x1 x2 H locs ls h
    rw [f_X0_feeders_b4] at h
    cases h
  | succ n ih =>
    intro x1 x2 H locs ls h hw hl
    rw [f_X0_feeders_b4] at h
    refine lv_iload_n hx hb dX0_feeders_4 rfl (lv_at hl 2 rfl) ?_
    refine lv_aload_n hx hb dX0_feeders_5 rfl (lv_at hl 0 rfl) ?_
    refine x_get (v := .int (C_se v)) 0 0 X hw in_X0_feeders_0 rfl rfl rfl 0 (by decide) (List.mem_of_getElem? (i := 1) rfl) rfl rfl dX0_feeders_6 ?_
    refine lv_icmp_ge (tgt := 29) hx hb dX0_feeders_9 (by decide) (fun k_1 => ?_) (fun k_1 => ?_)
    · have h := br_yes h k_1
      refine lv_iload_n hx hb dX0_feeders_29 rfl (lv_at hl 1 rfl) ?_
      cases h
      exact x_iret X (vp_nar_int _) hw rfl rfl dX0_feeders_30
    · have h := br_no h k_1
      refine lv_aload_n hx hb dX0_feeders_12 rfl (lv_at hl 0 rfl) ?_
      refine lv_iload_n hx hb dX0_feeders_13 rfl (lv_at hl 2 rfl) ?_
      obtain ⟨r_2, c_3, h⟩ := bd_ok h
      refine x_Vi (As := [.int x2]) (w' := fl [cB G a v]) X hw (m_X0_isFeeder (G := G) (l := l) (a := a) c_3) Cut.all 0 0 rfl rfl rfl (cwV 1 hts gX0_feeders_X0_isFeeder rfl rfl rfl hd_X0_isFeeder ⟨Nat.le_of_ble_eq_true rfl, Nat.le_of_ble_eq_true rfl⟩) rfl hl.1 rfl (Nat.le_of_ble_eq_true rfl) dX0_feeders_14 ⟨Nat.le_of_ble_eq_true rfl, Nat.le_of_ble_eq_true rfl⟩ (fun H locs hw => ?_)
      refine lv_if_eq (tgt := 23) hx hb dX0_feeders_17 (by decide) (fun k_4 => ?_) (fun k_4 => ?_)
      · have h := br_yes h k_4
        obtain ⟨t_5, et_5, h⟩ := nm_ok h
        refine lv_iinc (v := t_5) (lv' := [(2, .int t_5), (0, .ref (a 0)), (1, .int x1)]) hx hb dX0_feeders_23 hl (k := 2) rfl (by rw [et_5]; rfl) (by decide) rfl (fun ls hl => ?_)
        refine lv_goto (tgt := 4) hx hb dX0_feeders_26 (by decide) ?_
        exact ih x1 t_5 _ _ _ h hw (lv_sub hl [1, 2, 0] rfl)
      · have h := br_no h k_4
        obtain ⟨t_6, et_6, h⟩ := nm_ok h
        refine lv_iinc (v := t_6) (lv' := [(1, .int t_6), (0, .ref (a 0)), (2, .int x2)]) hx hb dX0_feeders_20 hl (k := 1) rfl (by rw [et_6]; rfl) (by decide) rfl (fun ls hl => ?_)
        obtain ⟨t_7, et_7, h⟩ := nm_ok h
        refine lv_iinc (v := t_7) (lv' := [(2, .int t_7), (1, .int t_6), (0, .ref (a 0))]) hx hb dX0_feeders_23 hl (k := 2) rfl (by rw [et_7]; rfl) (by decide) rfl (fun ls hl => ?_)
        refine lv_goto (tgt := 4) hx hb dX0_feeders_26 (by decide) ?_
        exact ih t_6 t_7 _ _ _ h hw (lv_sub hl [2, 1, 0] rfl)
noncomputable def f_X0_feeders  (v : CV)  : Option (Int32) :=
  f_X0_feeders_b4 v FU 0 0
set_option maxHeartbeats 4000000 in
set_option maxRecDepth 100000 in
theorem m_X0_feeders {G : GG} {l : Launch} {a : Nat → Nat} {v : CV}  {r : Int32}  (h : f_X0_feeders v = some (r)) : Ci G l yX0_feeders wsX0_feeders rX0_feeders [.ref (a 0)] (fl [cB G a v]) r (fl [cB G a v]) := by
  refine Ci.intro cX0_feeders 3 (some .int) RX0 (by decide) rfl rfl (Nat.le_of_ble_eq_true rfl) ?_
  intro p e s m below meth c A ls X hw hl
  obtain ⟨⟨hx, hb, hml, hown, hts⟩, hK, hr, hlk, hA⟩ := id X
  unfold f_X0_feeders at h
  have hl : lv_has ls 3 [(0, .ref (a 0))] := hl
  refine lv_iconst (v := 0) hx hb dX0_feeders_0 (by decide) ?_
  refine lv_istore_n (lv' := [(1, .int 0), (0, .ref (a 0))]) hx hb dX0_feeders_1 rfl hl (by decide) rfl (fun ls hl => ?_)
  refine lv_iconst (v := 0) hx hb dX0_feeders_2 (by decide) ?_
  refine lv_istore_n (lv' := [(2, .int 0), (1, .int 0), (0, .ref (a 0))]) hx hb dX0_feeders_3 rfl hl (by decide) rfl (fun ls hl => ?_)
  exact w_X0_feeders_b4 X FU 0 0 _ _ _ h hw (lv_sub hl [2, 1, 0] rfl)

def rX0_yieldPerMille : Room := { frames := 2, cells := 0, slots := 0, locals := 42 }
theorem hd_X0_yieldPerMille : yX0_yieldPerMille.cls = RX0 ∧ yX0_yieldPerMille.cls ≠ "java/lang/invoke/MethodHandle" ∧ yX0_yieldPerMille.cls ≠ "java/lang/invoke/VarHandle" ∧ (parseMethodDescriptor yX0_yieldPerMille.desc).map (fun d => d.parameters.length) = some 0 := by decide +kernel
theorem in_X0_yieldPerMille_0 : ∀ w ∈ u_ws RX0 TX0 10, w ∈ wsX0_yieldPerMille := fun w h => (List.mem_cons_of_mem _ (List.mem_append_right _ h))
noncomputable def f_X0_yieldPerMille_b6  (v : CV) : Nat → Int32 → Int32 → Int32 → Option (Int32)
  | 0 => fun _ _ _ => none
  | n + 1 => fun x1 x2 x3 =>
    br ((C_se v) ≤ x3)
      (br (x1 ≤ 0)
         (some (0))
         (ck (¬ (x1 : Int32) = 0) <|
          nm ((1000 * x2) : Int32) fun t_4 =>
          some ((t_4 / x1))))
      (bd (f_X4_at 12 (C_vo v) x3) fun r_5 =>
       nm ((x1 + r_5) : Int32) fun t_7 =>
       bd (f_X0_isFeeder v x3) fun r_8 =>
       br (r_8 = 0)
         (bd (f_X4_at 12 (C_vo v) x3) fun r_12 =>
          nm ((x2 + r_12) : Int32) fun t_14 =>
          nm (x3 + 1 : Int32) fun t_15 =>
          f_X0_yieldPerMille_b6 v n t_7 t_14 t_15)
         (nm (x3 + 1 : Int32) fun t_11 =>
          f_X0_yieldPerMille_b6 v n t_7 x2 t_11))
set_option maxHeartbeats 4000000 in
set_option maxRecDepth 100000 in
theorem w_X0_yieldPerMille_b6 {G : GG} {l : Launch} {p : Program} {e : Env} {s : State} {m : MethodId} {args : Array Value} {below : List Frame} {meth : Method} {c : Code} {A : Nat → Prop} {a : Nat → Nat} {v : CV} {r : Int32}    (X : Cx p s m args meth c cX0_yieldPerMille 4 (some .int) wsX0_yieldPerMille RX0 G A)  :
    ∀ (n : Nat) (x1 : Int32) (x2 : Int32) (x3 : Int32) (H : Heap) (locs : List Loc) (ls : Array Slot), f_X0_yieldPerMille_b6 v n x1 x2 x3 = some (r) → Wd G A s H locs (fl [cB G a v]) → lv_has ls 4 [(0, .ref (a 0)), (1, .int x1), (2, .int x2), (3, .int x3)] → W p l e rX0_yieldPerMille s m args below meth c H locs 0 0 (MQ below (Qi G A r (fl [cB G a v])) args s 0 0 A) (F0 m 6 ls []) := by
  obtain ⟨⟨hx, hb, hml, hown, hts⟩, hK, hr, hlk, hA⟩ := id X
  intro n
  induction n with
  | zero =>
    intro x1 x2 x3 H locs ls h
    rw [f_X0_yieldPerMille_b6] at h
    cases h
  | succ n ih =>
    intro x1 x2 x3 H locs ls h hw hl
    rw [f_X0_yieldPerMille_b6] at h
    refine lv_iload_n hx hb dX0_yieldPerMille_6 rfl (lv_at hl 3 rfl) ?_
    refine lv_aload_n hx hb dX0_yieldPerMille_7 rfl (lv_at hl 0 rfl) ?_
    refine x_get (v := .int (C_se v)) 0 0 X hw in_X0_yieldPerMille_0 rfl rfl rfl 0 (by decide) (List.mem_of_getElem? (i := 1) rfl) rfl rfl dX0_yieldPerMille_8 ?_
    refine lv_icmp_ge (tgt := 50) hx hb dX0_yieldPerMille_11 (by decide) (fun k_1 => ?_) (fun k_1 => ?_)
    · have h := br_yes h k_1
      refine lv_iload_n hx hb dX0_yieldPerMille_50 rfl (lv_at hl 1 rfl) ?_
      refine lv_if_le (tgt := 64) hx hb dX0_yieldPerMille_51 (by decide) (fun k_2 => ?_) (fun k_2 => ?_)
      · have h := br_yes h k_2
        refine lv_iconst (v := 0) hx hb dX0_yieldPerMille_64 (by decide) ?_
        cases h
        exact x_iret X (vp_nar_int _) hw rfl rfl dX0_yieldPerMille_65
      · have h := br_no h k_2
        refine lv_sipush (v := 1000) hx hb dX0_yieldPerMille_54 (by decide) ?_
        refine lv_iload_n hx hb dX0_yieldPerMille_57 rfl (lv_at hl 2 rfl) ?_
        refine lv_imul hx hb dX0_yieldPerMille_58 ?_
        refine lv_iload_n hx hb dX0_yieldPerMille_59 rfl (lv_at hl 1 rfl) ?_
        obtain ⟨k_3, h⟩ := ck_ok h
        obtain ⟨t_4, et_4, h⟩ := nm_ok h
        rw [← et_4]
        refine lv_idiv hx hb dX0_yieldPerMille_60 k_3 ?_
        refine lv_goto (tgt := 65) hx hb dX0_yieldPerMille_61 (by decide) ?_
        cases h
        exact x_iret X (vp_nar_int _) hw rfl rfl dX0_yieldPerMille_65
    · have h := br_no h k_1
      refine lv_iload_n hx hb dX0_yieldPerMille_14 rfl (lv_at hl 1 rfl) ?_
      refine lv_aload_n hx hb dX0_yieldPerMille_15 rfl (lv_at hl 0 rfl) ?_
      refine x_get (v := .ref (a 1)) 0 0 X hw in_X0_yieldPerMille_0 rfl rfl rfl 4 (by decide) (List.mem_of_getElem? (i := 2) rfl) rfl rfl dX0_yieldPerMille_16 ?_
      refine lv_iload_n hx hb dX0_yieldPerMille_19 rfl (lv_at hl 3 rfl) ?_
      obtain ⟨r_5, c_6, h⟩ := bd_ok h
      refine x_Ni (As := [.ref (a 1), .int x3]) (w' := fl [cB G a v]) X hw (m_X4_at (G := G) (l := l) (q := (a 1)) c_6) (Cut.cellr 0 1 rfl rfl) ⟨va_cnB 2 hts gX0_yieldPerMille_X4_at_n48 rfl rfl rfl (hK.2.1 _ (List.mem_of_getElem? (i := 3) rfl)) (hts _ (List.mem_of_getElem? (i := 4) rfl)) hd_X4_at.2 ⟨Nat.le_of_ble_eq_true rfl, Nat.le_of_ble_eq_true rfl⟩, hts _ (List.mem_of_getElem? (i := 3) rfl), trivial⟩ rfl hl.1 rfl (Nat.le_of_ble_eq_true rfl) dX0_yieldPerMille_20 ⟨Nat.le_of_ble_eq_true rfl, Nat.le_of_ble_eq_true rfl⟩ (fun H locs hw => ?_)
      refine lv_iadd hx hb dX0_yieldPerMille_23 ?_
      obtain ⟨t_7, et_7, h⟩ := nm_ok h
      refine lv_istore_n (lv' := [(1, .int t_7), (0, .ref (a 0)), (2, .int x2), (3, .int x3)]) hx hb dX0_yieldPerMille_24 rfl hl (by decide) (by rw [et_7]; rfl) (fun ls hl => ?_)
      refine lv_aload_n hx hb dX0_yieldPerMille_25 rfl (lv_at hl 1 rfl) ?_
      refine lv_iload_n hx hb dX0_yieldPerMille_26 rfl (lv_at hl 3 rfl) ?_
      obtain ⟨r_8, c_9, h⟩ := bd_ok h
      refine x_Vi (As := [.int x3]) (w' := fl [cB G a v]) X hw (m_X0_isFeeder (G := G) (l := l) (a := a) c_9) Cut.all 0 0 rfl rfl rfl (cwV 1 hts gX0_yieldPerMille_X0_isFeeder rfl rfl rfl hd_X0_isFeeder ⟨Nat.le_of_ble_eq_true rfl, Nat.le_of_ble_eq_true rfl⟩) rfl hl.1 rfl (Nat.le_of_ble_eq_true rfl) dX0_yieldPerMille_27 ⟨Nat.le_of_ble_eq_true rfl, Nat.le_of_ble_eq_true rfl⟩ (fun H locs hw => ?_)
      refine lv_if_ne (tgt := 44) hx hb dX0_yieldPerMille_30 (by decide) (fun k_10 => ?_) (fun k_10 => ?_)
      · have h := br_no h k_10
        obtain ⟨t_11, et_11, h⟩ := nm_ok h
        refine lv_iinc (v := t_11) (lv' := [(3, .int t_11), (1, .int t_7), (0, .ref (a 0)), (2, .int x2)]) hx hb dX0_yieldPerMille_44 hl (k := 3) rfl (by rw [et_11]; rfl) (by decide) rfl (fun ls hl => ?_)
        refine lv_goto (tgt := 6) hx hb dX0_yieldPerMille_47 (by decide) ?_
        exact ih t_7 x2 t_11 _ _ _ h hw (lv_sub hl [2, 1, 3, 0] rfl)
      · have h := br_yes h k_10
        refine lv_iload_n hx hb dX0_yieldPerMille_33 rfl (lv_at hl 2 rfl) ?_
        refine lv_aload_n hx hb dX0_yieldPerMille_34 rfl (lv_at hl 1 rfl) ?_
        refine x_get (v := .ref (a 1)) 0 0 X hw in_X0_yieldPerMille_0 rfl rfl rfl 4 (by decide) (List.mem_of_getElem? (i := 2) rfl) rfl rfl dX0_yieldPerMille_35 ?_
        refine lv_iload_n hx hb dX0_yieldPerMille_38 rfl (lv_at hl 3 rfl) ?_
        obtain ⟨r_12, c_13, h⟩ := bd_ok h
        refine x_Ni (As := [.ref (a 1), .int x3]) (w' := fl [cB G a v]) X hw (m_X4_at (G := G) (l := l) (q := (a 1)) c_13) (Cut.cellr 0 1 rfl rfl) ⟨va_cnB 2 hts gX0_yieldPerMille_X4_at_n48 rfl rfl rfl (hK.2.1 _ (List.mem_of_getElem? (i := 3) rfl)) (hts _ (List.mem_of_getElem? (i := 4) rfl)) hd_X4_at.2 ⟨Nat.le_of_ble_eq_true rfl, Nat.le_of_ble_eq_true rfl⟩, hts _ (List.mem_of_getElem? (i := 3) rfl), trivial⟩ rfl hl.1 rfl (Nat.le_of_ble_eq_true rfl) dX0_yieldPerMille_39 ⟨Nat.le_of_ble_eq_true rfl, Nat.le_of_ble_eq_true rfl⟩ (fun H locs hw => ?_)
        refine lv_iadd hx hb dX0_yieldPerMille_42 ?_
        obtain ⟨t_14, et_14, h⟩ := nm_ok h
        refine lv_istore_n (lv' := [(2, .int t_14), (1, .int t_7), (0, .ref (a 0)), (3, .int x3)]) hx hb dX0_yieldPerMille_43 rfl hl (by decide) (by rw [et_14]; rfl) (fun ls hl => ?_)
        obtain ⟨t_15, et_15, h⟩ := nm_ok h
        refine lv_iinc (v := t_15) (lv' := [(3, .int t_15), (2, .int t_14), (1, .int t_7), (0, .ref (a 0))]) hx hb dX0_yieldPerMille_44 hl (k := 3) rfl (by rw [et_15]; rfl) (by decide) rfl (fun ls hl => ?_)
        refine lv_goto (tgt := 6) hx hb dX0_yieldPerMille_47 (by decide) ?_
        exact ih t_7 t_14 t_15 _ _ _ h hw (lv_sub hl [3, 2, 1, 0] rfl)
noncomputable def f_X0_yieldPerMille  (v : CV)  : Option (Int32) :=
  f_X0_yieldPerMille_b6 v FU 0 0 0
set_option maxHeartbeats 4000000 in
set_option maxRecDepth 100000 in
theorem m_X0_yieldPerMille {G : GG} {l : Launch} {a : Nat → Nat} {v : CV}  {r : Int32}  (h : f_X0_yieldPerMille v = some (r)) : Ci G l yX0_yieldPerMille wsX0_yieldPerMille rX0_yieldPerMille [.ref (a 0)] (fl [cB G a v]) r (fl [cB G a v]) := by
  refine Ci.intro cX0_yieldPerMille 4 (some .int) RX0 (by decide) rfl rfl (Nat.le_of_ble_eq_true rfl) ?_
  intro p e s m below meth c A ls X hw hl
  obtain ⟨⟨hx, hb, hml, hown, hts⟩, hK, hr, hlk, hA⟩ := id X
  unfold f_X0_yieldPerMille at h
  have hl : lv_has ls 4 [(0, .ref (a 0))] := hl
  refine lv_iconst (v := 0) hx hb dX0_yieldPerMille_0 (by decide) ?_
  refine lv_istore_n (lv' := [(1, .int 0), (0, .ref (a 0))]) hx hb dX0_yieldPerMille_1 rfl hl (by decide) rfl (fun ls hl => ?_)
  refine lv_iconst (v := 0) hx hb dX0_yieldPerMille_2 (by decide) ?_
  refine lv_istore_n (lv' := [(2, .int 0), (1, .int 0), (0, .ref (a 0))]) hx hb dX0_yieldPerMille_3 rfl hl (by decide) rfl (fun ls hl => ?_)
  refine lv_iconst (v := 0) hx hb dX0_yieldPerMille_4 (by decide) ?_
  refine lv_istore_n (lv' := [(3, .int 0), (2, .int 0), (1, .int 0), (0, .ref (a 0))]) hx hb dX0_yieldPerMille_5 rfl hl (by decide) rfl (fun ls hl => ?_)
  exact w_X0_yieldPerMille_b6 X FU 0 0 0 _ _ _ h hw (lv_sub hl [3, 2, 1, 0] rfl)

def rX0_neighbours : Room := { frames := 2, cells := 0, slots := 0, locals := 43 }
theorem hd_X0_neighbours : yX0_neighbours.cls = RX0 ∧ yX0_neighbours.cls ≠ "java/lang/invoke/MethodHandle" ∧ yX0_neighbours.cls ≠ "java/lang/invoke/VarHandle" ∧ (parseMethodDescriptor yX0_neighbours.desc).map (fun d => d.parameters.length) = some 1 := by decide +kernel
theorem in_X0_neighbours_0 : ∀ w ∈ u_ws RX0 TX0 10, w ∈ wsX0_neighbours := fun w h => (List.mem_cons_of_mem _ (List.mem_append_right _ h))
noncomputable def f_X0_neighbours_b4  (v : CV) (x1 : Int32) : Nat → Int32 → Int32 → Option (Int32)
  | 0 => fun _ _ => none
  | n + 1 => fun x2 x3 =>
    br ((C_jo v) ≤ x3)
      (some (x2))
      (bd (f_X0_touches v x3 x1) fun r_2 =>
       br (r_2 = 0)
         (nm (x3 + 1 : Int32) fun t_5 =>
          f_X0_neighbours_b4 v x1 n x2 t_5)
         (nm (x2 + 1 : Int32) fun t_6 =>
          nm (x3 + 1 : Int32) fun t_7 =>
          f_X0_neighbours_b4 v x1 n t_6 t_7))
set_option maxHeartbeats 4000000 in
set_option maxRecDepth 100000 in
theorem w_X0_neighbours_b4 {G : GG} {l : Launch} {p : Program} {e : Env} {s : State} {m : MethodId} {args : Array Value} {below : List Frame} {meth : Method} {c : Code} {A : Nat → Prop} {a : Nat → Nat} {v : CV} {x1 : Int32} {r : Int32}    (X : Cx p s m args meth c cX0_neighbours 4 (some .int) wsX0_neighbours RX0 G A)  :
    ∀ (n : Nat) (x2 : Int32) (x3 : Int32) (H : Heap) (locs : List Loc) (ls : Array Slot), f_X0_neighbours_b4 v x1 n x2 x3 = some (r) → Wd G A s H locs (fl [cB G a v]) → lv_has ls 4 [(0, .ref (a 0)), (1, .int x1), (2, .int x2), (3, .int x3)] → W p l e rX0_neighbours s m args below meth c H locs 0 0 (MQ below (Qi G A r (fl [cB G a v])) args s 0 0 A) (F0 m 4 ls []) := by
  obtain ⟨⟨hx, hb, hml, hown, hts⟩, hK, hr, hlk, hA⟩ := id X
  intro n
  induction n with
  | zero =>
    intro x2 x3 H locs ls h
    rw [f_X0_neighbours_b4] at h
    cases h
  | succ n ih =>
    intro x2 x3 H locs ls h hw hl
    rw [f_X0_neighbours_b4] at h
    refine lv_iload_n hx hb dX0_neighbours_4 rfl (lv_at hl 3 rfl) ?_
    refine lv_aload_n hx hb dX0_neighbours_5 rfl (lv_at hl 0 rfl) ?_
    refine x_get (v := .int (C_jo v)) 0 0 X hw in_X0_neighbours_0 rfl rfl rfl 1 (by decide) (List.mem_of_getElem? (i := 1) rfl) rfl rfl dX0_neighbours_6 ?_
    refine lv_icmp_ge (tgt := 30) hx hb dX0_neighbours_9 (by decide) (fun k_1 => ?_) (fun k_1 => ?_)
    · have h := br_yes h k_1
      refine lv_iload_n hx hb dX0_neighbours_30 rfl (lv_at hl 2 rfl) ?_
      cases h
      exact x_iret X (vp_nar_int _) hw rfl rfl dX0_neighbours_31
    · have h := br_no h k_1
      refine lv_aload_n hx hb dX0_neighbours_12 rfl (lv_at hl 0 rfl) ?_
      refine lv_iload_n hx hb dX0_neighbours_13 rfl (lv_at hl 3 rfl) ?_
      refine lv_iload_n hx hb dX0_neighbours_14 rfl (lv_at hl 1 rfl) ?_
      obtain ⟨r_2, c_3, h⟩ := bd_ok h
      refine x_Vi (As := [.int x3, .int x1]) (w' := fl [cB G a v]) X hw (m_X0_touches (G := G) (l := l) (a := a) c_3) Cut.all 0 0 rfl rfl rfl (cwV 2 hts gX0_neighbours_X0_touches rfl rfl rfl hd_X0_touches ⟨Nat.le_of_ble_eq_true rfl, Nat.le_of_ble_eq_true rfl⟩) rfl hl.1 rfl (Nat.le_of_ble_eq_true rfl) dX0_neighbours_15 ⟨Nat.le_of_ble_eq_true rfl, Nat.le_of_ble_eq_true rfl⟩ (fun H locs hw => ?_)
      refine lv_if_eq (tgt := 24) hx hb dX0_neighbours_18 (by decide) (fun k_4 => ?_) (fun k_4 => ?_)
      · have h := br_yes h k_4
        obtain ⟨t_5, et_5, h⟩ := nm_ok h
        refine lv_iinc (v := t_5) (lv' := [(3, .int t_5), (0, .ref (a 0)), (1, .int x1), (2, .int x2)]) hx hb dX0_neighbours_24 hl (k := 3) rfl (by rw [et_5]; rfl) (by decide) rfl (fun ls hl => ?_)
        refine lv_goto (tgt := 4) hx hb dX0_neighbours_27 (by decide) ?_
        exact ih x2 t_5 _ _ _ h hw (lv_sub hl [1, 2, 3, 0] rfl)
      · have h := br_no h k_4
        obtain ⟨t_6, et_6, h⟩ := nm_ok h
        refine lv_iinc (v := t_6) (lv' := [(2, .int t_6), (0, .ref (a 0)), (1, .int x1), (3, .int x3)]) hx hb dX0_neighbours_21 hl (k := 2) rfl (by rw [et_6]; rfl) (by decide) rfl (fun ls hl => ?_)
        obtain ⟨t_7, et_7, h⟩ := nm_ok h
        refine lv_iinc (v := t_7) (lv' := [(3, .int t_7), (2, .int t_6), (0, .ref (a 0)), (1, .int x1)]) hx hb dX0_neighbours_24 hl (k := 3) rfl (by rw [et_7]; rfl) (by decide) rfl (fun ls hl => ?_)
        refine lv_goto (tgt := 4) hx hb dX0_neighbours_27 (by decide) ?_
        exact ih t_6 t_7 _ _ _ h hw (lv_sub hl [2, 3, 1, 0] rfl)
noncomputable def f_X0_neighbours  (v : CV) (x1 : Int32) : Option (Int32) :=
  f_X0_neighbours_b4 v x1 FU 0 0
set_option maxHeartbeats 4000000 in
set_option maxRecDepth 100000 in
theorem m_X0_neighbours {G : GG} {l : Launch} {a : Nat → Nat} {v : CV} {x1 : Int32} {r : Int32}  (h : f_X0_neighbours v x1 = some (r)) : Ci G l yX0_neighbours wsX0_neighbours rX0_neighbours [.ref (a 0), .int x1] (fl [cB G a v]) r (fl [cB G a v]) := by
  refine Ci.intro cX0_neighbours 4 (some .int) RX0 (by decide) rfl rfl (Nat.le_of_ble_eq_true rfl) ?_
  intro p e s m below meth c A ls X hw hl
  obtain ⟨⟨hx, hb, hml, hown, hts⟩, hK, hr, hlk, hA⟩ := id X
  unfold f_X0_neighbours at h
  have hl : lv_has ls 4 [(0, .ref (a 0)), (1, .int x1)] := hl
  refine lv_iconst (v := 0) hx hb dX0_neighbours_0 (by decide) ?_
  refine lv_istore_n (lv' := [(2, .int 0), (0, .ref (a 0)), (1, .int x1)]) hx hb dX0_neighbours_1 rfl hl (by decide) rfl (fun ls hl => ?_)
  refine lv_iconst (v := 0) hx hb dX0_neighbours_2 (by decide) ?_
  refine lv_istore_n (lv' := [(3, .int 0), (2, .int 0), (0, .ref (a 0)), (1, .int x1)]) hx hb dX0_neighbours_3 rfl hl (by decide) rfl (fun ls hl => ?_)
  exact w_X0_neighbours_b4 X FU 0 0 _ _ _ h hw (lv_sub hl [2, 3, 1, 0] rfl)
