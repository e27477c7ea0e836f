def rX4_addSection : Room := { frames := 5, cells := 0, slots := 0, locals := 107 }
theorem hd_X4_addSection : yX4_addSection.cls = RX4 ∧ yX4_addSection.cls ≠ "java/lang/invoke/MethodHandle" ∧ yX4_addSection.cls ≠ "java/lang/invoke/VarHandle" ∧ (parseMethodDescriptor yX4_addSection.desc).map (fun d => d.parameters.length) = some 3 := by decide +kernel
theorem in_X4_addSection_4 : ∀ w ∈ u_ws RX4 TX4 6, w ∈ wsX4_addSection := fun w h => (List.mem_cons_of_mem _ (List.mem_append_left _ (List.mem_append_left _ (List.mem_append_left _ (List.mem_append_right _ h)))))
noncomputable def f_X4_addSection  (vc : CV) (vf : FV) (vh : HV) (x1 : Int32) (x2 : Int32) (x3 : Int32) : Option (Int32 × CV × FV × HV) :=
  bd (f_X4_isSize x1) fun r_1 =>
  br (r_1 = 0)
    (some ((-3), vc, vf, vh))
    (bd (f_X4_isSize x2) fun r_4 =>
     br (r_4 = 0)
       (some ((-3), vc, vf, vh))
       (bd (f_X0_hasRoomForSection vc) fun r_7 =>
        br (r_7 = 0)
          (some ((-5), vc, vf, vh))
          (bd (f_X2_keep vh vc) fun g_10 =>
           bd2 (f_X0_append vc x1 x2 0 x3) fun r_12 v_13 =>
           bd (f_X1_follow vf v_13) fun w_15 =>
           some (r_12, v_13, w_15, g_10))))
set_option maxHeartbeats 4000000 in
set_option maxRecDepth 100000 in
theorem m_X4_addSection {G : GG} {l : Launch} {ax : Nat} {ac af ah at_ ar ad : Nat → Nat} {vc : CV} {vf : FV} {vh : HV} {x1 : Int32} {x2 : Int32} {x3 : Int32} {r : Int32} {zvc : CV} {zvf : FV} {zvh : HV} (h : f_X4_addSection vc vf vh x1 x2 x3 = some (r, zvc, zvf, zvh)) : Ci G l yX4_addSection wsX4_addSection rX4_addSection [.ref ax, .int x1, .int x2, .int x3] (fl [xB ax ac af ah at_ ar ad, cB G ac vc, fB G af vf, hB G ah vh]) r (fl [xB ax ac af ah at_ ar ad, cB G ac zvc, fB G af zvf, hB G ah zvh]) := by
  refine Ci.intro cX4_addSection 5 (some .int) RX4 (by decide) rfl rfl (Nat.le_of_ble_eq_true rfl) ?_
  intro p e s m below meth c A ls X hw hl
  obtain ⟨⟨hx, hb, hml, hown, hts⟩, hK, hr, hlk, hA⟩ := id X
  unfold f_X4_addSection at h
  have hl : lv_has ls 5 [(0, .ref ax), (1, .int x1), (2, .int x2), (3, .int x3)] := hl
  refine lv_iload_n hx hb dX4_addSection_0 rfl (lv_at hl 1 rfl) ?_
  obtain ⟨r_1, c_2, h⟩ := bd_ok h
  refine x_Si (As := [.int x1]) (w' := fl [xB ax ac af ah at_ ar ad, cB G ac vc, fB G af vf, hB G ah vh]) X hw (m_X4_isSize (G := G) (l := l) c_2) Cut.nil (va_cwS 1 hts gX4_addSection_X4_isSize rfl rfl rfl hd_X4_isSize.2 ⟨Nat.le_of_ble_eq_true rfl, Nat.le_of_ble_eq_true rfl⟩) rfl hl.1 rfl (Nat.le_of_ble_eq_true rfl) dX4_addSection_1 ⟨Nat.le_of_ble_eq_true rfl, Nat.le_of_ble_eq_true rfl⟩ (fun H locs hw => ?_)
  refine lv_if_eq (tgt := 14) hx hb dX4_addSection_4 (by decide) (fun k_3 => ?_) (fun k_3 => ?_)
  · have h := br_yes h k_3
    refine lv_bipush (v := (-3)) hx hb dX4_addSection_14 (by decide) ?_
    cases h
    exact x_iret X (vp_nar_int _) hw rfl rfl dX4_addSection_16
  · have h := br_no h k_3
    refine lv_iload_n hx hb dX4_addSection_7 rfl (lv_at hl 2 rfl) ?_
    obtain ⟨r_4, c_5, h⟩ := bd_ok h
    refine x_Si (As := [.int x2]) (w' := fl [xB ax ac af ah at_ ar ad, cB G ac vc, fB G af vf, hB G ah vh]) X hw (m_X4_isSize (G := G) (l := l) c_5) Cut.nil (va_cwS 1 hts gX4_addSection_X4_isSize rfl rfl rfl hd_X4_isSize.2 ⟨Nat.le_of_ble_eq_true rfl, Nat.le_of_ble_eq_true rfl⟩) rfl hl.1 rfl (Nat.le_of_ble_eq_true rfl) dX4_addSection_8 ⟨Nat.le_of_ble_eq_true rfl, Nat.le_of_ble_eq_true rfl⟩ (fun H locs hw => ?_)
    refine lv_if_ne (tgt := 17) hx hb dX4_addSection_11 (by decide) (fun k_6 => ?_) (fun k_6 => ?_)
    · have h := br_no h k_6
      refine lv_aload_n hx hb dX4_addSection_17 rfl (lv_at hl 0 rfl) ?_
      refine x_get (v := .ref (ac 0)) 0 0 X hw in_X4_addSection_4 rfl rfl rfl 0 (by decide) (List.mem_of_getElem? (i := 1) rfl) rfl rfl dX4_addSection_18 ?_
      obtain ⟨r_7, c_8, h⟩ := bd_ok h
      refine x_Vi (As := []) (w' := fl [xB ax ac af ah at_ ar ad, cB G ac vc, fB G af vf, hB G ah vh]) X hw (m_X0_hasRoomForSection (G := G) (l := l) (a := ac) c_8) (Cut.blocks (bs' := [xB ax ac af ah at_ ar ad, cB G ac vc, fB G af vf, hB G ah vh]) [1] [0, 2, 3] [1, 0, 2, 3] [cB G ac vc] rfl rfl rfl rfl rfl) 1 0 rfl rfl rfl (cwV 0 hts gX4_addSection_X0_hasRoomForSection rfl rfl rfl hd_X0_hasRoomForSection ⟨Nat.le_of_ble_eq_true rfl, Nat.le_of_ble_eq_true rfl⟩) rfl hl.1 rfl (Nat.le_of_ble_eq_true rfl) dX4_addSection_21 ⟨Nat.le_of_ble_eq_true rfl, Nat.le_of_ble_eq_true rfl⟩ (fun H locs hw => ?_)
      refine lv_if_ne (tgt := 30) hx hb dX4_addSection_24 (by decide) (fun k_9 => ?_) (fun k_9 => ?_)
      · have h := br_no h k_9
        refine lv_aload_n hx hb dX4_addSection_30 rfl (lv_at hl 0 rfl) ?_
        refine x_get (v := .ref (ah 0)) 0 0 X hw in_X4_addSection_4 rfl rfl rfl 2 (by decide) (List.mem_of_getElem? (i := 2) rfl) rfl rfl dX4_addSection_31 ?_
        refine lv_aload_n hx hb dX4_addSection_34 rfl (lv_at hl 0 rfl) ?_
        refine x_get (v := .ref (ac 0)) 0 0 X hw in_X4_addSection_4 rfl rfl rfl 0 (by decide) (List.mem_of_getElem? (i := 1) rfl) rfl rfl dX4_addSection_35 ?_
        obtain ⟨g_10, c_11, h⟩ := bd_ok h
        refine x_Vv (As := [.ref (ac 0)]) (w' := fl [xB ax ac af ah at_ ar ad, cB G ac vc, fB G af vf, hB G ah g_10]) X hw (m_X2_keep (G := G) (l := l) (d := ah) (a := ac) c_11) (Cut.blocks (bs' := [xB ax ac af ah at_ ar ad, cB G ac vc, fB G af vf, hB G ah g_10]) [3, 1] [0, 2] [2, 1, 3, 0] [hB G ah g_10, cB G ac vc] rfl rfl rfl rfl rfl) 3 0 rfl rfl rfl (cwV 1 hts gX4_addSection_X2_keep rfl rfl rfl hd_X2_keep ⟨Nat.le_of_ble_eq_true rfl, Nat.le_of_ble_eq_true rfl⟩) rfl hl.1 rfl (Nat.le_of_ble_eq_true rfl) dX4_addSection_38 ⟨Nat.le_of_ble_eq_true rfl, Nat.le_of_ble_eq_true rfl⟩ (fun H locs hw => ?_)
        refine lv_aload_n hx hb dX4_addSection_41 rfl (lv_at hl 0 rfl) ?_
        refine x_get (v := .ref (ac 0)) 0 0 X hw in_X4_addSection_4 rfl rfl rfl 0 (by decide) (List.mem_of_getElem? (i := 1) rfl) rfl rfl dX4_addSection_42 ?_
        refine lv_iload_n hx hb dX4_addSection_45 rfl (lv_at hl 1 rfl) ?_
        refine lv_iload_n hx hb dX4_addSection_46 rfl (lv_at hl 2 rfl) ?_
        refine lv_iconst (v := 0) hx hb dX4_addSection_47 (by decide) ?_
        refine lv_iload_n hx hb dX4_addSection_48 rfl (lv_at hl 3 rfl) ?_
        obtain ⟨r_12, v_13, c_14, h⟩ := bd2_ok h
        refine x_Vi (As := [.int x1, .int x2, .int 0, .int x3]) (w' := fl [xB ax ac af ah at_ ar ad, cB G ac v_13, fB G af vf, hB G ah g_10]) X hw (m_X0_append (G := G) (l := l) (a := ac) c_14) (Cut.blocks (bs' := [xB ax ac af ah at_ ar ad, cB G ac v_13, fB G af vf, hB G ah g_10]) [1] [0, 2, 3] [1, 0, 2, 3] [cB G ac v_13] rfl rfl rfl rfl rfl) 1 0 rfl rfl rfl (cwV 4 hts gX4_addSection_X0_append rfl rfl rfl hd_X0_append ⟨Nat.le_of_ble_eq_true rfl, Nat.le_of_ble_eq_true rfl⟩) rfl hl.1 rfl (Nat.le_of_ble_eq_true rfl) dX4_addSection_49 ⟨Nat.le_of_ble_eq_true rfl, Nat.le_of_ble_eq_true rfl⟩ (fun H locs hw => ?_)
        refine lv_istore (lv' := [(4, .int r_12), (0, .ref ax), (1, .int x1), (2, .int x2), (3, .int x3)]) hx hb dX4_addSection_52 hl (by decide) rfl (fun ls hl => ?_)
        refine lv_aload_n hx hb dX4_addSection_54 rfl (lv_at hl 1 rfl) ?_
        refine x_get (v := .ref (af 0)) 0 0 X hw in_X4_addSection_4 rfl rfl rfl 1 (by decide) (List.mem_of_getElem? (i := 3) rfl) rfl rfl dX4_addSection_55 ?_
        refine lv_aload_n hx hb dX4_addSection_58 rfl (lv_at hl 1 rfl) ?_
        refine x_get (v := .ref (ac 0)) 0 0 X hw in_X4_addSection_4 rfl rfl rfl 0 (by decide) (List.mem_of_getElem? (i := 1) rfl) rfl rfl dX4_addSection_59 ?_
        obtain ⟨w_15, c_16, h⟩ := bd_ok h
        refine x_Vv (As := [.ref (ac 0)]) (w' := fl [xB ax ac af ah at_ ar ad, cB G ac v_13, fB G af w_15, hB G ah g_10]) X hw (m_X1_follow (G := G) (l := l) (b := af) (a := ac) c_16) (Cut.blocks (bs' := [xB ax ac af ah at_ ar ad, cB G ac v_13, fB G af w_15, hB G ah g_10]) [2, 1] [0, 3] [2, 1, 0, 3] [fB G af w_15, cB G ac v_13] rfl rfl rfl rfl rfl) 2 0 rfl rfl rfl (cwV 1 hts gX4_addSection_X1_follow rfl rfl rfl hd_X1_follow ⟨Nat.le_of_ble_eq_true rfl, Nat.le_of_ble_eq_true rfl⟩) rfl hl.1 rfl (Nat.le_of_ble_eq_true rfl) dX4_addSection_62 ⟨Nat.le_of_ble_eq_true rfl, Nat.le_of_ble_eq_true rfl⟩ (fun H locs hw => ?_)
        refine lv_iload hx hb dX4_addSection_65 (lv_at hl 0 rfl) ?_
        cases h
        exact x_iret X (vp_nar_int _) hw rfl rfl dX4_addSection_67
      · have h := br_yes h k_9
        refine lv_bipush (v := (-5)) hx hb dX4_addSection_27 (by decide) ?_
        cases h
        exact x_iret X (vp_nar_int _) hw rfl rfl dX4_addSection_29
    · have h := br_yes h k_6
      refine lv_bipush (v := (-3)) hx hb dX4_addSection_14 (by decide) ?_
      cases h
      exact x_iret X (vp_nar_int _) hw rfl rfl dX4_addSection_16

def rX4_resize : Room := { frames := 5, cells := 0, slots := 0, locals := 107 }
theorem hd_X4_resize : yX4_resize.cls = RX4 ∧ yX4_resize.cls ≠ "java/lang/invoke/MethodHandle" ∧ yX4_resize.cls ≠ "java/lang/invoke/VarHandle" ∧ (parseMethodDescriptor yX4_resize.desc).map (fun d => d.parameters.length) = some 3 := by decide +kernel
theorem in_X4_resize_0 : ∀ w ∈ u_ws RX0 TX0 10, w ∈ wsX4_resize := fun w h => (List.mem_cons_of_mem _ (List.mem_append_left _ (List.mem_append_left _ (List.mem_append_right _ h))))
theorem in_X4_resize_4 : ∀ w ∈ u_ws RX4 TX4 6, w ∈ wsX4_resize := fun w h => (List.mem_cons_of_mem _ (List.mem_append_left _ (List.mem_append_left _ (List.mem_append_left _ (List.mem_append_right _ h)))))
noncomputable def f_X4_resize  (vc : CV) (vf : FV) (vh : HV) (x1 : Int32) (x2 : Int32) (x3 : Int32) : Option (Int32 × CV × FV × HV) :=
  bd (f_X0_has vc x1) fun r_1 =>
  br (r_1 = 0)
    (some ((-2), vc, vf, vh))
    (bd (f_X4_isSize x2) fun r_4 =>
     br (r_4 = 0)
       (some ((-3), vc, vf, vh))
       (bd (f_X4_isSize x3) fun r_7 =>
        br (r_7 = 0)
          (some ((-3), vc, vf, vh))
          (bd (f_X2_keep vh vc) fun g_10 =>
           bd (f_X4_at 12 (C_vo vc) x1) fun r_12 =>
           bd (f_X4_put 12 (C_vo vc) x1 x2) fun g_14 =>
           bd (f_X4_put 12 (C_ar vc) x1 x3) fun g_16 =>
           bd (f_X1_follow vf ((C_se vc), (C_jo vc), (C_sh vc), (C_pi vc), g_14, g_16, (C_ch vc), (C_fe vc), (C_fi vc), (C_sd vc))) fun w_18 =>
           some (r_12, ((C_se vc), (C_jo vc), (C_sh vc), (C_pi vc), g_14, g_16, (C_ch vc), (C_fe vc), (C_fi vc), (C_sd vc)), w_18, g_10))))
set_option maxHeartbeats 4000000 in
set_option maxRecDepth 100000 in
theorem m_X4_resize {G : GG} {l : Launch} {ax : Nat} {ac af ah at_ ar ad : Nat → Nat} {vc : CV} {vf : FV} {vh : HV} {x1 : Int32} {x2 : Int32} {x3 : Int32} {r : Int32} {zvc : CV} {zvf : FV} {zvh : HV} (h : f_X4_resize vc vf vh x1 x2 x3 = some (r, zvc, zvf, zvh)) : Ci G l yX4_resize wsX4_resize rX4_resize [.ref ax, .int x1, .int x2, .int x3] (fl [xB ax ac af ah at_ ar ad, cB G ac vc, fB G af vf, hB G ah vh]) r (fl [xB ax ac af ah at_ ar ad, cB G ac zvc, fB G af zvf, hB G ah zvh]) := by
  refine Ci.intro cX4_resize 5 (some .int) RX4 (by decide) rfl rfl (Nat.le_of_ble_eq_true rfl) ?_
  intro p e s m below meth c A ls X hw hl
  obtain ⟨⟨hx, hb, hml, hown, hts⟩, hK, hr, hlk, hA⟩ := id X
  unfold f_X4_resize at h
  have hl : lv_has ls 5 [(0, .ref ax), (1, .int x1), (2, .int x2), (3, .int x3)] := hl
  refine lv_aload_n hx hb dX4_resize_0 rfl (lv_at hl 0 rfl) ?_
  refine x_get (v := .ref (ac 0)) 0 0 X hw in_X4_resize_4 rfl rfl rfl 0 (by decide) (List.mem_of_getElem? (i := 1) rfl) rfl rfl dX4_resize_1 ?_
  refine lv_iload_n hx hb dX4_resize_4 rfl (lv_at hl 1 rfl) ?_
  obtain ⟨r_1, c_2, h⟩ := bd_ok h
  refine x_Vi (As := [.int x1]) (w' := fl [xB ax ac af ah at_ ar ad, cB G ac vc, fB G af vf, hB G ah vh]) X hw (m_X0_has (G := G) (l := l) (a := ac) c_2) (Cut.blocks (bs' := [xB ax ac af ah at_ ar ad, cB G ac vc, fB G af vf, hB G ah vh]) [1] [0, 2, 3] [1, 0, 2, 3] [cB G ac vc] rfl rfl rfl rfl rfl) 1 0 rfl rfl rfl (cwV 1 hts gX4_resize_X0_has rfl rfl rfl hd_X0_has ⟨Nat.le_of_ble_eq_true rfl, Nat.le_of_ble_eq_true rfl⟩) rfl hl.1 rfl (Nat.le_of_ble_eq_true rfl) dX4_resize_5 ⟨Nat.le_of_ble_eq_true rfl, Nat.le_of_ble_eq_true rfl⟩ (fun H locs hw => ?_)
  refine lv_if_ne (tgt := 14) hx hb dX4_resize_8 (by decide) (fun k_3 => ?_) (fun k_3 => ?_)
  · have h := br_no h k_3
    refine lv_iload_n hx hb dX4_resize_14 rfl (lv_at hl 2 rfl) ?_
    obtain ⟨r_4, c_5, h⟩ := bd_ok h
    refine x_Si (As := [.int x2]) (w' := fl [xB ax ac af ah at_ ar ad, cB G ac vc, fB G af vf, hB G ah vh]) X hw (m_X4_isSize (G := G) (l := l) c_5) Cut.nil (va_cwS 1 hts gX4_resize_X4_isSize rfl rfl rfl hd_X4_isSize.2 ⟨Nat.le_of_ble_eq_true rfl, Nat.le_of_ble_eq_true rfl⟩) rfl hl.1 rfl (Nat.le_of_ble_eq_true rfl) dX4_resize_15 ⟨Nat.le_of_ble_eq_true rfl, Nat.le_of_ble_eq_true rfl⟩ (fun H locs hw => ?_)
    refine lv_if_eq (tgt := 28) hx hb dX4_resize_18 (by decide) (fun k_6 => ?_) (fun k_6 => ?_)
    · have h := br_yes h k_6
      refine lv_bipush (v := (-3)) hx hb dX4_resize_28 (by decide) ?_
      cases h
      exact x_iret X (vp_nar_int _) hw rfl rfl dX4_resize_30
    · have h := br_no h k_6
      refine lv_iload_n hx hb dX4_resize_21 rfl (lv_at hl 3 rfl) ?_
      obtain ⟨r_7, c_8, h⟩ := bd_ok h
      refine x_Si (As := [.int x3]) (w' := fl [xB ax ac af ah at_ ar ad, cB G ac vc, fB G af vf, hB G ah vh]) X hw (m_X4_isSize (G := G) (l := l) c_8) Cut.nil (va_cwS 1 hts gX4_resize_X4_isSize rfl rfl rfl hd_X4_isSize.2 ⟨Nat.le_of_ble_eq_true rfl, Nat.le_of_ble_eq_true rfl⟩) rfl hl.1 rfl (Nat.le_of_ble_eq_true rfl) dX4_resize_22 ⟨Nat.le_of_ble_eq_true rfl, Nat.le_of_ble_eq_true rfl⟩ (fun H locs hw => ?_)
      refine lv_if_ne (tgt := 31) hx hb dX4_resize_25 (by decide) (fun k_9 => ?_) (fun k_9 => ?_)
      · have h := br_no h k_9
        refine lv_aload_n hx hb dX4_resize_31 rfl (lv_at hl 0 rfl) ?_
        refine x_get (v := .ref (ah 0)) 0 0 X hw in_X4_resize_4 rfl rfl rfl 2 (by decide) (List.mem_of_getElem? (i := 2) rfl) rfl rfl dX4_resize_32 ?_
        refine lv_aload_n hx hb dX4_resize_35 rfl (lv_at hl 0 rfl) ?_
        refine x_get (v := .ref (ac 0)) 0 0 X hw in_X4_resize_4 rfl rfl rfl 0 (by decide) (List.mem_of_getElem? (i := 1) rfl) rfl rfl dX4_resize_36 ?_
        obtain ⟨g_10, c_11, h⟩ := bd_ok h
        refine x_Vv (As := [.ref (ac 0)]) (w' := fl [xB ax ac af ah at_ ar ad, cB G ac vc, fB G af vf, hB G ah g_10]) X hw (m_X2_keep (G := G) (l := l) (d := ah) (a := ac) c_11) (Cut.blocks (bs' := [xB ax ac af ah at_ ar ad, cB G ac vc, fB G af vf, hB G ah g_10]) [3, 1] [0, 2] [2, 1, 3, 0] [hB G ah g_10, cB G ac vc] rfl rfl rfl rfl rfl) 3 0 rfl rfl rfl (cwV 1 hts gX4_resize_X2_keep rfl rfl rfl hd_X2_keep ⟨Nat.le_of_ble_eq_true rfl, Nat.le_of_ble_eq_true rfl⟩) rfl hl.1 rfl (Nat.le_of_ble_eq_true rfl) dX4_resize_39 ⟨Nat.le_of_ble_eq_true rfl, Nat.le_of_ble_eq_true rfl⟩ (fun H locs hw => ?_)
        refine lv_aload_n hx hb dX4_resize_42 rfl (lv_at hl 0 rfl) ?_
        refine x_get (v := .ref (ac 0)) 0 0 X hw in_X4_resize_4 rfl rfl rfl 0 (by decide) (List.mem_of_getElem? (i := 1) rfl) rfl rfl dX4_resize_43 ?_
        refine x_get (v := .ref (ac 1)) 1 0 X hw in_X4_resize_0 rfl rfl rfl 4 (by decide) (List.mem_of_getElem? (i := 3) rfl) rfl rfl dX4_resize_46 ?_
        refine lv_iload_n hx hb dX4_resize_49 rfl (lv_at hl 1 rfl) ?_
        obtain ⟨r_12, c_13, h⟩ := bd_ok h
        refine x_Si (As := [.ref (ac 1), .int x1]) (w' := fl [xB ax ac af ah at_ ar ad, cB G ac vc, fB G af vf, hB G ah g_10]) X hw (m_X4_at (G := G) (l := l) (q := (ac 1)) c_13) (Cut.cellr 1 1 rfl rfl) (va_cwS 2 hts gX4_resize_X4_at rfl rfl rfl hd_X4_at.2 ⟨Nat.le_of_ble_eq_true rfl, Nat.le_of_ble_eq_true rfl⟩) rfl hl.1 rfl (Nat.le_of_ble_eq_true rfl) dX4_resize_50 ⟨Nat.le_of_ble_eq_true rfl, Nat.le_of_ble_eq_true rfl⟩ (fun H locs hw => ?_)
        refine lv_istore (lv' := [(4, .int r_12), (0, .ref ax), (1, .int x1), (2, .int x2), (3, .int x3)]) hx hb dX4_resize_53 hl (by decide) rfl (fun ls hl => ?_)
        refine lv_aload_n hx hb dX4_resize_55 rfl (lv_at hl 1 rfl) ?_
        refine x_get (v := .ref (ac 0)) 0 0 X hw in_X4_resize_4 rfl rfl rfl 0 (by decide) (List.mem_of_getElem? (i := 1) rfl) rfl rfl dX4_resize_56 ?_
        refine x_get (v := .ref (ac 1)) 1 0 X hw in_X4_resize_0 rfl rfl rfl 4 (by decide) (List.mem_of_getElem? (i := 3) rfl) rfl rfl dX4_resize_59 ?_
        refine lv_iload_n hx hb dX4_resize_62 rfl (lv_at hl 2 rfl) ?_
        refine lv_iload_n hx hb dX4_resize_63 rfl (lv_at hl 3 rfl) ?_
        obtain ⟨g_14, c_15, h⟩ := bd_ok h
        refine x_Sv (As := [.ref (ac 1), .int x1, .int x2]) (w' := fl [xB ax ac af ah at_ ar ad, cB G ac ((C_se vc), (C_jo vc), (C_sh vc), (C_pi vc), g_14, (C_ar vc), (C_ch vc), (C_fe vc), (C_fi vc), (C_sd vc)), fB G af vf, hB G ah g_10]) X hw (m_X4_put (G := G) (l := l) (q := (ac 1)) c_15) (Cut.cell (bs' := [xB ax ac af ah at_ ar ad, cB G ac ((C_se vc), (C_jo vc), (C_sh vc), (C_pi vc), g_14, (C_ar vc), (C_ch vc), (C_fe vc), (C_fi vc), (C_sd vc)), fB G af vf, hB G ah g_10]) 1 1 rfl rfl rfl) (va_cwS 3 hts gX4_resize_X4_put rfl rfl rfl hd_X4_put.2 ⟨Nat.le_of_ble_eq_true rfl, Nat.le_of_ble_eq_true rfl⟩) rfl hl.1 rfl (Nat.le_of_ble_eq_true rfl) dX4_resize_64 ⟨Nat.le_of_ble_eq_true rfl, Nat.le_of_ble_eq_true rfl⟩ (fun H locs hw => ?_)
        refine lv_aload_n hx hb dX4_resize_67 rfl (lv_at hl 1 rfl) ?_
        refine x_get (v := .ref (ac 0)) 0 0 X hw in_X4_resize_4 rfl rfl rfl 0 (by decide) (List.mem_of_getElem? (i := 1) rfl) rfl rfl dX4_resize_68 ?_
        refine x_get (v := .ref (ac 2)) 1 0 X hw in_X4_resize_0 rfl rfl rfl 5 (by decide) (List.mem_of_getElem? (i := 4) rfl) rfl rfl dX4_resize_71 ?_
        refine lv_iload_n hx hb dX4_resize_74 rfl (lv_at hl 2 rfl) ?_
        refine lv_iload_n hx hb dX4_resize_75 rfl (lv_at hl 4 rfl) ?_
        obtain ⟨g_16, c_17, h⟩ := bd_ok h
        refine x_Sv (As := [.ref (ac 2), .int x1, .int x3]) (w' := fl [xB ax ac af ah at_ ar ad, cB G ac ((C_se vc), (C_jo vc), (C_sh vc), (C_pi vc), g_14, g_16, (C_ch vc), (C_fe vc), (C_fi vc), (C_sd vc)), fB G af vf, hB G ah g_10]) X hw (m_X4_put (G := G) (l := l) (q := (ac 2)) c_17) (Cut.cell (bs' := [xB ax ac af ah at_ ar ad, cB G ac ((C_se vc), (C_jo vc), (C_sh vc), (C_pi vc), g_14, g_16, (C_ch vc), (C_fe vc), (C_fi vc), (C_sd vc)), fB G af vf, hB G ah g_10]) 1 2 rfl rfl rfl) (va_cwS 3 hts gX4_resize_X4_put rfl rfl rfl hd_X4_put.2 ⟨Nat.le_of_ble_eq_true rfl, Nat.le_of_ble_eq_true rfl⟩) rfl hl.1 rfl (Nat.le_of_ble_eq_true rfl) dX4_resize_76 ⟨Nat.le_of_ble_eq_true rfl, Nat.le_of_ble_eq_true rfl⟩ (fun H locs hw => ?_)
        refine lv_aload_n hx hb dX4_resize_79 rfl (lv_at hl 1 rfl) ?_
        refine x_get (v := .ref (af 0)) 0 0 X hw in_X4_resize_4 rfl rfl rfl 1 (by decide) (List.mem_of_getElem? (i := 5) rfl) rfl rfl dX4_resize_80 ?_
        refine lv_aload_n hx hb dX4_resize_83 rfl (lv_at hl 1 rfl) ?_
        refine x_get (v := .ref (ac 0)) 0 0 X hw in_X4_resize_4 rfl rfl rfl 0 (by decide) (List.mem_of_getElem? (i := 1) rfl) rfl rfl dX4_resize_84 ?_
        obtain ⟨w_18, c_19, h⟩ := bd_ok h
        refine x_Vv (As := [.ref (ac 0)]) (w' := fl [xB ax ac af ah at_ ar ad, cB G ac ((C_se vc), (C_jo vc), (C_sh vc), (C_pi vc), g_14, g_16, (C_ch vc), (C_fe vc), (C_fi vc), (C_sd vc)), fB G af w_18, hB G ah g_10]) X hw (m_X1_follow (G := G) (l := l) (b := af) (a := ac) c_19) (Cut.blocks (bs' := [xB ax ac af ah at_ ar ad, cB G ac ((C_se vc), (C_jo vc), (C_sh vc), (C_pi vc), g_14, g_16, (C_ch vc), (C_fe vc), (C_fi vc), (C_sd vc)), fB G af w_18, hB G ah g_10]) [2, 1] [0, 3] [2, 1, 0, 3] [fB G af w_18, cB G ac ((C_se vc), (C_jo vc), (C_sh vc), (C_pi vc), g_14, g_16, (C_ch vc), (C_fe vc), (C_fi vc), (C_sd vc))] rfl rfl rfl rfl rfl) 2 0 rfl rfl rfl (cwV 1 hts gX4_resize_X1_follow rfl rfl rfl hd_X1_follow ⟨Nat.le_of_ble_eq_true rfl, Nat.le_of_ble_eq_true rfl⟩) rfl hl.1 rfl (Nat.le_of_ble_eq_true rfl) dX4_resize_87 ⟨Nat.le_of_ble_eq_true rfl, Nat.le_of_ble_eq_true rfl⟩ (fun H locs hw => ?_)
        refine lv_iload hx hb dX4_resize_90 (lv_at hl 0 rfl) ?_
        cases h
        exact x_iret X (vp_nar_int _) hw rfl rfl dX4_resize_92
      · have h := br_yes h k_9
        refine lv_bipush (v := (-3)) hx hb dX4_resize_28 (by decide) ?_
        cases h
        exact x_iret X (vp_nar_int _) hw rfl rfl dX4_resize_30
  · have h := br_yes h k_3
    refine lv_bipush (v := (-2)) hx hb dX4_resize_11 (by decide) ?_
    cases h
    exact x_iret X (vp_nar_int _) hw rfl rfl dX4_resize_13

def rX4_setChill : Room := { frames := 5, cells := 0, slots := 0, locals := 107 }
theorem hd_X4_setChill : yX4_setChill.cls = RX4 ∧ yX4_setChill.cls ≠ "java/lang/invoke/MethodHandle" ∧ yX4_setChill.cls ≠ "java/lang/invoke/VarHandle" ∧ (parseMethodDescriptor yX4_setChill.desc).map (fun d => d.parameters.length) = some 2 := by decide +kernel
theorem in_X4_setChill_0 : ∀ w ∈ u_ws RX0 TX0 10, w ∈ wsX4_setChill := fun w h => (List.mem_cons_of_mem _ (List.mem_append_left _ (List.mem_append_left _ (List.mem_append_right _ h))))
theorem in_X4_setChill_4 : ∀ w ∈ u_ws RX4 TX4 6, w ∈ wsX4_setChill := fun w h => (List.mem_cons_of_mem _ (List.mem_append_left _ (List.mem_append_left _ (List.mem_append_left _ (List.mem_append_right _ h)))))
noncomputable def f_X4_setChill  (vc : CV) (vf : FV) (vh : HV) (x1 : Int32) (x2 : Int32) : Option (Int32 × CV × FV × HV) :=
  bd (f_X0_has vc x1) fun r_1 =>
  br (r_1 = 0)
    (some ((-2), vc, vf, vh))
    (bd (f_X4_isWithin x2 0 500) fun r_4 =>
     br (r_4 = 0)
       (some ((-3), vc, vf, vh))
       (bd (f_X2_keep vh vc) fun g_7 =>
        bd (f_X4_at 12 (C_ch vc) x1) fun r_9 =>
        bd (f_X4_put 12 (C_ch vc) x1 x2) fun g_11 =>
        bd (f_X1_follow vf ((C_se vc), (C_jo vc), (C_sh vc), (C_pi vc), (C_vo vc), (C_ar vc), g_11, (C_fe vc), (C_fi vc), (C_sd vc))) fun w_13 =>
        some (r_9, ((C_se vc), (C_jo vc), (C_sh vc), (C_pi vc), (C_vo vc), (C_ar vc), g_11, (C_fe vc), (C_fi vc), (C_sd vc)), w_13, g_7)))
set_option maxHeartbeats 4000000 in
set_option maxRecDepth 100000 in
theorem m_X4_setChill {G : GG} {l : Launch} {ax : Nat} {ac af ah at_ ar ad : Nat → Nat} {vc : CV} {vf : FV} {vh : HV} {x1 : Int32} {x2 : Int32} {r : Int32} {zvc : CV} {zvf : FV} {zvh : HV} (h : f_X4_setChill vc vf vh x1 x2 = some (r, zvc, zvf, zvh)) : Ci G l yX4_setChill wsX4_setChill rX4_setChill [.ref ax, .int x1, .int x2] (fl [xB ax ac af ah at_ ar ad, cB G ac vc, fB G af vf, hB G ah vh]) r (fl [xB ax ac af ah at_ ar ad, cB G ac zvc, fB G af zvf, hB G ah zvh]) := by
  refine Ci.intro cX4_setChill 4 (some .int) RX4 (by decide) rfl rfl (Nat.le_of_ble_eq_true rfl) ?_
  intro p e s m below meth c A ls X hw hl
  obtain ⟨⟨hx, hb, hml, hown, hts⟩, hK, hr, hlk, hA⟩ := id X
  unfold f_X4_setChill at h
  have hl : lv_has ls 4 [(0, .ref ax), (1, .int x1), (2, .int x2)] := hl
  refine lv_aload_n hx hb dX4_setChill_0 rfl (lv_at hl 0 rfl) ?_
  refine x_get (v := .ref (ac 0)) 0 0 X hw in_X4_setChill_4 rfl rfl rfl 0 (by decide) (List.mem_of_getElem? (i := 1) rfl) rfl rfl dX4_setChill_1 ?_
  refine lv_iload_n hx hb dX4_setChill_4 rfl (lv_at hl 1 rfl) ?_
  obtain ⟨r_1, c_2, h⟩ := bd_ok h
  refine x_Vi (As := [.int x1]) (w' := fl [xB ax ac af ah at_ ar ad, cB G ac vc, fB G af vf, hB G ah vh]) X hw (m_X0_has (G := G) (l := l) (a := ac) c_2) (Cut.blocks (bs' := [xB ax ac af ah at_ ar ad, cB G ac vc, fB G af vf, hB G ah vh]) [1] [0, 2, 3] [1, 0, 2, 3] [cB G ac vc] rfl rfl rfl rfl rfl) 1 0 rfl rfl rfl (cwV 1 hts gX4_setChill_X0_has rfl rfl rfl hd_X0_has ⟨Nat.le_of_ble_eq_true rfl, Nat.le_of_ble_eq_true rfl⟩) rfl hl.1 rfl (Nat.le_of_ble_eq_true rfl) dX4_setChill_5 ⟨Nat.le_of_ble_eq_true rfl, Nat.le_of_ble_eq_true rfl⟩ (fun H locs hw => ?_)
  refine lv_if_ne (tgt := 14) hx hb dX4_setChill_8 (by decide) (fun k_3 => ?_) (fun k_3 => ?_)
  · have h := br_no h k_3
    refine lv_iload_n hx hb dX4_setChill_14 rfl (lv_at hl 2 rfl) ?_
    refine lv_iconst (v := 0) hx hb dX4_setChill_15 (by decide) ?_
    refine lv_sipush (v := 500) hx hb dX4_setChill_16 (by decide) ?_
    obtain ⟨r_4, c_5, h⟩ := bd_ok h
    refine x_Si (As := [.int x2, .int 0, .int 500]) (w' := fl [xB ax ac af ah at_ ar ad, cB G ac vc, fB G af vf, hB G ah vh]) X hw (m_X4_isWithin (G := G) (l := l) c_5) Cut.nil (va_cwS 3 hts gX4_setChill_X4_isWithin rfl rfl rfl hd_X4_isWithin.2 ⟨Nat.le_of_ble_eq_true rfl, Nat.le_of_ble_eq_true rfl⟩) rfl hl.1 rfl (Nat.le_of_ble_eq_true rfl) dX4_setChill_19 ⟨Nat.le_of_ble_eq_true rfl, Nat.le_of_ble_eq_true rfl⟩ (fun H locs hw => ?_)
    refine lv_if_ne (tgt := 28) hx hb dX4_setChill_22 (by decide) (fun k_6 => ?_) (fun k_6 => ?_)
    · have h := br_no h k_6
      refine lv_aload_n hx hb dX4_setChill_28 rfl (lv_at hl 0 rfl) ?_
      refine x_get (v := .ref (ah 0)) 0 0 X hw in_X4_setChill_4 rfl rfl rfl 2 (by decide) (List.mem_of_getElem? (i := 2) rfl) rfl rfl dX4_setChill_29 ?_
      refine lv_aload_n hx hb dX4_setChill_32 rfl (lv_at hl 0 rfl) ?_
      refine x_get (v := .ref (ac 0)) 0 0 X hw in_X4_setChill_4 rfl rfl rfl 0 (by decide) (List.mem_of_getElem? (i := 1) rfl) rfl rfl dX4_setChill_33 ?_
      obtain ⟨g_7, c_8, h⟩ := bd_ok h
      refine x_Vv (As := [.ref (ac 0)]) (w' := fl [xB ax ac af ah at_ ar ad, cB G ac vc, fB G af vf, hB G ah g_7]) X hw (m_X2_keep (G := G) (l := l) (d := ah) (a := ac) c_8) (Cut.blocks (bs' := [xB ax ac af ah at_ ar ad, cB G ac vc, fB G af vf, hB G ah g_7]) [3, 1] [0, 2] [2, 1, 3, 0] [hB G ah g_7, cB G ac vc] rfl rfl rfl rfl rfl) 3 0 rfl rfl rfl (cwV 1 hts gX4_setChill_X2_keep rfl rfl rfl hd_X2_keep ⟨Nat.le_of_ble_eq_true rfl, Nat.le_of_ble_eq_true rfl⟩) rfl hl.1 rfl (Nat.le_of_ble_eq_true rfl) dX4_setChill_36 ⟨Nat.le_of_ble_eq_true rfl, Nat.le_of_ble_eq_true rfl⟩ (fun H locs hw => ?_)
      refine lv_aload_n hx hb dX4_setChill_39 rfl (lv_at hl 0 rfl) ?_
      refine x_get (v := .ref (ac 0)) 0 0 X hw in_X4_setChill_4 rfl rfl rfl 0 (by decide) (List.mem_of_getElem? (i := 1) rfl) rfl rfl dX4_setChill_40 ?_
      refine x_get (v := .ref (ac 3)) 1 0 X hw in_X4_setChill_0 rfl rfl rfl 6 (by decide) (List.mem_of_getElem? (i := 3) rfl) rfl rfl dX4_setChill_43 ?_
      refine lv_iload_n hx hb dX4_setChill_46 rfl (lv_at hl 1 rfl) ?_
      obtain ⟨r_9, c_10, h⟩ := bd_ok h
      refine x_Si (As := [.ref (ac 3), .int x1]) (w' := fl [xB ax ac af ah at_ ar ad, cB G ac vc, fB G af vf, hB G ah g_7]) X hw (m_X4_at (G := G) (l := l) (q := (ac 3)) c_10) (Cut.cellr 1 3 rfl rfl) (va_cwS 2 hts gX4_setChill_X4_at rfl rfl rfl hd_X4_at.2 ⟨Nat.le_of_ble_eq_true rfl, Nat.le_of_ble_eq_true rfl⟩) rfl hl.1 rfl (Nat.le_of_ble_eq_true rfl) dX4_setChill_47 ⟨Nat.le_of_ble_eq_true rfl, Nat.le_of_ble_eq_true rfl⟩ (fun H locs hw => ?_)
      refine lv_istore_n (lv' := [(3, .int r_9), (0, .ref ax), (1, .int x1), (2, .int x2)]) hx hb dX4_setChill_50 rfl hl (by decide) rfl (fun ls hl => ?_)
      refine lv_aload_n hx hb dX4_setChill_51 rfl (lv_at hl 1 rfl) ?_
      refine x_get (v := .ref (ac 0)) 0 0 X hw in_X4_setChill_4 rfl rfl rfl 0 (by decide) (List.mem_of_getElem? (i := 1) rfl) rfl rfl dX4_setChill_52 ?_
      refine x_get (v := .ref (ac 3)) 1 0 X hw in_X4_setChill_0 rfl rfl rfl 6 (by decide) (List.mem_of_getElem? (i := 3) rfl) rfl rfl dX4_setChill_55 ?_
      refine lv_iload_n hx hb dX4_setChill_58 rfl (lv_at hl 2 rfl) ?_
      refine lv_iload_n hx hb dX4_setChill_59 rfl (lv_at hl 3 rfl) ?_
      obtain ⟨g_11, c_12, h⟩ := bd_ok h
      refine x_Sv (As := [.ref (ac 3), .int x1, .int x2]) (w' := fl [xB ax ac af ah at_ ar ad, cB G ac ((C_se vc), (C_jo vc), (C_sh vc), (C_pi vc), (C_vo vc), (C_ar vc), g_11, (C_fe vc), (C_fi vc), (C_sd vc)), fB G af vf, hB G ah g_7]) X hw (m_X4_put (G := G) (l := l) (q := (ac 3)) c_12) (Cut.cell (bs' := [xB ax ac af ah at_ ar ad, cB G ac ((C_se vc), (C_jo vc), (C_sh vc), (C_pi vc), (C_vo vc), (C_ar vc), g_11, (C_fe vc), (C_fi vc), (C_sd vc)), fB G af vf, hB G ah g_7]) 1 3 rfl rfl rfl) (va_cwS 3 hts gX4_setChill_X4_put rfl rfl rfl hd_X4_put.2 ⟨Nat.le_of_ble_eq_true rfl, Nat.le_of_ble_eq_true rfl⟩) rfl hl.1 rfl (Nat.le_of_ble_eq_true rfl) dX4_setChill_60 ⟨Nat.le_of_ble_eq_true rfl, Nat.le_of_ble_eq_true rfl⟩ (fun H locs hw => ?_)
      refine lv_aload_n hx hb dX4_setChill_63 rfl (lv_at hl 1 rfl) ?_
      refine x_get (v := .ref (af 0)) 0 0 X hw in_X4_setChill_4 rfl rfl rfl 1 (by decide) (List.mem_of_getElem? (i := 4) rfl) rfl rfl dX4_setChill_64 ?_
      refine lv_aload_n hx hb dX4_setChill_67 rfl (lv_at hl 1 rfl) ?_
      refine x_get (v := .ref (ac 0)) 0 0 X hw in_X4_setChill_4 rfl rfl rfl 0 (by decide) (List.mem_of_getElem? (i := 1) rfl) rfl rfl dX4_setChill_68 ?_
      obtain ⟨w_13, c_14, h⟩ := bd_ok h
      refine x_Vv (As := [.ref (ac 0)]) (w' := fl [xB ax ac af ah at_ ar ad, cB G ac ((C_se vc), (C_jo vc), (C_sh vc), (C_pi vc), (C_vo vc), (C_ar vc), g_11, (C_fe vc), (C_fi vc), (C_sd vc)), fB G af w_13, hB G ah g_7]) X hw (m_X1_follow (G := G) (l := l) (b := af) (a := ac) c_14) (Cut.blocks (bs' := [xB ax ac af ah at_ ar ad, cB G ac ((C_se vc), (C_jo vc), (C_sh vc), (C_pi vc), (C_vo vc), (C_ar vc), g_11, (C_fe vc), (C_fi vc), (C_sd vc)), fB G af w_13, hB G ah g_7]) [2, 1] [0, 3] [2, 1, 0, 3] [fB G af w_13, cB G ac ((C_se vc), (C_jo vc), (C_sh vc), (C_pi vc), (C_vo vc), (C_ar vc), g_11, (C_fe vc), (C_fi vc), (C_sd vc))] rfl rfl rfl rfl rfl) 2 0 rfl rfl rfl (cwV 1 hts gX4_setChill_X1_follow rfl rfl rfl hd_X1_follow ⟨Nat.le_of_ble_eq_true rfl, Nat.le_of_ble_eq_true rfl⟩) rfl hl.1 rfl (Nat.le_of_ble_eq_true rfl) dX4_setChill_71 ⟨Nat.le_of_ble_eq_true rfl, Nat.le_of_ble_eq_true rfl⟩ (fun H locs hw => ?_)
      refine lv_iload_n hx hb dX4_setChill_74 rfl (lv_at hl 0 rfl) ?_
      cases h
      exact x_iret X (vp_nar_int _) hw rfl rfl dX4_setChill_75
    · have h := br_yes h k_6
      refine lv_bipush (v := (-3)) hx hb dX4_setChill_25 (by decide) ?_
      cases h
      exact x_iret X (vp_nar_int _) hw rfl rfl dX4_setChill_27
  · have h := br_yes h k_3
    refine lv_bipush (v := (-2)) hx hb dX4_setChill_11 (by decide) ?_
    cases h
    exact x_iret X (vp_nar_int _) hw rfl rfl dX4_setChill_13

def rX4_removeSection : Room := { frames := 5, cells := 0, slots := 0, locals := 107 }
theorem hd_X4_removeSection : yX4_removeSection.cls = RX4 ∧ yX4_removeSection.cls ≠ "java/lang/invoke/MethodHandle" ∧ yX4_removeSection.cls ≠ "java/lang/invoke/VarHandle" ∧ (parseMethodDescriptor yX4_removeSection.desc).map (fun d => d.parameters.length) = some 1 := by decide +kernel
theorem in_X4_removeSection_0 : ∀ w ∈ u_ws RX0 TX0 10, w ∈ wsX4_removeSection := fun w h => (List.mem_cons_of_mem _ (List.mem_append_left _ (List.mem_append_left _ (List.mem_append_right _ h))))
theorem in_X4_removeSection_4 : ∀ w ∈ u_ws RX4 TX4 6, w ∈ wsX4_removeSection := fun w h => (List.mem_cons_of_mem _ (List.mem_append_left _ (List.mem_append_left _ (List.mem_append_left _ (List.mem_append_right _ h)))))
noncomputable def f_X4_removeSection  (vc : CV) (vf : FV) (vh : HV) (x1 : Int32) : Option (Int32 × CV × FV × HV) :=
  bd (f_X0_has vc x1) fun r_1 =>
  br (r_1 = 0)
    (some ((-2), vc, vf, vh))
    (bd (f_X2_keep vh vc) fun g_4 =>
     bd (f_X0_drop vc x1) fun v_6 =>
     bd (f_X1_follow vf v_6) fun w_8 =>
     some ((C_se v_6), v_6, w_8, g_4))
set_option maxHeartbeats 4000000 in
set_option maxRecDepth 100000 in
theorem m_X4_removeSection {G : GG} {l : Launch} {ax : Nat} {ac af ah at_ ar ad : Nat → Nat} {vc : CV} {vf : FV} {vh : HV} {x1 : Int32} {r : Int32} {zvc : CV} {zvf : FV} {zvh : HV} (h : f_X4_removeSection vc vf vh x1 = some (r, zvc, zvf, zvh)) : Ci G l yX4_removeSection wsX4_removeSection rX4_removeSection [.ref ax, .int x1] (fl [xB ax ac af ah at_ ar ad, cB G ac vc, fB G af vf, hB G ah vh]) r (fl [xB ax ac af ah at_ ar ad, cB G ac zvc, fB G af zvf, hB G ah zvh]) := by
  refine Ci.intro cX4_removeSection 2 (some .int) RX4 (by decide) rfl rfl (Nat.le_of_ble_eq_true rfl) ?_
  intro p e s m below meth c A ls X hw hl
  obtain ⟨⟨hx, hb, hml, hown, hts⟩, hK, hr, hlk, hA⟩ := id X
  unfold f_X4_removeSection at h
  have hl : lv_has ls 2 [(0, .ref ax), (1, .int x1)] := hl
  refine lv_aload_n hx hb dX4_removeSection_0 rfl (lv_at hl 0 rfl) ?_
  refine x_get (v := .ref (ac 0)) 0 0 X hw in_X4_removeSection_4 rfl rfl rfl 0 (by decide) (List.mem_of_getElem? (i := 1) rfl) rfl rfl dX4_removeSection_1 ?_
  refine lv_iload_n hx hb dX4_removeSection_4 rfl (lv_at hl 1 rfl) ?_
  obtain ⟨r_1, c_2, h⟩ := bd_ok h
  refine x_Vi (As := [.int x1]) (w' := fl [xB ax ac af ah at_ ar ad, cB G ac vc, fB G af vf, hB G ah vh]) X hw (m_X0_has (G := G) (l := l) (a := ac) c_2) (Cut.blocks (bs' := [xB ax ac af ah at_ ar ad, cB G ac vc, fB G af vf, hB G ah vh]) [1] [0, 2, 3] [1, 0, 2, 3] [cB G ac vc] rfl rfl rfl rfl rfl) 1 0 rfl rfl rfl (cwV 1 hts gX4_removeSection_X0_has rfl rfl rfl hd_X0_has ⟨Nat.le_of_ble_eq_true rfl, Nat.le_of_ble_eq_true rfl⟩) rfl hl.1 rfl (Nat.le_of_ble_eq_true rfl) dX4_removeSection_5 ⟨Nat.le_of_ble_eq_true rfl, Nat.le_of_ble_eq_true rfl⟩ (fun H locs hw => ?_)
  refine lv_if_ne (tgt := 14) hx hb dX4_removeSection_8 (by decide) (fun k_3 => ?_) (fun k_3 => ?_)
  · have h := br_no h k_3
    refine lv_aload_n hx hb dX4_removeSection_14 rfl (lv_at hl 0 rfl) ?_
    refine x_get (v := .ref (ah 0)) 0 0 X hw in_X4_removeSection_4 rfl rfl rfl 2 (by decide) (List.mem_of_getElem? (i := 2) rfl) rfl rfl dX4_removeSection_15 ?_
    refine lv_aload_n hx hb dX4_removeSection_18 rfl (lv_at hl 0 rfl) ?_
    refine x_get (v := .ref (ac 0)) 0 0 X hw in_X4_removeSection_4 rfl rfl rfl 0 (by decide) (List.mem_of_getElem? (i := 1) rfl) rfl rfl dX4_removeSection_19 ?_
    obtain ⟨g_4, c_5, h⟩ := bd_ok h
    refine x_Vv (As := [.ref (ac 0)]) (w' := fl [xB ax ac af ah at_ ar ad, cB G ac vc, fB G af vf, hB G ah g_4]) X hw (m_X2_keep (G := G) (l := l) (d := ah) (a := ac) c_5) (Cut.blocks (bs' := [xB ax ac af ah at_ ar ad, cB G ac vc, fB G af vf, hB G ah g_4]) [3, 1] [0, 2] [2, 1, 3, 0] [hB G ah g_4, cB G ac vc] rfl rfl rfl rfl rfl) 3 0 rfl rfl rfl (cwV 1 hts gX4_removeSection_X2_keep rfl rfl rfl hd_X2_keep ⟨Nat.le_of_ble_eq_true rfl, Nat.le_of_ble_eq_true rfl⟩) rfl hl.1 rfl (Nat.le_of_ble_eq_true rfl) dX4_removeSection_22 ⟨Nat.le_of_ble_eq_true rfl, Nat.le_of_ble_eq_true rfl⟩ (fun H locs hw => ?_)
    refine lv_aload_n hx hb dX4_removeSection_25 rfl (lv_at hl 0 rfl) ?_
    refine x_get (v := .ref (ac 0)) 0 0 X hw in_X4_removeSection_4 rfl rfl rfl 0 (by decide) (List.mem_of_getElem? (i := 1) rfl) rfl rfl dX4_removeSection_26 ?_
    refine lv_iload_n hx hb dX4_removeSection_29 rfl (lv_at hl 1 rfl) ?_
    obtain ⟨v_6, c_7, h⟩ := bd_ok h
    refine x_Vv (As := [.int x1]) (w' := fl [xB ax ac af ah at_ ar ad, cB G ac v_6, fB G af vf, hB G ah g_4]) X hw (m_X0_drop (G := G) (l := l) (a := ac) c_7) (Cut.blocks (bs' := [xB ax ac af ah at_ ar ad, cB G ac v_6, fB G af vf, hB G ah g_4]) [1] [0, 2, 3] [1, 0, 2, 3] [cB G ac v_6] rfl rfl rfl rfl rfl) 1 0 rfl rfl rfl (cwV 1 hts gX4_removeSection_X0_drop rfl rfl rfl hd_X0_drop ⟨Nat.le_of_ble_eq_true rfl, Nat.le_of_ble_eq_true rfl⟩) rfl hl.1 rfl (Nat.le_of_ble_eq_true rfl) dX4_removeSection_30 ⟨Nat.le_of_ble_eq_true rfl, Nat.le_of_ble_eq_true rfl⟩ (fun H locs hw => ?_)
    refine lv_aload_n hx hb dX4_removeSection_33 rfl (lv_at hl 0 rfl) ?_
    refine x_get (v := .ref (af 0)) 0 0 X hw in_X4_removeSection_4 rfl rfl rfl 1 (by decide) (List.mem_of_getElem? (i := 3) rfl) rfl rfl dX4_removeSection_34 ?_
    refine lv_aload_n hx hb dX4_removeSection_37 rfl (lv_at hl 0 rfl) ?_
    refine x_get (v := .ref (ac 0)) 0 0 X hw in_X4_removeSection_4 rfl rfl rfl 0 (by decide) (List.mem_of_getElem? (i := 1) rfl) rfl rfl dX4_removeSection_38 ?_
    obtain ⟨w_8, c_9, h⟩ := bd_ok h
    refine x_Vv (As := [.ref (ac 0)]) (w' := fl [xB ax ac af ah at_ ar ad, cB G ac v_6, fB G af w_8, hB G ah g_4]) X hw (m_X1_follow (G := G) (l := l) (b := af) (a := ac) c_9) (Cut.blocks (bs' := [xB ax ac af ah at_ ar ad, cB G ac v_6, fB G af w_8, hB G ah g_4]) [2, 1] [0, 3] [2, 1, 0, 3] [fB G af w_8, cB G ac v_6] rfl rfl rfl rfl rfl) 2 0 rfl rfl rfl (cwV 1 hts gX4_removeSection_X1_follow rfl rfl rfl hd_X1_follow ⟨Nat.le_of_ble_eq_true rfl, Nat.le_of_ble_eq_true rfl⟩) rfl hl.1 rfl (Nat.le_of_ble_eq_true rfl) dX4_removeSection_41 ⟨Nat.le_of_ble_eq_true rfl, Nat.le_of_ble_eq_true rfl⟩ (fun H locs hw => ?_)
    refine lv_aload_n hx hb dX4_removeSection_44 rfl (lv_at hl 0 rfl) ?_
    refine x_get (v := .ref (ac 0)) 0 0 X hw in_X4_removeSection_4 rfl rfl rfl 0 (by decide) (List.mem_of_getElem? (i := 1) rfl) rfl rfl dX4_removeSection_45 ?_
    refine x_get (v := .int (C_se v_6)) 1 0 X hw in_X4_removeSection_0 rfl rfl rfl 0 (by decide) (List.mem_of_getElem? (i := 4) rfl) rfl rfl dX4_removeSection_48 ?_
    cases h
    exact x_iret X (vp_nar_int _) hw rfl rfl dX4_removeSection_51
  · have h := br_yes h k_3
    refine lv_bipush (v := (-2)) hx hb dX4_removeSection_11 (by decide) ?_
    cases h
    exact x_iret X (vp_nar_int _) hw rfl rfl dX4_removeSection_13

def rX4_join : Room := { frames := 5, cells := 0, slots := 0, locals := 107 }
theorem hd_X4_join : yX4_join.cls = RX4 ∧ yX4_join.cls ≠ "java/lang/invoke/MethodHandle" ∧ yX4_join.cls ≠ "java/lang/invoke/VarHandle" ∧ (parseMethodDescriptor yX4_join.desc).map (fun d => d.parameters.length) = some 2 := by decide +kernel
theorem in_X4_join_4 : ∀ w ∈ u_ws RX4 TX4 6, w ∈ wsX4_join := fun w h => (List.mem_cons_of_mem _ (List.mem_append_left _ (List.mem_append_left _ (List.mem_append_left _ (List.mem_append_right _ h)))))
noncomputable def f_X4_join  (vc : CV) (vf : FV) (vh : HV) (x1 : Int32) (x2 : Int32) : Option (Int32 × CV × FV × HV) :=
  bd (f_X0_has vc x1) fun r_1 =>
  br (r_1 = 0)
    (some ((-2), vc, vf, vh))
    (bd (f_X0_has vc x2) fun r_4 =>
     br (r_4 = 0)
       (some ((-2), vc, vf, vh))
       (bd (f_X0_canLink vc x1 x2) fun r_7 =>
        br (r_7 = 0)
          (some ((-4), vc, vf, vh))
          (bd (f_X0_hasRoomForJoint vc) fun r_10 =>
           br (r_10 = 0)
             (some ((-5), vc, vf, vh))
             (bd (f_X2_keep vh vc) fun g_13 =>
              bd2 (f_X0_link vc x1 x2) fun r_15 v_16 =>
              bd (f_X1_follow vf v_16) fun w_18 =>
              some (r_15, v_16, w_18, g_13)))))
set_option maxHeartbeats 4000000 in
set_option maxRecDepth 100000 in
theorem m_X4_join {G : GG} {l : Launch} {ax : Nat} {ac af ah at_ ar ad : Nat → Nat} {vc : CV} {vf : FV} {vh : HV} {x1 : Int32} {x2 : Int32} {r : Int32} {zvc : CV} {zvf : FV} {zvh : HV} (h : f_X4_join vc vf vh x1 x2 = some (r, zvc, zvf, zvh)) : Ci G l yX4_join wsX4_join rX4_join [.ref ax, .int x1, .int x2] (fl [xB ax ac af ah at_ ar ad, cB G ac vc, fB G af vf, hB G ah vh]) r (fl [xB ax ac af ah at_ ar ad, cB G ac zvc, fB G af zvf, hB G ah zvh]) := by
  refine Ci.intro cX4_join 4 (some .int) RX4 (by decide) rfl rfl (Nat.le_of_ble_eq_true rfl) ?_
  intro p e s m below meth c A ls X hw hl
  obtain ⟨⟨hx, hb, hml, hown, hts⟩, hK, hr, hlk, hA⟩ := id X
  unfold f_X4_join at h
  have hl : lv_has ls 4 [(0, .ref ax), (1, .int x1), (2, .int x2)] := hl
  refine lv_aload_n hx hb dX4_join_0 rfl (lv_at hl 0 rfl) ?_
  refine x_get (v := .ref (ac 0)) 0 0 X hw in_X4_join_4 rfl rfl rfl 0 (by decide) (List.mem_of_getElem? (i := 1) rfl) rfl rfl dX4_join_1 ?_
  refine lv_iload_n hx hb dX4_join_4 rfl (lv_at hl 1 rfl) ?_
  obtain ⟨r_1, c_2, h⟩ := bd_ok h
  refine x_Vi (As := [.int x1]) (w' := fl [xB ax ac af ah at_ ar ad, cB G ac vc, fB G af vf, hB G ah vh]) X hw (m_X0_has (G := G) (l := l) (a := ac) c_2) (Cut.blocks (bs' := [xB ax ac af ah at_ ar ad, cB G ac vc, fB G af vf, hB G ah vh]) [1] [0, 2, 3] [1, 0, 2, 3] [cB G ac vc] rfl rfl rfl rfl rfl) 1 0 rfl rfl rfl (cwV 1 hts gX4_join_X0_has rfl rfl rfl hd_X0_has ⟨Nat.le_of_ble_eq_true rfl, Nat.le_of_ble_eq_true rfl⟩) rfl hl.1 rfl (Nat.le_of_ble_eq_true rfl) dX4_join_5 ⟨Nat.le_of_ble_eq_true rfl, Nat.le_of_ble_eq_true rfl⟩ (fun H locs hw => ?_)
  refine lv_if_eq (tgt := 22) hx hb dX4_join_8 (by decide) (fun k_3 => ?_) (fun k_3 => ?_)
  · have h := br_yes h k_3
    refine lv_bipush (v := (-2)) hx hb dX4_join_22 (by decide) ?_
    cases h
    exact x_iret X (vp_nar_int _) hw rfl rfl dX4_join_24
  · have h := br_no h k_3
    refine lv_aload_n hx hb dX4_join_11 rfl (lv_at hl 0 rfl) ?_
    refine x_get (v := .ref (ac 0)) 0 0 X hw in_X4_join_4 rfl rfl rfl 0 (by decide) (List.mem_of_getElem? (i := 1) rfl) rfl rfl dX4_join_12 ?_
    refine lv_iload_n hx hb dX4_join_15 rfl (lv_at hl 2 rfl) ?_
    obtain ⟨r_4, c_5, h⟩ := bd_ok h
    refine x_Vi (As := [.int x2]) (w' := fl [xB ax ac af ah at_ ar ad, cB G ac vc, fB G af vf, hB G ah vh]) X hw (m_X0_has (G := G) (l := l) (a := ac) c_5) (Cut.blocks (bs' := [xB ax ac af ah at_ ar ad, cB G ac vc, fB G af vf, hB G ah vh]) [1] [0, 2, 3] [1, 0, 2, 3] [cB G ac vc] rfl rfl rfl rfl rfl) 1 0 rfl rfl rfl (cwV 1 hts gX4_join_X0_has rfl rfl rfl hd_X0_has ⟨Nat.le_of_ble_eq_true rfl, Nat.le_of_ble_eq_true rfl⟩) rfl hl.1 rfl (Nat.le_of_ble_eq_true rfl) dX4_join_16 ⟨Nat.le_of_ble_eq_true rfl, Nat.le_of_ble_eq_true rfl⟩ (fun H locs hw => ?_)
    refine lv_if_ne (tgt := 25) hx hb dX4_join_19 (by decide) (fun k_6 => ?_) (fun k_6 => ?_)
    · have h := br_no h k_6
      refine lv_aload_n hx hb dX4_join_25 rfl (lv_at hl 0 rfl) ?_
      refine x_get (v := .ref (ac 0)) 0 0 X hw in_X4_join_4 rfl rfl rfl 0 (by decide) (List.mem_of_getElem? (i := 1) rfl) rfl rfl dX4_join_26 ?_
      refine lv_iload_n hx hb dX4_join_29 rfl (lv_at hl 1 rfl) ?_
      refine lv_iload_n hx hb dX4_join_30 rfl (lv_at hl 2 rfl) ?_
      obtain ⟨r_7, c_8, h⟩ := bd_ok h
      refine x_Vi (As := [.int x1, .int x2]) (w' := fl [xB ax ac af ah at_ ar ad, cB G ac vc, fB G af vf, hB G ah vh]) X hw (m_X0_canLink (G := G) (l := l) (a := ac) c_8) (Cut.blocks (bs' := [xB ax ac af ah at_ ar ad, cB G ac vc, fB G af vf, hB G ah vh]) [1] [0, 2, 3] [1, 0, 2, 3] [cB G ac vc] rfl rfl rfl rfl rfl) 1 0 rfl rfl rfl (cwV 2 hts gX4_join_X0_canLink rfl rfl rfl hd_X0_canLink ⟨Nat.le_of_ble_eq_true rfl, Nat.le_of_ble_eq_true rfl⟩) rfl hl.1 rfl (Nat.le_of_ble_eq_true rfl) dX4_join_31 ⟨Nat.le_of_ble_eq_true rfl, Nat.le_of_ble_eq_true rfl⟩ (fun H locs hw => ?_)
      refine lv_if_ne (tgt := 40) hx hb dX4_join_34 (by decide) (fun k_9 => ?_) (fun k_9 => ?_)
      · have h := br_no h k_9
        refine lv_aload_n hx hb dX4_join_40 rfl (lv_at hl 0 rfl) ?_
        refine x_get (v := .ref (ac 0)) 0 0 X hw in_X4_join_4 rfl rfl rfl 0 (by decide) (List.mem_of_getElem? (i := 1) rfl) rfl rfl dX4_join_41 ?_
        obtain ⟨r_10, c_11, h⟩ := bd_ok h
        refine x_Vi (As := []) (w' := fl [xB ax ac af ah at_ ar ad, cB G ac vc, fB G af vf, hB G ah vh]) X hw (m_X0_hasRoomForJoint (G := G) (l := l) (a := ac) c_11) (Cut.blocks (bs' := [xB ax ac af ah at_ ar ad, cB G ac vc, fB G af vf, hB G ah vh]) [1] [0, 2, 3] [1, 0, 2, 3] [cB G ac vc] rfl rfl rfl rfl rfl) 1 0 rfl rfl rfl (cwV 0 hts gX4_join_X0_hasRoomForJoint rfl rfl rfl hd_X0_hasRoomForJoint ⟨Nat.le_of_ble_eq_true rfl, Nat.le_of_ble_eq_true rfl⟩) rfl hl.1 rfl (Nat.le_of_ble_eq_true rfl) dX4_join_44 ⟨Nat.le_of_ble_eq_true rfl, Nat.le_of_ble_eq_true rfl⟩ (fun H locs hw => ?_)
        refine lv_if_ne (tgt := 53) hx hb dX4_join_47 (by decide) (fun k_12 => ?_) (fun k_12 => ?_)
        · have h := br_no h k_12
          refine lv_aload_n hx hb dX4_join_53 rfl (lv_at hl 0 rfl) ?_
          refine x_get (v := .ref (ah 0)) 0 0 X hw in_X4_join_4 rfl rfl rfl 2 (by decide) (List.mem_of_getElem? (i := 2) rfl) rfl rfl dX4_join_54 ?_
          refine lv_aload_n hx hb dX4_join_57 rfl (lv_at hl 0 rfl) ?_
          refine x_get (v := .ref (ac 0)) 0 0 X hw in_X4_join_4 rfl rfl rfl 0 (by decide) (List.mem_of_getElem? (i := 1) rfl) rfl rfl dX4_join_58 ?_
          obtain ⟨g_13, c_14, h⟩ := bd_ok h
          refine x_Vv (As := [.ref (ac 0)]) (w' := fl [xB ax ac af ah at_ ar ad, cB G ac vc, fB G af vf, hB G ah g_13]) X hw (m_X2_keep (G := G) (l := l) (d := ah) (a := ac) c_14) (Cut.blocks (bs' := [xB ax ac af ah at_ ar ad, cB G ac vc, fB G af vf, hB G ah g_13]) [3, 1] [0, 2] [2, 1, 3, 0] [hB G ah g_13, cB G ac vc] rfl rfl rfl rfl rfl) 3 0 rfl rfl rfl (cwV 1 hts gX4_join_X2_keep rfl rfl rfl hd_X2_keep ⟨Nat.le_of_ble_eq_true rfl, Nat.le_of_ble_eq_true rfl⟩) rfl hl.1 rfl (Nat.le_of_ble_eq_true rfl) dX4_join_61 ⟨Nat.le_of_ble_eq_true rfl, Nat.le_of_ble_eq_true rfl⟩ (fun H locs hw => ?_)
          refine lv_aload_n hx hb dX4_join_64 rfl (lv_at hl 0 rfl) ?_
          refine x_get (v := .ref (ac 0)) 0 0 X hw in_X4_join_4 rfl rfl rfl 0 (by decide) (List.mem_of_getElem? (i := 1) rfl) rfl rfl dX4_join_65 ?_
          refine lv_iload_n hx hb dX4_join_68 rfl (lv_at hl 1 rfl) ?_
          refine lv_iload_n hx hb dX4_join_69 rfl (lv_at hl 2 rfl) ?_
          obtain ⟨r_15, v_16, c_17, h⟩ := bd2_ok h
          refine x_Vi (As := [.int x1, .int x2]) (w' := fl [xB ax ac af ah at_ ar ad, cB G ac v_16, fB G af vf, hB G ah g_13]) X hw (m_X0_link (G := G) (l := l) (a := ac) c_17) (Cut.blocks (bs' := [xB ax ac af ah at_ ar ad, cB G ac v_16, fB G af vf, hB G ah g_13]) [1] [0, 2, 3] [1, 0, 2, 3] [cB G ac v_16] rfl rfl rfl rfl rfl) 1 0 rfl rfl rfl (cwV 2 hts gX4_join_X0_link rfl rfl rfl hd_X0_link ⟨Nat.le_of_ble_eq_true rfl, Nat.le_of_ble_eq_true rfl⟩) rfl hl.1 rfl (Nat.le_of_ble_eq_true rfl) dX4_join_70 ⟨Nat.le_of_ble_eq_true rfl, Nat.le_of_ble_eq_true rfl⟩ (fun H locs hw => ?_)
          refine lv_istore_n (lv' := [(3, .int r_15), (0, .ref ax), (1, .int x1), (2, .int x2)]) hx hb dX4_join_73 rfl hl (by decide) rfl (fun ls hl => ?_)
          refine lv_aload_n hx hb dX4_join_74 rfl (lv_at hl 1 rfl) ?_
          refine x_get (v := .ref (af 0)) 0 0 X hw in_X4_join_4 rfl rfl rfl 1 (by decide) (List.mem_of_getElem? (i := 3) rfl) rfl rfl dX4_join_75 ?_
          refine lv_aload_n hx hb dX4_join_78 rfl (lv_at hl 1 rfl) ?_
          refine x_get (v := .ref (ac 0)) 0 0 X hw in_X4_join_4 rfl rfl rfl 0 (by decide) (List.mem_of_getElem? (i := 1) rfl) rfl rfl dX4_join_79 ?_
          obtain ⟨w_18, c_19, h⟩ := bd_ok h
          refine x_Vv (As := [.ref (ac 0)]) (w' := fl [xB ax ac af ah at_ ar ad, cB G ac v_16, fB G af w_18, hB G ah g_13]) X hw (m_X1_follow (G := G) (l := l) (b := af) (a := ac) c_19) (Cut.blocks (bs' := [xB ax ac af ah at_ ar ad, cB G ac v_16, fB G af w_18, hB G ah g_13]) [2, 1] [0, 3] [2, 1, 0, 3] [fB G af w_18, cB G ac v_16] rfl rfl rfl rfl rfl) 2 0 rfl rfl rfl (cwV 1 hts gX4_join_X1_follow rfl rfl rfl hd_X1_follow ⟨Nat.le_of_ble_eq_true rfl, Nat.le_of_ble_eq_true rfl⟩) rfl hl.1 rfl (Nat.le_of_ble_eq_true rfl) dX4_join_82 ⟨Nat.le_of_ble_eq_true rfl, Nat.le_of_ble_eq_true rfl⟩ (fun H locs hw => ?_)
          refine lv_iload_n hx hb dX4_join_85 rfl (lv_at hl 0 rfl) ?_
          cases h
          exact x_iret X (vp_nar_int _) hw rfl rfl dX4_join_86
        · have h := br_yes h k_12
          refine lv_bipush (v := (-5)) hx hb dX4_join_50 (by decide) ?_
          cases h
          exact x_iret X (vp_nar_int _) hw rfl rfl dX4_join_52
      · have h := br_yes h k_9
        refine lv_bipush (v := (-4)) hx hb dX4_join_37 (by decide) ?_
        cases h
        exact x_iret X (vp_nar_int _) hw rfl rfl dX4_join_39
    · have h := br_yes h k_6
      refine lv_bipush (v := (-2)) hx hb dX4_join_22 (by decide) ?_
      cases h
      exact x_iret X (vp_nar_int _) hw rfl rfl dX4_join_24

def rX4_part : Room := { frames := 5, cells := 0, slots := 0, locals := 107 }
theorem hd_X4_part : yX4_part.cls = RX4 ∧ yX4_part.cls ≠ "java/lang/invoke/MethodHandle" ∧ yX4_part.cls ≠ "java/lang/invoke/VarHandle" ∧ (parseMethodDescriptor yX4_part.desc).map (fun d => d.parameters.length) = some 1 := by decide +kernel
theorem in_X4_part_0 : ∀ w ∈ u_ws RX0 TX0 10, w ∈ wsX4_part := fun w h => (List.mem_cons_of_mem _ (List.mem_append_left _ (List.mem_append_left _ (List.mem_append_right _ h))))
theorem in_X4_part_4 : ∀ w ∈ u_ws RX4 TX4 6, w ∈ wsX4_part := fun w h => (List.mem_cons_of_mem _ (List.mem_append_left _ (List.mem_append_left _ (List.mem_append_left _ (List.mem_append_right _ h)))))
noncomputable def f_X4_part  (vc : CV) (vf : FV) (vh : HV) (x1 : Int32) : Option (Int32 × CV × FV × HV) :=
  bd (f_X0_hasJoint vc x1) fun r_1 =>
  br (r_1 = 0)
    (some ((-2), vc, vf, vh))
    (bd (f_X2_keep vh vc) fun g_4 =>
     bd (f_X0_unlink vc x1) fun v_6 =>
     bd (f_X1_follow vf v_6) fun w_8 =>
     some ((C_jo v_6), v_6, w_8, g_4))
set_option maxHeartbeats 4000000 in
set_option maxRecDepth 100000 in
theorem m_X4_part {G : GG} {l : Launch} {ax : Nat} {ac af ah at_ ar ad : Nat → Nat} {vc : CV} {vf : FV} {vh : HV} {x1 : Int32} {r : Int32} {zvc : CV} {zvf : FV} {zvh : HV} (h : f_X4_part vc vf vh x1 = some (r, zvc, zvf, zvh)) : Ci G l yX4_part wsX4_part rX4_part [.ref ax, .int x1] (fl [xB ax ac af ah at_ ar ad, cB G ac vc, fB G af vf, hB G ah vh]) r (fl [xB ax ac af ah at_ ar ad, cB G ac zvc, fB G af zvf, hB G ah zvh]) := by
  refine Ci.intro cX4_part 2 (some .int) RX4 (by decide) rfl rfl (Nat.le_of_ble_eq_true rfl) ?_
  intro p e s m below meth c A ls X hw hl
  obtain ⟨⟨hx, hb, hml, hown, hts⟩, hK, hr, hlk, hA⟩ := id X
  unfold f_X4_part at h
  have hl : lv_has ls 2 [(0, .ref ax), (1, .int x1)] := hl
  refine lv_aload_n hx hb dX4_part_0 rfl (lv_at hl 0 rfl) ?_
  refine x_get (v := .ref (ac 0)) 0 0 X hw in_X4_part_4 rfl rfl rfl 0 (by decide) (List.mem_of_getElem? (i := 1) rfl) rfl rfl dX4_part_1 ?_
  refine lv_iload_n hx hb dX4_part_4 rfl (lv_at hl 1 rfl) ?_
  obtain ⟨r_1, c_2, h⟩ := bd_ok h
  refine x_Vi (As := [.int x1]) (w' := fl [xB ax ac af ah at_ ar ad, cB G ac vc, fB G af vf, hB G ah vh]) X hw (m_X0_hasJoint (G := G) (l := l) (a := ac) c_2) (Cut.blocks (bs' := [xB ax ac af ah at_ ar ad, cB G ac vc, fB G af vf, hB G ah vh]) [1] [0, 2, 3] [1, 0, 2, 3] [cB G ac vc] rfl rfl rfl rfl rfl) 1 0 rfl rfl rfl (cwV 1 hts gX4_part_X0_hasJoint rfl rfl rfl hd_X0_hasJoint ⟨Nat.le_of_ble_eq_true rfl, Nat.le_of_ble_eq_true rfl⟩) rfl hl.1 rfl (Nat.le_of_ble_eq_true rfl) dX4_part_5 ⟨Nat.le_of_ble_eq_true rfl, Nat.le_of_ble_eq_true rfl⟩ (fun H locs hw => ?_)
  refine lv_if_ne (tgt := 14) hx hb dX4_part_8 (by decide) (fun k_3 => ?_) (fun k_3 => ?_)
  · have h := br_no h k_3
    refine lv_aload_n hx hb dX4_part_14 rfl (lv_at hl 0 rfl) ?_
    refine x_get (v := .ref (ah 0)) 0 0 X hw in_X4_part_4 rfl rfl rfl 2 (by decide) (List.mem_of_getElem? (i := 2) rfl) rfl rfl dX4_part_15 ?_
    refine lv_aload_n hx hb dX4_part_18 rfl (lv_at hl 0 rfl) ?_
    refine x_get (v := .ref (ac 0)) 0 0 X hw in_X4_part_4 rfl rfl rfl 0 (by decide) (List.mem_of_getElem? (i := 1) rfl) rfl rfl dX4_part_19 ?_
    obtain ⟨g_4, c_5, h⟩ := bd_ok h
    refine x_Vv (As := [.ref (ac 0)]) (w' := fl [xB ax ac af ah at_ ar ad, cB G ac vc, fB G af vf, hB G ah g_4]) X hw (m_X2_keep (G := G) (l := l) (d := ah) (a := ac) c_5) (Cut.blocks (bs' := [xB ax ac af ah at_ ar ad, cB G ac vc, fB G af vf, hB G ah g_4]) [3, 1] [0, 2] [2, 1, 3, 0] [hB G ah g_4, cB G ac vc] rfl rfl rfl rfl rfl) 3 0 rfl rfl rfl (cwV 1 hts gX4_part_X2_keep rfl rfl rfl hd_X2_keep ⟨Nat.le_of_ble_eq_true rfl, Nat.le_of_ble_eq_true rfl⟩) rfl hl.1 rfl (Nat.le_of_ble_eq_true rfl) dX4_part_22 ⟨Nat.le_of_ble_eq_true rfl, Nat.le_of_ble_eq_true rfl⟩ (fun H locs hw => ?_)
    refine lv_aload_n hx hb dX4_part_25 rfl (lv_at hl 0 rfl) ?_
    refine x_get (v := .ref (ac 0)) 0 0 X hw in_X4_part_4 rfl rfl rfl 0 (by decide) (List.mem_of_getElem? (i := 1) rfl) rfl rfl dX4_part_26 ?_
    refine lv_iload_n hx hb dX4_part_29 rfl (lv_at hl 1 rfl) ?_
    obtain ⟨v_6, c_7, h⟩ := bd_ok h
    refine x_Vv (As := [.int x1]) (w' := fl [xB ax ac af ah at_ ar ad, cB G ac v_6, fB G af vf, hB G ah g_4]) X hw (m_X0_unlink (G := G) (l := l) (a := ac) c_7) (Cut.blocks (bs' := [xB ax ac af ah at_ ar ad, cB G ac v_6, fB G af vf, hB G ah g_4]) [1] [0, 2, 3] [1, 0, 2, 3] [cB G ac v_6] rfl rfl rfl rfl rfl) 1 0 rfl rfl rfl (cwV 1 hts gX4_part_X0_unlink rfl rfl rfl hd_X0_unlink ⟨Nat.le_of_ble_eq_true rfl, Nat.le_of_ble_eq_true rfl⟩) rfl hl.1 rfl (Nat.le_of_ble_eq_true rfl) dX4_part_30 ⟨Nat.le_of_ble_eq_true rfl, Nat.le_of_ble_eq_true rfl⟩ (fun H locs hw => ?_)
    refine lv_aload_n hx hb dX4_part_33 rfl (lv_at hl 0 rfl) ?_
    refine x_get (v := .ref (af 0)) 0 0 X hw in_X4_part_4 rfl rfl rfl 1 (by decide) (List.mem_of_getElem? (i := 3) rfl) rfl rfl dX4_part_34 ?_
    refine lv_aload_n hx hb dX4_part_37 rfl (lv_at hl 0 rfl) ?_
    refine x_get (v := .ref (ac 0)) 0 0 X hw in_X4_part_4 rfl rfl rfl 0 (by decide) (List.mem_of_getElem? (i := 1) rfl) rfl rfl dX4_part_38 ?_
    obtain ⟨w_8, c_9, h⟩ := bd_ok h
    refine x_Vv (As := [.ref (ac 0)]) (w' := fl [xB ax ac af ah at_ ar ad, cB G ac v_6, fB G af w_8, hB G ah g_4]) X hw (m_X1_follow (G := G) (l := l) (b := af) (a := ac) c_9) (Cut.blocks (bs' := [xB ax ac af ah at_ ar ad, cB G ac v_6, fB G af w_8, hB G ah g_4]) [2, 1] [0, 3] [2, 1, 0, 3] [fB G af w_8, cB G ac v_6] rfl rfl rfl rfl rfl) 2 0 rfl rfl rfl (cwV 1 hts gX4_part_X1_follow rfl rfl rfl hd_X1_follow ⟨Nat.le_of_ble_eq_true rfl, Nat.le_of_ble_eq_true rfl⟩) rfl hl.1 rfl (Nat.le_of_ble_eq_true rfl) dX4_part_41 ⟨Nat.le_of_ble_eq_true rfl, Nat.le_of_ble_eq_true rfl⟩ (fun H locs hw => ?_)
    refine lv_aload_n hx hb dX4_part_44 rfl (lv_at hl 0 rfl) ?_
    refine x_get (v := .ref (ac 0)) 0 0 X hw in_X4_part_4 rfl rfl rfl 0 (by decide) (List.mem_of_getElem? (i := 1) rfl) rfl rfl dX4_part_45 ?_
    refine x_get (v := .int (C_jo v_6)) 1 0 X hw in_X4_part_0 rfl rfl rfl 1 (by decide) (List.mem_of_getElem? (i := 4) rfl) rfl rfl dX4_part_48 ?_
    cases h
    exact x_iret X (vp_nar_int _) hw rfl rfl dX4_part_51
  · have h := br_yes h k_3
    refine lv_bipush (v := (-2)) hx hb dX4_part_11 (by decide) ?_
    cases h
    exact x_iret X (vp_nar_int _) hw rfl rfl dX4_part_13

def rX4_setMetal : Room := { frames := 5, cells := 0, slots := 0, locals := 107 }
theorem hd_X4_setMetal : yX4_setMetal.cls = RX4 ∧ yX4_setMetal.cls ≠ "java/lang/invoke/MethodHandle" ∧ yX4_setMetal.cls ≠ "java/lang/invoke/VarHandle" ∧ (parseMethodDescriptor yX4_setMetal.desc).map (fun d => d.parameters.length) = some 2 := by decide +kernel
theorem in_X4_setMetal_0 : ∀ w ∈ u_ws RX0 TX0 10, w ∈ wsX4_setMetal := fun w h => (List.mem_cons_of_mem _ (List.mem_append_left _ (List.mem_append_left _ (List.mem_append_right _ h))))
theorem in_X4_setMetal_4 : ∀ w ∈ u_ws RX4 TX4 6, w ∈ wsX4_setMetal := fun w h => (List.mem_cons_of_mem _ (List.mem_append_left _ (List.mem_append_left _ (List.mem_append_left _ (List.mem_append_right _ h)))))
noncomputable def f_X4_setMetal  (vc : CV) (vf : FV) (vh : HV) (x1 : Int32) (x2 : Int32) : Option (Int32 × CV × FV × HV) :=
  bd (f_X4_isWithin x1 0 200) fun r_1 =>
  br (r_1 = 0)
    (some ((-3), vc, vf, vh))
    (bd (f_X4_isWithin x2 0 500) fun r_4 =>
     br (r_4 = 0)
       (some ((-3), vc, vf, vh))
       (bd (f_X2_keep vh vc) fun g_7 =>
        bd (f_X1_follow vf ((C_se vc), (C_jo vc), x1, x2, (C_vo vc), (C_ar vc), (C_ch vc), (C_fe vc), (C_fi vc), (C_sd vc))) fun w_9 =>
        some ((C_sh vc), ((C_se vc), (C_jo vc), x1, x2, (C_vo vc), (C_ar vc), (C_ch vc), (C_fe vc), (C_fi vc), (C_sd vc)), w_9, g_7)))
set_option maxHeartbeats 4000000 in
set_option maxRecDepth 100000 in
theorem m_X4_setMetal {G : GG} {l : Launch} {ax : Nat} {ac af ah at_ ar ad : Nat → Nat} {vc : CV} {vf : FV} {vh : HV} {x1 : Int32} {x2 : Int32} {r : Int32} {zvc : CV} {zvf : FV} {zvh : HV} (h : f_X4_setMetal vc vf vh x1 x2 = some (r, zvc, zvf, zvh)) : Ci G l yX4_setMetal wsX4_setMetal rX4_setMetal [.ref ax, .int x1, .int x2] (fl [xB ax ac af ah at_ ar ad, cB G ac vc, fB G af vf, hB G ah vh]) r (fl [xB ax ac af ah at_ ar ad, cB G ac zvc, fB G af zvf, hB G ah zvh]) := by
  refine Ci.intro cX4_setMetal 4 (some .int) RX4 (by decide) rfl rfl (Nat.le_of_ble_eq_true rfl) ?_
  intro p e s m below meth c A ls X hw hl
  obtain ⟨⟨hx, hb, hml, hown, hts⟩, hK, hr, hlk, hA⟩ := id X
  unfold f_X4_setMetal at h
  have hl : lv_has ls 4 [(0, .ref ax), (1, .int x1), (2, .int x2)] := hl
  refine lv_iload_n hx hb dX4_setMetal_0 rfl (lv_at hl 1 rfl) ?_
  refine lv_iconst (v := 0) hx hb dX4_setMetal_1 (by decide) ?_
  refine lv_sipush (v := 200) hx hb dX4_setMetal_2 (by decide) ?_
  obtain ⟨r_1, c_2, h⟩ := bd_ok h
  refine x_Si (As := [.int x1, .int 0, .int 200]) (w' := fl [xB ax ac af ah at_ ar ad, cB G ac vc, fB G af vf, hB G ah vh]) X hw (m_X4_isWithin (G := G) (l := l) c_2) Cut.nil (va_cwS 3 hts gX4_setMetal_X4_isWithin rfl rfl rfl hd_X4_isWithin.2 ⟨Nat.le_of_ble_eq_true rfl, Nat.le_of_ble_eq_true rfl⟩) rfl hl.1 rfl (Nat.le_of_ble_eq_true rfl) dX4_setMetal_5 ⟨Nat.le_of_ble_eq_true rfl, Nat.le_of_ble_eq_true rfl⟩ (fun H locs hw => ?_)
  refine lv_if_eq (tgt := 22) hx hb dX4_setMetal_8 (by decide) (fun k_3 => ?_) (fun k_3 => ?_)
  · have h := br_yes h k_3
    refine lv_bipush (v := (-3)) hx hb dX4_setMetal_22 (by decide) ?_
    cases h
    exact x_iret X (vp_nar_int _) hw rfl rfl dX4_setMetal_24
  · have h := br_no h k_3
    refine lv_iload_n hx hb dX4_setMetal_11 rfl (lv_at hl 2 rfl) ?_
    refine lv_iconst (v := 0) hx hb dX4_setMetal_12 (by decide) ?_
    refine lv_sipush (v := 500) hx hb dX4_setMetal_13 (by decide) ?_
    obtain ⟨r_4, c_5, h⟩ := bd_ok h
    refine x_Si (As := [.int x2, .int 0, .int 500]) (w' := fl [xB ax ac af ah at_ ar ad, cB G ac vc, fB G af vf, hB G ah vh]) X hw (m_X4_isWithin (G := G) (l := l) c_5) Cut.nil (va_cwS 3 hts gX4_setMetal_X4_isWithin rfl rfl rfl hd_X4_isWithin.2 ⟨Nat.le_of_ble_eq_true rfl, Nat.le_of_ble_eq_true rfl⟩) rfl hl.1 rfl (Nat.le_of_ble_eq_true rfl) dX4_setMetal_16 ⟨Nat.le_of_ble_eq_true rfl, Nat.le_of_ble_eq_true rfl⟩ (fun H locs hw => ?_)
    refine lv_if_ne (tgt := 25) hx hb dX4_setMetal_19 (by decide) (fun k_6 => ?_) (fun k_6 => ?_)
    · have h := br_no h k_6
      refine lv_aload_n hx hb dX4_setMetal_25 rfl (lv_at hl 0 rfl) ?_
      refine x_get (v := .ref (ah 0)) 0 0 X hw in_X4_setMetal_4 rfl rfl rfl 2 (by decide) (List.mem_of_getElem? (i := 1) rfl) rfl rfl dX4_setMetal_26 ?_
      refine lv_aload_n hx hb dX4_setMetal_29 rfl (lv_at hl 0 rfl) ?_
      refine x_get (v := .ref (ac 0)) 0 0 X hw in_X4_setMetal_4 rfl rfl rfl 0 (by decide) (List.mem_of_getElem? (i := 2) rfl) rfl rfl dX4_setMetal_30 ?_
      obtain ⟨g_7, c_8, h⟩ := bd_ok h
      refine x_Vv (As := [.ref (ac 0)]) (w' := fl [xB ax ac af ah at_ ar ad, cB G ac vc, fB G af vf, hB G ah g_7]) X hw (m_X2_keep (G := G) (l := l) (d := ah) (a := ac) c_8) (Cut.blocks (bs' := [xB ax ac af ah at_ ar ad, cB G ac vc, fB G af vf, hB G ah g_7]) [3, 1] [0, 2] [2, 1, 3, 0] [hB G ah g_7, cB G ac vc] rfl rfl rfl rfl rfl) 3 0 rfl rfl rfl (cwV 1 hts gX4_setMetal_X2_keep rfl rfl rfl hd_X2_keep ⟨Nat.le_of_ble_eq_true rfl, Nat.le_of_ble_eq_true rfl⟩) rfl hl.1 rfl (Nat.le_of_ble_eq_true rfl) dX4_setMetal_33 ⟨Nat.le_of_ble_eq_true rfl, Nat.le_of_ble_eq_true rfl⟩ (fun H locs hw => ?_)
      refine lv_aload_n hx hb dX4_setMetal_36 rfl (lv_at hl 0 rfl) ?_
      refine x_get (v := .ref (ac 0)) 0 0 X hw in_X4_setMetal_4 rfl rfl rfl 0 (by decide) (List.mem_of_getElem? (i := 2) rfl) rfl rfl dX4_setMetal_37 ?_
      refine x_get (v := .int (C_sh vc)) 1 0 X hw in_X4_setMetal_0 rfl rfl rfl 2 (by decide) (List.mem_of_getElem? (i := 3) rfl) rfl rfl dX4_setMetal_40 ?_
      refine lv_istore_n (lv' := [(3, .int (C_sh vc)), (0, .ref ax), (1, .int x1), (2, .int x2)]) hx hb dX4_setMetal_43 rfl hl (by decide) rfl (fun ls hl => ?_)
      refine lv_aload_n hx hb dX4_setMetal_44 rfl (lv_at hl 1 rfl) ?_
      refine x_get (v := .ref (ac 0)) 0 0 X hw in_X4_setMetal_4 rfl rfl rfl 0 (by decide) (List.mem_of_getElem? (i := 2) rfl) rfl rfl dX4_setMetal_45 ?_
      refine lv_iload_n hx hb dX4_setMetal_48 rfl (lv_at hl 2 rfl) ?_
      refine x_put (bs' := [xB ax ac af ah at_ ar ad, cB G ac ((C_se vc), (C_jo vc), x1, (C_pi vc), (C_vo vc), (C_ar vc), (C_ch vc), (C_fe vc), (C_fi vc), (C_sd vc)), fB G af vf, hB G ah g_7]) 1 0 X hw in_X4_setMetal_0 tyX0 tyX0_ok nmX0 rfl rfl rfl 2 (by decide) (List.mem_of_getElem? (i := 3) rfl) rfl rfl rfl rfl (Nat.le_of_ble_eq_true rfl) dX4_setMetal_49 rfl (fun H locs hw => ?_)
      refine lv_aload_n hx hb dX4_setMetal_52 rfl (lv_at hl 1 rfl) ?_
      refine x_get (v := .ref (ac 0)) 0 0 X hw in_X4_setMetal_4 rfl rfl rfl 0 (by decide) (List.mem_of_getElem? (i := 2) rfl) rfl rfl dX4_setMetal_53 ?_
      refine lv_iload_n hx hb dX4_setMetal_56 rfl (lv_at hl 3 rfl) ?_
      refine x_put (bs' := [xB ax ac af ah at_ ar ad, cB G ac ((C_se vc), (C_jo vc), x1, x2, (C_vo vc), (C_ar vc), (C_ch vc), (C_fe vc), (C_fi vc), (C_sd vc)), fB G af vf, hB G ah g_7]) 1 0 X hw in_X4_setMetal_0 tyX0 tyX0_ok nmX0 rfl rfl rfl 3 (by decide) (List.mem_of_getElem? (i := 4) rfl) rfl rfl rfl rfl (Nat.le_of_ble_eq_true rfl) dX4_setMetal_57 rfl (fun H locs hw => ?_)
      refine lv_aload_n hx hb dX4_setMetal_60 rfl (lv_at hl 1 rfl) ?_
      refine x_get (v := .ref (af 0)) 0 0 X hw in_X4_setMetal_4 rfl rfl rfl 1 (by decide) (List.mem_of_getElem? (i := 5) rfl) rfl rfl dX4_setMetal_61 ?_
      refine lv_aload_n hx hb dX4_setMetal_64 rfl (lv_at hl 1 rfl) ?_
      refine x_get (v := .ref (ac 0)) 0 0 X hw in_X4_setMetal_4 rfl rfl rfl 0 (by decide) (List.mem_of_getElem? (i := 2) rfl) rfl rfl dX4_setMetal_65 ?_
      obtain ⟨w_9, c_10, h⟩ := bd_ok h
      refine x_Vv (As := [.ref (ac 0)]) (w' := fl [xB ax ac af ah at_ ar ad, cB G ac ((C_se vc), (C_jo vc), x1, x2, (C_vo vc), (C_ar vc), (C_ch vc), (C_fe vc), (C_fi vc), (C_sd vc)), fB G af w_9, hB G ah g_7]) X hw (m_X1_follow (G := G) (l := l) (b := af) (a := ac) c_10) (Cut.blocks (bs' := [xB ax ac af ah at_ ar ad, cB G ac ((C_se vc), (C_jo vc), x1, x2, (C_vo vc), (C_ar vc), (C_ch vc), (C_fe vc), (C_fi vc), (C_sd vc)), fB G af w_9, hB G ah g_7]) [2, 1] [0, 3] [2, 1, 0, 3] [fB G af w_9, cB G ac ((C_se vc), (C_jo vc), x1, x2, (C_vo vc), (C_ar vc), (C_ch vc), (C_fe vc), (C_fi vc), (C_sd vc))] rfl rfl rfl rfl rfl) 2 0 rfl rfl rfl (cwV 1 hts gX4_setMetal_X1_follow rfl rfl rfl hd_X1_follow ⟨Nat.le_of_ble_eq_true rfl, Nat.le_of_ble_eq_true rfl⟩) rfl hl.1 rfl (Nat.le_of_ble_eq_true rfl) dX4_setMetal_68 ⟨Nat.le_of_ble_eq_true rfl, Nat.le_of_ble_eq_true rfl⟩ (fun H locs hw => ?_)
      refine lv_iload_n hx hb dX4_setMetal_71 rfl (lv_at hl 0 rfl) ?_
      cases h
      exact x_iret X (vp_nar_int _) hw rfl rfl dX4_setMetal_72
    · have h := br_yes h k_6
      refine lv_bipush (v := (-3)) hx hb dX4_setMetal_22 (by decide) ?_
      cases h
      exact x_iret X (vp_nar_int _) hw rfl rfl dX4_setMetal_24

def rX4_count : Room := { frames := 3, cells := 0, slots := 0, locals := 65 }
theorem hd_X4_count : yX4_count.cls = RX4 ∧ yX4_count.cls ≠ "java/lang/invoke/MethodHandle" ∧ yX4_count.cls ≠ "java/lang/invoke/VarHandle" ∧ (parseMethodDescriptor yX4_count.desc).map (fun d => d.parameters.length) = some 1 := by decide +kernel
theorem in_X4_count_0 : ∀ w ∈ u_ws RX0 TX0 10, w ∈ wsX4_count := fun w h => (List.mem_cons_of_mem _ (List.mem_append_left _ (List.mem_append_right _ h)))
theorem in_X4_count_1 : ∀ w ∈ u_ws RX1 TX1 7, w ∈ wsX4_count := fun w h => (List.mem_cons_of_mem _ (List.mem_append_right _ h))
theorem in_X4_count_4 : ∀ w ∈ u_ws RX4 TX4 6, w ∈ wsX4_count := fun w h => (List.mem_cons_of_mem _ (List.mem_append_left _ (List.mem_append_left _ (List.mem_append_right _ h))))
noncomputable def f_X4_count  (vc : CV) (vf : FV) (x1 : Int32) : Option (Int32) :=
  br (x1 = 0)
    (some ((C_se vc)))
  (
  br (x1 = 1)
    (some ((C_jo vc)))
  (
  br (x1 = 2)
    (some ((C_sh vc)))
  (
  br (x1 = 3)
    (some ((C_pi vc)))
  (
  br (x1 = 4)
    (bd (f_X0_feeders vc) fun r_6 =>
     some (r_6))
  (
  br (x1 = 5)
    (bd (f_X1_fedBy vf (-1)) fun r_9 =>
     some (r_9))
  (
  br (x1 = 6)
    (bd (f_X4_sum 12 (F_po vf) (C_se vc)) fun r_12 =>
     some (r_12))
  (
  br (x1 = 7)
    (bd (f_X1_excessOfAll vf) fun r_15 =>
     some (r_15))
  (
  br (x1 = 8)
    (bd (f_X0_yieldPerMille vc) fun r_18 =>
     some (r_18))
  (
  br (x1 = 9)
    (bd (f_X1_isSound vf) fun r_21 =>
     br (r_21 = 0)
       (some (0))
       (some (1)))
  (
  some ((-3))
  ))))))))))
set_option maxHeartbeats 4000000 in
set_option maxRecDepth 100000 in
theorem m_X4_count {G : GG} {l : Launch} {ax : Nat} {ac af ah at_ ar ad : Nat → Nat} {vc : CV} {vf : FV} {x1 : Int32} {r : Int32}  (h : f_X4_count vc vf x1 = some (r)) : Ci G l yX4_count wsX4_count rX4_count [.ref ax, .int x1] (fl [xB ax ac af ah at_ ar ad, cB G ac vc, fB G af vf]) r (fl [xB ax ac af ah at_ ar ad, cB G ac vc, fB G af vf]) := by
  refine Ci.intro cX4_count 2 (some .int) RX4 (by decide) rfl rfl (Nat.le_of_ble_eq_true rfl) ?_
  intro p e s m below meth c A ls X hw hl
  obtain ⟨⟨hx, hb, hml, hown, hts⟩, hK, hr, hlk, hA⟩ := id X
  unfold f_X4_count at h
  have hl : lv_has ls 2 [(0, .ref ax), (1, .int x1)] := hl
  refine lv_iload_n hx hb dX4_count_0 rfl (lv_at hl 1 rfl) ?_
  by_cases k_1 : x1 = 0
  · have h := br_yes h k_1
    refine lv_tableIn (tgt := 56) hx hb dX4_count_1 (by rw [k_1]; decide) (by rw [k_1]; decide) (by rw [k_1]; rfl) (by decide) ?_
    refine lv_aload_n hx hb dX4_count_56 rfl (lv_at hl 0 rfl) ?_
    refine x_get (v := .ref (ac 0)) 0 0 X hw in_X4_count_4 rfl rfl rfl 0 (by decide) (List.mem_of_getElem? (i := 1) rfl) rfl rfl dX4_count_57 ?_
    refine x_get (v := .int (C_se vc)) 1 0 X hw in_X4_count_0 rfl rfl rfl 0 (by decide) (List.mem_of_getElem? (i := 2) rfl) rfl rfl dX4_count_60 ?_
    cases h
    exact x_iret X (vp_nar_int _) hw rfl rfl dX4_count_63
  · have h := br_no h k_1
    by_cases k_2 : x1 = 1
    · have h := br_yes h k_2
      refine lv_tableIn (tgt := 64) hx hb dX4_count_1 (by rw [k_2]; decide) (by rw [k_2]; decide) (by rw [k_2]; rfl) (by decide) ?_
      refine lv_aload_n hx hb dX4_count_64 rfl (lv_at hl 0 rfl) ?_
      refine x_get (v := .ref (ac 0)) 0 0 X hw in_X4_count_4 rfl rfl rfl 0 (by decide) (List.mem_of_getElem? (i := 1) rfl) rfl rfl dX4_count_65 ?_
      refine x_get (v := .int (C_jo vc)) 1 0 X hw in_X4_count_0 rfl rfl rfl 1 (by decide) (List.mem_of_getElem? (i := 3) rfl) rfl rfl dX4_count_68 ?_
      cases h
      exact x_iret X (vp_nar_int _) hw rfl rfl dX4_count_71
    · have h := br_no h k_2
      by_cases k_3 : x1 = 2
      · have h := br_yes h k_3
        refine lv_tableIn (tgt := 72) hx hb dX4_count_1 (by rw [k_3]; decide) (by rw [k_3]; decide) (by rw [k_3]; rfl) (by decide) ?_
        refine lv_aload_n hx hb dX4_count_72 rfl (lv_at hl 0 rfl) ?_
        refine x_get (v := .ref (ac 0)) 0 0 X hw in_X4_count_4 rfl rfl rfl 0 (by decide) (List.mem_of_getElem? (i := 1) rfl) rfl rfl dX4_count_73 ?_
        refine x_get (v := .int (C_sh vc)) 1 0 X hw in_X4_count_0 rfl rfl rfl 2 (by decide) (List.mem_of_getElem? (i := 4) rfl) rfl rfl dX4_count_76 ?_
        cases h
        exact x_iret X (vp_nar_int _) hw rfl rfl dX4_count_79
      · have h := br_no h k_3
        by_cases k_4 : x1 = 3
        · have h := br_yes h k_4
          refine lv_tableIn (tgt := 80) hx hb dX4_count_1 (by rw [k_4]; decide) (by rw [k_4]; decide) (by rw [k_4]; rfl) (by decide) ?_
          refine lv_aload_n hx hb dX4_count_80 rfl (lv_at hl 0 rfl) ?_
          refine x_get (v := .ref (ac 0)) 0 0 X hw in_X4_count_4 rfl rfl rfl 0 (by decide) (List.mem_of_getElem? (i := 1) rfl) rfl rfl dX4_count_81 ?_
          refine x_get (v := .int (C_pi vc)) 1 0 X hw in_X4_count_0 rfl rfl rfl 3 (by decide) (List.mem_of_getElem? (i := 5) rfl) rfl rfl dX4_count_84 ?_
          cases h
          exact x_iret X (vp_nar_int _) hw rfl rfl dX4_count_87
        · have h := br_no h k_4
          by_cases k_5 : x1 = 4
          · have h := br_yes h k_5
            refine lv_tableIn (tgt := 88) hx hb dX4_count_1 (by rw [k_5]; decide) (by rw [k_5]; decide) (by rw [k_5]; rfl) (by decide) ?_
            refine lv_aload_n hx hb dX4_count_88 rfl (lv_at hl 0 rfl) ?_
            refine x_get (v := .ref (ac 0)) 0 0 X hw in_X4_count_4 rfl rfl rfl 0 (by decide) (List.mem_of_getElem? (i := 1) rfl) rfl rfl dX4_count_89 ?_
            obtain ⟨r_6, c_7, h⟩ := bd_ok h
            refine x_Vi (As := []) (w' := fl [xB ax ac af ah at_ ar ad, cB G ac vc, fB G af vf]) X hw (m_X0_feeders (G := G) (l := l) (a := ac) c_7) (Cut.blocks (bs' := [xB ax ac af ah at_ ar ad, cB G ac vc, fB G af vf]) [1] [0, 2] [1, 0, 2] [cB G ac vc] rfl rfl rfl rfl rfl) 1 0 rfl rfl rfl (cwV 0 hts gX4_count_X0_feeders rfl rfl rfl hd_X0_feeders ⟨Nat.le_of_ble_eq_true rfl, Nat.le_of_ble_eq_true rfl⟩) rfl hl.1 rfl (Nat.le_of_ble_eq_true rfl) dX4_count_92 ⟨Nat.le_of_ble_eq_true rfl, Nat.le_of_ble_eq_true rfl⟩ (fun H locs hw => ?_)
            cases h
            exact x_iret X (vp_nar_int _) hw rfl rfl dX4_count_95
          · have h := br_no h k_5
            by_cases k_8 : x1 = 5
            · have h := br_yes h k_8
              refine lv_tableIn (tgt := 96) hx hb dX4_count_1 (by rw [k_8]; decide) (by rw [k_8]; decide) (by rw [k_8]; rfl) (by decide) ?_
              refine lv_aload_n hx hb dX4_count_96 rfl (lv_at hl 0 rfl) ?_
              refine x_get (v := .ref (af 0)) 0 0 X hw in_X4_count_4 rfl rfl rfl 1 (by decide) (List.mem_of_getElem? (i := 6) rfl) rfl rfl dX4_count_97 ?_
              refine lv_iconst (v := (-1)) hx hb dX4_count_100 (by decide) ?_
              obtain ⟨r_9, c_10, h⟩ := bd_ok h
              refine x_Vi (As := [.int (-1)]) (w' := fl [xB ax ac af ah at_ ar ad, cB G ac vc, fB G af vf]) X hw (m_X1_fedBy (G := G) (l := l) (b := af) c_10) (Cut.blocks (bs' := [xB ax ac af ah at_ ar ad, cB G ac vc, fB G af vf]) [2] [0, 1] [1, 2, 0] [fB G af vf] rfl rfl rfl rfl rfl) 2 0 rfl rfl rfl (cwV 1 hts gX4_count_X1_fedBy rfl rfl rfl hd_X1_fedBy ⟨Nat.le_of_ble_eq_true rfl, Nat.le_of_ble_eq_true rfl⟩) rfl hl.1 rfl (Nat.le_of_ble_eq_true rfl) dX4_count_101 ⟨Nat.le_of_ble_eq_true rfl, Nat.le_of_ble_eq_true rfl⟩ (fun H locs hw => ?_)
              cases h
              exact x_iret X (vp_nar_int _) hw rfl rfl dX4_count_104
            · have h := br_no h k_8
              by_cases k_11 : x1 = 6
              · have h := br_yes h k_11
                refine lv_tableIn (tgt := 105) hx hb dX4_count_1 (by rw [k_11]; decide) (by rw [k_11]; decide) (by rw [k_11]; rfl) (by decide) ?_
                refine lv_aload_n hx hb dX4_count_105 rfl (lv_at hl 0 rfl) ?_
                refine x_get (v := .ref (af 0)) 0 0 X hw in_X4_count_4 rfl rfl rfl 1 (by decide) (List.mem_of_getElem? (i := 6) rfl) rfl rfl dX4_count_106 ?_
                refine x_get (v := .ref (af 5)) 2 0 X hw in_X4_count_1 rfl rfl rfl 5 (by decide) (List.mem_of_getElem? (i := 7) rfl) rfl rfl dX4_count_109 ?_
                refine lv_aload_n hx hb dX4_count_112 rfl (lv_at hl 0 rfl) ?_
                refine x_get (v := .ref (ac 0)) 0 0 X hw in_X4_count_4 rfl rfl rfl 0 (by decide) (List.mem_of_getElem? (i := 1) rfl) rfl rfl dX4_count_113 ?_
                refine x_get (v := .int (C_se vc)) 1 0 X hw in_X4_count_0 rfl rfl rfl 0 (by decide) (List.mem_of_getElem? (i := 2) rfl) rfl rfl dX4_count_116 ?_
                obtain ⟨r_12, c_13, h⟩ := bd_ok h
                refine x_Si (As := [.ref (af 5), .int (C_se vc)]) (w' := fl [xB ax ac af ah at_ ar ad, cB G ac vc, fB G af vf]) X hw (m_X4_sum (G := G) (l := l) (q := (af 5)) c_13) (Cut.cellr 2 5 rfl rfl) (va_cwS 2 hts gX4_count_X4_sum rfl rfl rfl hd_X4_sum.2 ⟨Nat.le_of_ble_eq_true rfl, Nat.le_of_ble_eq_true rfl⟩) rfl hl.1 rfl (Nat.le_of_ble_eq_true rfl) dX4_count_119 ⟨Nat.le_of_ble_eq_true rfl, Nat.le_of_ble_eq_true rfl⟩ (fun H locs hw => ?_)
                cases h
                exact x_iret X (vp_nar_int _) hw rfl rfl dX4_count_122
              · have h := br_no h k_11
                by_cases k_14 : x1 = 7
                · have h := br_yes h k_14
                  refine lv_tableIn (tgt := 123) hx hb dX4_count_1 (by rw [k_14]; decide) (by rw [k_14]; decide) (by rw [k_14]; rfl) (by decide) ?_
                  refine lv_aload_n hx hb dX4_count_123 rfl (lv_at hl 0 rfl) ?_
                  refine x_get (v := .ref (af 0)) 0 0 X hw in_X4_count_4 rfl rfl rfl 1 (by decide) (List.mem_of_getElem? (i := 6) rfl) rfl rfl dX4_count_124 ?_
                  obtain ⟨r_15, c_16, h⟩ := bd_ok h
                  refine x_Vi (As := []) (w' := fl [xB ax ac af ah at_ ar ad, cB G ac vc, fB G af vf]) X hw (m_X1_excessOfAll (G := G) (l := l) (b := af) c_16) (Cut.blocks (bs' := [xB ax ac af ah at_ ar ad, cB G ac vc, fB G af vf]) [2] [0, 1] [1, 2, 0] [fB G af vf] rfl rfl rfl rfl rfl) 2 0 rfl rfl rfl (cwV 0 hts gX4_count_X1_excessOfAll rfl rfl rfl hd_X1_excessOfAll ⟨Nat.le_of_ble_eq_true rfl, Nat.le_of_ble_eq_true rfl⟩) rfl hl.1 rfl (Nat.le_of_ble_eq_true rfl) dX4_count_127 ⟨Nat.le_of_ble_eq_true rfl, Nat.le_of_ble_eq_true rfl⟩ (fun H locs hw => ?_)
                  cases h
                  exact x_iret X (vp_nar_int _) hw rfl rfl dX4_count_130
                · have h := br_no h k_14
                  by_cases k_17 : x1 = 8
                  · have h := br_yes h k_17
                    refine lv_tableIn (tgt := 131) hx hb dX4_count_1 (by rw [k_17]; decide) (by rw [k_17]; decide) (by rw [k_17]; rfl) (by decide) ?_
                    refine lv_aload_n hx hb dX4_count_131 rfl (lv_at hl 0 rfl) ?_
                    refine x_get (v := .ref (ac 0)) 0 0 X hw in_X4_count_4 rfl rfl rfl 0 (by decide) (List.mem_of_getElem? (i := 1) rfl) rfl rfl dX4_count_132 ?_
                    obtain ⟨r_18, c_19, h⟩ := bd_ok h
                    refine x_Vi (As := []) (w' := fl [xB ax ac af ah at_ ar ad, cB G ac vc, fB G af vf]) X hw (m_X0_yieldPerMille (G := G) (l := l) (a := ac) c_19) (Cut.blocks (bs' := [xB ax ac af ah at_ ar ad, cB G ac vc, fB G af vf]) [1] [0, 2] [1, 0, 2] [cB G ac vc] rfl rfl rfl rfl rfl) 1 0 rfl rfl rfl (cwV 0 hts gX4_count_X0_yieldPerMille rfl rfl rfl hd_X0_yieldPerMille ⟨Nat.le_of_ble_eq_true rfl, Nat.le_of_ble_eq_true rfl⟩) rfl hl.1 rfl (Nat.le_of_ble_eq_true rfl) dX4_count_135 ⟨Nat.le_of_ble_eq_true rfl, Nat.le_of_ble_eq_true rfl⟩ (fun H locs hw => ?_)
                    cases h
                    exact x_iret X (vp_nar_int _) hw rfl rfl dX4_count_138
                  · have h := br_no h k_17
                    by_cases k_20 : x1 = 9
                    · have h := br_yes h k_20
                      refine lv_tableIn (tgt := 139) hx hb dX4_count_1 (by rw [k_20]; decide) (by rw [k_20]; decide) (by rw [k_20]; rfl) (by decide) ?_
                      refine lv_aload_n hx hb dX4_count_139 rfl (lv_at hl 0 rfl) ?_
                      refine x_get (v := .ref (af 0)) 0 0 X hw in_X4_count_4 rfl rfl rfl 1 (by decide) (List.mem_of_getElem? (i := 6) rfl) rfl rfl dX4_count_140 ?_
                      obtain ⟨r_21, c_22, h⟩ := bd_ok h
                      refine x_Vi (As := []) (w' := fl [xB ax ac af ah at_ ar ad, cB G ac vc, fB G af vf]) X hw (m_X1_isSound (G := G) (l := l) (b := af) c_22) (Cut.blocks (bs' := [xB ax ac af ah at_ ar ad, cB G ac vc, fB G af vf]) [2] [0, 1] [1, 2, 0] [fB G af vf] rfl rfl rfl rfl rfl) 2 0 rfl rfl rfl (cwV 0 hts gX4_count_X1_isSound rfl rfl rfl hd_X1_isSound ⟨Nat.le_of_ble_eq_true rfl, Nat.le_of_ble_eq_true rfl⟩) rfl hl.1 rfl (Nat.le_of_ble_eq_true rfl) dX4_count_143 ⟨Nat.le_of_ble_eq_true rfl, Nat.le_of_ble_eq_true rfl⟩ (fun H locs hw => ?_)
                      refine lv_if_eq (tgt := 153) hx hb dX4_count_146 (by decide) (fun k_23 => ?_) (fun k_23 => ?_)
                      · have h := br_yes h k_23
                        refine lv_iconst (v := 0) hx hb dX4_count_153 (by decide) ?_
                        cases h
                        exact x_iret X (vp_nar_int _) hw rfl rfl dX4_count_154
                      · have h := br_no h k_23
                        refine lv_iconst (v := 1) hx hb dX4_count_149 (by decide) ?_
                        refine lv_goto (tgt := 154) hx hb dX4_count_150 (by decide) ?_
                        cases h
                        exact x_iret X (vp_nar_int _) hw rfl rfl dX4_count_154
                    · have h := br_no h k_20
                      have nk_1 := lv_neT k_1 (show (0 : Int32).toInt = 0 by decide)
                      have nk_2 := lv_neT k_2 (show (1 : Int32).toInt = 1 by decide)
                      have nk_3 := lv_neT k_3 (show (2 : Int32).toInt = 2 by decide)
                      have nk_4 := lv_neT k_4 (show (3 : Int32).toInt = 3 by decide)
                      have nk_5 := lv_neT k_5 (show (4 : Int32).toInt = 4 by decide)
                      have nk_8 := lv_neT k_8 (show (5 : Int32).toInt = 5 by decide)
                      have nk_11 := lv_neT k_11 (show (6 : Int32).toInt = 6 by decide)
                      have nk_14 := lv_neT k_14 (show (7 : Int32).toInt = 7 by decide)
                      have nk_17 := lv_neT k_17 (show (8 : Int32).toInt = 8 by decide)
                      have nk_20 := lv_neT k_20 (show (9 : Int32).toInt = 9 by decide)
                      refine lv_tableOut (tgt := 155) hx hb dX4_count_1 (by omega) (by decide) ?_
                      refine lv_bipush (v := (-3)) hx hb dX4_count_155 (by decide) ?_
                      cases h
                      exact x_iret X (vp_nar_int _) hw rfl rfl dX4_count_157

def rX4_section : Room := { frames := 3, cells := 0, slots := 0, locals := 66 }
theorem hd_X4_section : yX4_section.cls = RX4 ∧ yX4_section.cls ≠ "java/lang/invoke/MethodHandle" ∧ yX4_section.cls ≠ "java/lang/invoke/VarHandle" ∧ (parseMethodDescriptor yX4_section.desc).map (fun d => d.parameters.length) = some 2 := by decide +kernel
theorem in_X4_section_0 : ∀ w ∈ u_ws RX0 TX0 10, w ∈ wsX4_section := fun w h => (List.mem_cons_of_mem _ (List.mem_append_left _ (List.mem_append_right _ h)))
theorem in_X4_section_1 : ∀ w ∈ u_ws RX1 TX1 7, w ∈ wsX4_section := fun w h => (List.mem_cons_of_mem _ (List.mem_append_right _ h))
theorem in_X4_section_4 : ∀ w ∈ u_ws RX4 TX4 6, w ∈ wsX4_section := fun w h => (List.mem_cons_of_mem _ (List.mem_append_left _ (List.mem_append_left _ (List.mem_append_right _ h))))
noncomputable def f_X4_section  (vc : CV) (vf : FV) (x1 : Int32) (x2 : Int32) : Option (Int32) :=
  bd (f_X0_has vc x1) fun r_1 =>
  br (r_1 = 0)
    (some ((-2)))
    (br (x2 = 0)
       (bd (f_X4_at 12 (C_vo vc) x1) fun r_5 =>
        some (r_5))
     (
     br (x2 = 1)
       (bd (f_X4_at 12 (C_ar vc) x1) fun r_8 =>
        some (r_8))
     (
     br (x2 = 2)
       (bd (f_X4_at 12 (C_ch vc) x1) fun r_11 =>
        some (r_11))
     (
     br (x2 = 3)
       (bd (f_X0_isFeeder vc x1) fun r_14 =>
        br (r_14 = 0)
          (some (0))
          (some (1)))
     (
     br (x2 = 4)
       (bd (f_X4_at 12 (F_st vf) x1) fun r_18 =>
        some (r_18))
     (
     br (x2 = 5)
       (bd (f_X4_at 12 (F_ne vf) x1) fun r_21 =>
        some (r_21))
     (
     br (x2 = 6)
       (bd (f_X4_at 12 (F_po vf) x1) fun r_24 =>
        some (r_24))
     (
     br (x2 = 7)
       (bd (f_X4_at 12 (F_ex vf) x1) fun r_27 =>
        some (r_27))
     (
     br (x2 = 8)
       (bd (f_X4_at 12 (F_so vf) x1) fun r_30 =>
        some (r_30))
     (
     br (x2 = 9)
       (bd (f_X1_fedBy vf x1) fun r_33 =>
        some (r_33))
     (
     br (x2 = 10)
       (bd (f_X0_neighbours vc x1) fun r_36 =>
        some (r_36))
     (
     some ((-3))
     ))))))))))))
set_option maxHeartbeats 4000000 in
set_option maxRecDepth 100000 in
theorem m_X4_section {G : GG} {l : Launch} {ax : Nat} {ac af ah at_ ar ad : Nat → Nat} {vc : CV} {vf : FV} {x1 : Int32} {x2 : Int32} {r : Int32}  (h : f_X4_section vc vf x1 x2 = some (r)) : Ci G l yX4_section wsX4_section rX4_section [.ref ax, .int x1, .int x2] (fl [xB ax ac af ah at_ ar ad, cB G ac vc, fB G af vf]) r (fl [xB ax ac af ah at_ ar ad, cB G ac vc, fB G af vf]) := by
  refine Ci.intro cX4_section 3 (some .int) RX4 (by decide) rfl rfl (Nat.le_of_ble_eq_true rfl) ?_
  intro p e s m below meth c A ls X hw hl
  obtain ⟨⟨hx, hb, hml, hown, hts⟩, hK, hr, hlk, hA⟩ := id X
  unfold f_X4_section at h
  have hl : lv_has ls 3 [(0, .ref ax), (1, .int x1), (2, .int x2)] := hl
  refine lv_aload_n hx hb dX4_section_0 rfl (lv_at hl 0 rfl) ?_
  refine x_get (v := .ref (ac 0)) 0 0 X hw in_X4_section_4 rfl rfl rfl 0 (by decide) (List.mem_of_getElem? (i := 1) rfl) rfl rfl dX4_section_1 ?_
  refine lv_iload_n hx hb dX4_section_4 rfl (lv_at hl 1 rfl) ?_
  obtain ⟨r_1, c_2, h⟩ := bd_ok h
  refine x_Vi (As := [.int x1]) (w' := fl [xB ax ac af ah at_ ar ad, cB G ac vc, fB G af vf]) X hw (m_X0_has (G := G) (l := l) (a := ac) c_2) (Cut.blocks (bs' := [xB ax ac af ah at_ ar ad, cB G ac vc, fB G af vf]) [1] [0, 2] [1, 0, 2] [cB G ac vc] rfl rfl rfl rfl rfl) 1 0 rfl rfl rfl (cwV 1 hts gX4_section_X0_has rfl rfl rfl hd_X0_has ⟨Nat.le_of_ble_eq_true rfl, Nat.le_of_ble_eq_true rfl⟩) rfl hl.1 rfl (Nat.le_of_ble_eq_true rfl) dX4_section_5 ⟨Nat.le_of_ble_eq_true rfl, Nat.le_of_ble_eq_true rfl⟩ (fun H locs hw => ?_)
  refine lv_if_ne (tgt := 14) hx hb dX4_section_8 (by decide) (fun k_3 => ?_) (fun k_3 => ?_)
  · have h := br_no h k_3
    refine lv_iload_n hx hb dX4_section_14 rfl (lv_at hl 2 rfl) ?_
    by_cases k_4 : x2 = 0
    · have h := br_yes h k_4
      refine lv_tableIn (tgt := 72) hx hb dX4_section_15 (by rw [k_4]; decide) (by rw [k_4]; decide) (by rw [k_4]; rfl) (by decide) ?_
      refine lv_aload_n hx hb dX4_section_72 rfl (lv_at hl 0 rfl) ?_
      refine x_get (v := .ref (ac 0)) 0 0 X hw in_X4_section_4 rfl rfl rfl 0 (by decide) (List.mem_of_getElem? (i := 1) rfl) rfl rfl dX4_section_73 ?_
      refine x_get (v := .ref (ac 1)) 1 0 X hw in_X4_section_0 rfl rfl rfl 4 (by decide) (List.mem_of_getElem? (i := 2) rfl) rfl rfl dX4_section_76 ?_
      refine lv_iload_n hx hb dX4_section_79 rfl (lv_at hl 1 rfl) ?_
      obtain ⟨r_5, c_6, h⟩ := bd_ok h
      refine x_Si (As := [.ref (ac 1), .int x1]) (w' := fl [xB ax ac af ah at_ ar ad, cB G ac vc, fB G af vf]) X hw (m_X4_at (G := G) (l := l) (q := (ac 1)) c_6) (Cut.cellr 1 1 rfl rfl) (va_cwS 2 hts gX4_section_X4_at rfl rfl rfl hd_X4_at.2 ⟨Nat.le_of_ble_eq_true rfl, Nat.le_of_ble_eq_true rfl⟩) rfl hl.1 rfl (Nat.le_of_ble_eq_true rfl) dX4_section_80 ⟨Nat.le_of_ble_eq_true rfl, Nat.le_of_ble_eq_true rfl⟩ (fun H locs hw => ?_)
      cases h
      exact x_iret X (vp_nar_int _) hw rfl rfl dX4_section_83
    · have h := br_no h k_4
      by_cases k_7 : x2 = 1
      · have h := br_yes h k_7
        refine lv_tableIn (tgt := 84) hx hb dX4_section_15 (by rw [k_7]; decide) (by rw [k_7]; decide) (by rw [k_7]; rfl) (by decide) ?_
        refine lv_aload_n hx hb dX4_section_84 rfl (lv_at hl 0 rfl) ?_
        refine x_get (v := .ref (ac 0)) 0 0 X hw in_X4_section_4 rfl rfl rfl 0 (by decide) (List.mem_of_getElem? (i := 1) rfl) rfl rfl dX4_section_85 ?_
        refine x_get (v := .ref (ac 2)) 1 0 X hw in_X4_section_0 rfl rfl rfl 5 (by decide) (List.mem_of_getElem? (i := 3) rfl) rfl rfl dX4_section_88 ?_
        refine lv_iload_n hx hb dX4_section_91 rfl (lv_at hl 1 rfl) ?_
        obtain ⟨r_8, c_9, h⟩ := bd_ok h
        refine x_Si (As := [.ref (ac 2), .int x1]) (w' := fl [xB ax ac af ah at_ ar ad, cB G ac vc, fB G af vf]) X hw (m_X4_at (G := G) (l := l) (q := (ac 2)) c_9) (Cut.cellr 1 2 rfl rfl) (va_cwS 2 hts gX4_section_X4_at rfl rfl rfl hd_X4_at.2 ⟨Nat.le_of_ble_eq_true rfl, Nat.le_of_ble_eq_true rfl⟩) rfl hl.1 rfl (Nat.le_of_ble_eq_true rfl) dX4_section_92 ⟨Nat.le_of_ble_eq_true rfl, Nat.le_of_ble_eq_true rfl⟩ (fun H locs hw => ?_)
        cases h
        exact x_iret X (vp_nar_int _) hw rfl rfl dX4_section_95
      · have h := br_no h k_7
        by_cases k_10 : x2 = 2
        · have h := br_yes h k_10
          refine lv_tableIn (tgt := 96) hx hb dX4_section_15 (by rw [k_10]; decide) (by rw [k_10]; decide) (by rw [k_10]; rfl) (by decide) ?_
          refine lv_aload_n hx hb dX4_section_96 rfl (lv_at hl 0 rfl) ?_
          refine x_get (v := .ref (ac 0)) 0 0 X hw in_X4_section_4 rfl rfl rfl 0 (by decide) (List.mem_of_getElem? (i := 1) rfl) rfl rfl dX4_section_97 ?_
          refine x_get (v := .ref (ac 3)) 1 0 X hw in_X4_section_0 rfl rfl rfl 6 (by decide) (List.mem_of_getElem? (i := 4) rfl) rfl rfl dX4_section_100 ?_
          refine lv_iload_n hx hb dX4_section_103 rfl (lv_at hl 1 rfl) ?_
          obtain ⟨r_11, c_12, h⟩ := bd_ok h
          refine x_Si (As := [.ref (ac 3), .int x1]) (w' := fl [xB ax ac af ah at_ ar ad, cB G ac vc, fB G af vf]) X hw (m_X4_at (G := G) (l := l) (q := (ac 3)) c_12) (Cut.cellr 1 3 rfl rfl) (va_cwS 2 hts gX4_section_X4_at rfl rfl rfl hd_X4_at.2 ⟨Nat.le_of_ble_eq_true rfl, Nat.le_of_ble_eq_true rfl⟩) rfl hl.1 rfl (Nat.le_of_ble_eq_true rfl) dX4_section_104 ⟨Nat.le_of_ble_eq_true rfl, Nat.le_of_ble_eq_true rfl⟩ (fun H locs hw => ?_)
          cases h
          exact x_iret X (vp_nar_int _) hw rfl rfl dX4_section_107
        · have h := br_no h k_10
          by_cases k_13 : x2 = 3
          · have h := br_yes h k_13
            refine lv_tableIn (tgt := 108) hx hb dX4_section_15 (by rw [k_13]; decide) (by rw [k_13]; decide) (by rw [k_13]; rfl) (by decide) ?_
            refine lv_aload_n hx hb dX4_section_108 rfl (lv_at hl 0 rfl) ?_
            refine x_get (v := .ref (ac 0)) 0 0 X hw in_X4_section_4 rfl rfl rfl 0 (by decide) (List.mem_of_getElem? (i := 1) rfl) rfl rfl dX4_section_109 ?_
            refine lv_iload_n hx hb dX4_section_112 rfl (lv_at hl 1 rfl) ?_
            obtain ⟨r_14, c_15, h⟩ := bd_ok h
            refine x_Vi (As := [.int x1]) (w' := fl [xB ax ac af ah at_ ar ad, cB G ac vc, fB G af vf]) X hw (m_X0_isFeeder (G := G) (l := l) (a := ac) c_15) (Cut.blocks (bs' := [xB ax ac af ah at_ ar ad, cB G ac vc, fB G af vf]) [1] [0, 2] [1, 0, 2] [cB G ac vc] rfl rfl rfl rfl rfl) 1 0 rfl rfl rfl (cwV 1 hts gX4_section_X0_isFeeder rfl rfl rfl hd_X0_isFeeder ⟨Nat.le_of_ble_eq_true rfl, Nat.le_of_ble_eq_true rfl⟩) rfl hl.1 rfl (Nat.le_of_ble_eq_true rfl) dX4_section_113 ⟨Nat.le_of_ble_eq_true rfl, Nat.le_of_ble_eq_true rfl⟩ (fun H locs hw => ?_)
            refine lv_if_eq (tgt := 123) hx hb dX4_section_116 (by decide) (fun k_16 => ?_) (fun k_16 => ?_)
            · have h := br_yes h k_16
              refine lv_iconst (v := 0) hx hb dX4_section_123 (by decide) ?_
              cases h
              exact x_iret X (vp_nar_int _) hw rfl rfl dX4_section_124
            · have h := br_no h k_16
              refine lv_iconst (v := 1) hx hb dX4_section_119 (by decide) ?_
              refine lv_goto (tgt := 124) hx hb dX4_section_120 (by decide) ?_
              cases h
              exact x_iret X (vp_nar_int _) hw rfl rfl dX4_section_124
          · have h := br_no h k_13
            by_cases k_17 : x2 = 4
            · have h := br_yes h k_17
              refine lv_tableIn (tgt := 125) hx hb dX4_section_15 (by rw [k_17]; decide) (by rw [k_17]; decide) (by rw [k_17]; rfl) (by decide) ?_
              refine lv_aload_n hx hb dX4_section_125 rfl (lv_at hl 0 rfl) ?_
              refine x_get (v := .ref (af 0)) 0 0 X hw in_X4_section_4 rfl rfl rfl 1 (by decide) (List.mem_of_getElem? (i := 5) rfl) rfl rfl dX4_section_126 ?_
              refine x_get (v := .ref (af 1)) 2 0 X hw in_X4_section_1 rfl rfl rfl 1 (by decide) (List.mem_of_getElem? (i := 6) rfl) rfl rfl dX4_section_129 ?_
              refine lv_iload_n hx hb dX4_section_132 rfl (lv_at hl 1 rfl) ?_
              obtain ⟨r_18, c_19, h⟩ := bd_ok h
              refine x_Si (As := [.ref (af 1), .int x1]) (w' := fl [xB ax ac af ah at_ ar ad, cB G ac vc, fB G af vf]) X hw (m_X4_at (G := G) (l := l) (q := (af 1)) c_19) (Cut.cellr 2 1 rfl rfl) (va_cwS 2 hts gX4_section_X4_at rfl rfl rfl hd_X4_at.2 ⟨Nat.le_of_ble_eq_true rfl, Nat.le_of_ble_eq_true rfl⟩) rfl hl.1 rfl (Nat.le_of_ble_eq_true rfl) dX4_section_133 ⟨Nat.le_of_ble_eq_true rfl, Nat.le_of_ble_eq_true rfl⟩ (fun H locs hw => ?_)
              cases h
              exact x_iret X (vp_nar_int _) hw rfl rfl dX4_section_136
            · have h := br_no h k_17
              by_cases k_20 : x2 = 5
              · have h := br_yes h k_20
                refine lv_tableIn (tgt := 137) hx hb dX4_section_15 (by rw [k_20]; decide) (by rw [k_20]; decide) (by rw [k_20]; rfl) (by decide) ?_
                refine lv_aload_n hx hb dX4_section_137 rfl (lv_at hl 0 rfl) ?_
                refine x_get (v := .ref (af 0)) 0 0 X hw in_X4_section_4 rfl rfl rfl 1 (by decide) (List.mem_of_getElem? (i := 5) rfl) rfl rfl dX4_section_138 ?_
                refine x_get (v := .ref (af 4)) 2 0 X hw in_X4_section_1 rfl rfl rfl 4 (by decide) (List.mem_of_getElem? (i := 7) rfl) rfl rfl dX4_section_141 ?_
                refine lv_iload_n hx hb dX4_section_144 rfl (lv_at hl 1 rfl) ?_
                obtain ⟨r_21, c_22, h⟩ := bd_ok h
                refine x_Si (As := [.ref (af 4), .int x1]) (w' := fl [xB ax ac af ah at_ ar ad, cB G ac vc, fB G af vf]) X hw (m_X4_at (G := G) (l := l) (q := (af 4)) c_22) (Cut.cellr 2 4 rfl rfl) (va_cwS 2 hts gX4_section_X4_at rfl rfl rfl hd_X4_at.2 ⟨Nat.le_of_ble_eq_true rfl, Nat.le_of_ble_eq_true rfl⟩) rfl hl.1 rfl (Nat.le_of_ble_eq_true rfl) dX4_section_145 ⟨Nat.le_of_ble_eq_true rfl, Nat.le_of_ble_eq_true rfl⟩ (fun H locs hw => ?_)
                cases h
                exact x_iret X (vp_nar_int _) hw rfl rfl dX4_section_148
              · have h := br_no h k_20
                by_cases k_23 : x2 = 6
                · have h := br_yes h k_23
                  refine lv_tableIn (tgt := 149) hx hb dX4_section_15 (by rw [k_23]; decide) (by rw [k_23]; decide) (by rw [k_23]; rfl) (by decide) ?_
                  refine lv_aload_n hx hb dX4_section_149 rfl (lv_at hl 0 rfl) ?_
                  refine x_get (v := .ref (af 0)) 0 0 X hw in_X4_section_4 rfl rfl rfl 1 (by decide) (List.mem_of_getElem? (i := 5) rfl) rfl rfl dX4_section_150 ?_
                  refine x_get (v := .ref (af 5)) 2 0 X hw in_X4_section_1 rfl rfl rfl 5 (by decide) (List.mem_of_getElem? (i := 8) rfl) rfl rfl dX4_section_153 ?_
                  refine lv_iload_n hx hb dX4_section_156 rfl (lv_at hl 1 rfl) ?_
                  obtain ⟨r_24, c_25, h⟩ := bd_ok h
                  refine x_Si (As := [.ref (af 5), .int x1]) (w' := fl [xB ax ac af ah at_ ar ad, cB G ac vc, fB G af vf]) X hw (m_X4_at (G := G) (l := l) (q := (af 5)) c_25) (Cut.cellr 2 5 rfl rfl) (va_cwS 2 hts gX4_section_X4_at rfl rfl rfl hd_X4_at.2 ⟨Nat.le_of_ble_eq_true rfl, Nat.le_of_ble_eq_true rfl⟩) rfl hl.1 rfl (Nat.le_of_ble_eq_true rfl) dX4_section_157 ⟨Nat.le_of_ble_eq_true rfl, Nat.le_of_ble_eq_true rfl⟩ (fun H locs hw => ?_)
                  cases h
                  exact x_iret X (vp_nar_int _) hw rfl rfl dX4_section_160
                · have h := br_no h k_23
                  by_cases k_26 : x2 = 7
                  · have h := br_yes h k_26
                    refine lv_tableIn (tgt := 161) hx hb dX4_section_15 (by rw [k_26]; decide) (by rw [k_26]; decide) (by rw [k_26]; rfl) (by decide) ?_
                    refine lv_aload_n hx hb dX4_section_161 rfl (lv_at hl 0 rfl) ?_
                    refine x_get (v := .ref (af 0)) 0 0 X hw in_X4_section_4 rfl rfl rfl 1 (by decide) (List.mem_of_getElem? (i := 5) rfl) rfl rfl dX4_section_162 ?_
                    refine x_get (v := .ref (af 6)) 2 0 X hw in_X4_section_1 rfl rfl rfl 6 (by decide) (List.mem_of_getElem? (i := 9) rfl) rfl rfl dX4_section_165 ?_
                    refine lv_iload_n hx hb dX4_section_168 rfl (lv_at hl 1 rfl) ?_
                    obtain ⟨r_27, c_28, h⟩ := bd_ok h
                    refine x_Si (As := [.ref (af 6), .int x1]) (w' := fl [xB ax ac af ah at_ ar ad, cB G ac vc, fB G af vf]) X hw (m_X4_at (G := G) (l := l) (q := (af 6)) c_28) (Cut.cellr 2 6 rfl rfl) (va_cwS 2 hts gX4_section_X4_at rfl rfl rfl hd_X4_at.2 ⟨Nat.le_of_ble_eq_true rfl, Nat.le_of_ble_eq_true rfl⟩) rfl hl.1 rfl (Nat.le_of_ble_eq_true rfl) dX4_section_169 ⟨Nat.le_of_ble_eq_true rfl, Nat.le_of_ble_eq_true rfl⟩ (fun H locs hw => ?_)
                    cases h
                    exact x_iret X (vp_nar_int _) hw rfl rfl dX4_section_172
                  · have h := br_no h k_26
                    by_cases k_29 : x2 = 8
                    · have h := br_yes h k_29
                      refine lv_tableIn (tgt := 173) hx hb dX4_section_15 (by rw [k_29]; decide) (by rw [k_29]; decide) (by rw [k_29]; rfl) (by decide) ?_
                      refine lv_aload_n hx hb dX4_section_173 rfl (lv_at hl 0 rfl) ?_
                      refine x_get (v := .ref (af 0)) 0 0 X hw in_X4_section_4 rfl rfl rfl 1 (by decide) (List.mem_of_getElem? (i := 5) rfl) rfl rfl dX4_section_174 ?_
                      refine x_get (v := .ref (af 3)) 2 0 X hw in_X4_section_1 rfl rfl rfl 3 (by decide) (List.mem_of_getElem? (i := 10) rfl) rfl rfl dX4_section_177 ?_
                      refine lv_iload_n hx hb dX4_section_180 rfl (lv_at hl 1 rfl) ?_
                      obtain ⟨r_30, c_31, h⟩ := bd_ok h
                      refine x_Si (As := [.ref (af 3), .int x1]) (w' := fl [xB ax ac af ah at_ ar ad, cB G ac vc, fB G af vf]) X hw (m_X4_at (G := G) (l := l) (q := (af 3)) c_31) (Cut.cellr 2 3 rfl rfl) (va_cwS 2 hts gX4_section_X4_at rfl rfl rfl hd_X4_at.2 ⟨Nat.le_of_ble_eq_true rfl, Nat.le_of_ble_eq_true rfl⟩) rfl hl.1 rfl (Nat.le_of_ble_eq_true rfl) dX4_section_181 ⟨Nat.le_of_ble_eq_true rfl, Nat.le_of_ble_eq_true rfl⟩ (fun H locs hw => ?_)
                      cases h
                      exact x_iret X (vp_nar_int _) hw rfl rfl dX4_section_184
                    · have h := br_no h k_29
                      by_cases k_32 : x2 = 9
                      · have h := br_yes h k_32
                        refine lv_tableIn (tgt := 185) hx hb dX4_section_15 (by rw [k_32]; decide) (by rw [k_32]; decide) (by rw [k_32]; rfl) (by decide) ?_
                        refine lv_aload_n hx hb dX4_section_185 rfl (lv_at hl 0 rfl) ?_
                        refine x_get (v := .ref (af 0)) 0 0 X hw in_X4_section_4 rfl rfl rfl 1 (by decide) (List.mem_of_getElem? (i := 5) rfl) rfl rfl dX4_section_186 ?_
                        refine lv_iload_n hx hb dX4_section_189 rfl (lv_at hl 1 rfl) ?_
                        obtain ⟨r_33, c_34, h⟩ := bd_ok h
                        refine x_Vi (As := [.int x1]) (w' := fl [xB ax ac af ah at_ ar ad, cB G ac vc, fB G af vf]) X hw (m_X1_fedBy (G := G) (l := l) (b := af) c_34) (Cut.blocks (bs' := [xB ax ac af ah at_ ar ad, cB G ac vc, fB G af vf]) [2] [0, 1] [1, 2, 0] [fB G af vf] rfl rfl rfl rfl rfl) 2 0 rfl rfl rfl (cwV 1 hts gX4_section_X1_fedBy rfl rfl rfl hd_X1_fedBy ⟨Nat.le_of_ble_eq_true rfl, Nat.le_of_ble_eq_true rfl⟩) rfl hl.1 rfl (Nat.le_of_ble_eq_true rfl) dX4_section_190 ⟨Nat.le_of_ble_eq_true rfl, Nat.le_of_ble_eq_true rfl⟩ (fun H locs hw => ?_)
                        cases h
                        exact x_iret X (vp_nar_int _) hw rfl rfl dX4_section_193
                      · have h := br_no h k_32
                        by_cases k_35 : x2 = 10
                        · have h := br_yes h k_35
                          refine lv_tableIn (tgt := 194) hx hb dX4_section_15 (by rw [k_35]; decide) (by rw [k_35]; decide) (by rw [k_35]; rfl) (by decide) ?_
                          refine lv_aload_n hx hb dX4_section_194 rfl (lv_at hl 0 rfl) ?_
                          refine x_get (v := .ref (ac 0)) 0 0 X hw in_X4_section_4 rfl rfl rfl 0 (by decide) (List.mem_of_getElem? (i := 1) rfl) rfl rfl dX4_section_195 ?_
                          refine lv_iload_n hx hb dX4_section_198 rfl (lv_at hl 1 rfl) ?_
                          obtain ⟨r_36, c_37, h⟩ := bd_ok h
                          refine x_Vi (As := [.int x1]) (w' := fl [xB ax ac af ah at_ ar ad, cB G ac vc, fB G af vf]) X hw (m_X0_neighbours (G := G) (l := l) (a := ac) c_37) (Cut.blocks (bs' := [xB ax ac af ah at_ ar ad, cB G ac vc, fB G af vf]) [1] [0, 2] [1, 0, 2] [cB G ac vc] rfl rfl rfl rfl rfl) 1 0 rfl rfl rfl (cwV 1 hts gX4_section_X0_neighbours rfl rfl rfl hd_X0_neighbours ⟨Nat.le_of_ble_eq_true rfl, Nat.le_of_ble_eq_true rfl⟩) rfl hl.1 rfl (Nat.le_of_ble_eq_true rfl) dX4_section_199 ⟨Nat.le_of_ble_eq_true rfl, Nat.le_of_ble_eq_true rfl⟩ (fun H locs hw => ?_)
                          cases h
                          exact x_iret X (vp_nar_int _) hw rfl rfl dX4_section_202
                        · have h := br_no h k_35
                          have nk_4 := lv_neT k_4 (show (0 : Int32).toInt = 0 by decide)
                          have nk_7 := lv_neT k_7 (show (1 : Int32).toInt = 1 by decide)
                          have nk_10 := lv_neT k_10 (show (2 : Int32).toInt = 2 by decide)
                          have nk_13 := lv_neT k_13 (show (3 : Int32).toInt = 3 by decide)
                          have nk_17 := lv_neT k_17 (show (4 : Int32).toInt = 4 by decide)
                          have nk_20 := lv_neT k_20 (show (5 : Int32).toInt = 5 by decide)
                          have nk_23 := lv_neT k_23 (show (6 : Int32).toInt = 6 by decide)
                          have nk_26 := lv_neT k_26 (show (7 : Int32).toInt = 7 by decide)
                          have nk_29 := lv_neT k_29 (show (8 : Int32).toInt = 8 by decide)
                          have nk_32 := lv_neT k_32 (show (9 : Int32).toInt = 9 by decide)
                          have nk_35 := lv_neT k_35 (show (10 : Int32).toInt = 10 by decide)
                          refine lv_tableOut (tgt := 203) hx hb dX4_section_15 (by omega) (by decide) ?_
                          refine lv_bipush (v := (-3)) hx hb dX4_section_203 (by decide) ?_
                          cases h
                          exact x_iret X (vp_nar_int _) hw rfl rfl dX4_section_205
  · have h := br_yes h k_3
    refine lv_bipush (v := (-2)) hx hb dX4_section_11 (by decide) ?_
    cases h
    exact x_iret X (vp_nar_int _) hw rfl rfl dX4_section_13

def rX4_modulus : Room := { frames := 2, cells := 0, slots := 0, locals := 42 }
theorem hd_X4_modulus : yX4_modulus.cls = RX4 ∧ yX4_modulus.cls ≠ "java/lang/invoke/MethodHandle" ∧ yX4_modulus.cls ≠ "java/lang/invoke/VarHandle" ∧ (parseMethodDescriptor yX4_modulus.desc).map (fun d => d.parameters.length) = some 2 := by decide +kernel
theorem in_X4_modulus_0 : ∀ w ∈ u_ws RX0 TX0 10, w ∈ wsX4_modulus := fun w h => (List.mem_cons_of_mem _ (List.mem_append_right _ h))
theorem in_X4_modulus_4 : ∀ w ∈ u_ws RX4 TX4 6, w ∈ wsX4_modulus := fun w h => (List.mem_cons_of_mem _ (List.mem_append_left _ (List.mem_append_right _ h)))
noncomputable def f_X4_modulus_b54  (vc : CV) (x5 : Int32) (y0 : Int32) : Option (Int32) :=
  br (x5 ≤ 0)
    (some (y0))
    (ck (¬ (x5 : Int32) = 0) <|
     some ((y0 / x5)))
set_option maxHeartbeats 4000000 in
set_option maxRecDepth 100000 in
theorem w_X4_modulus_b54 {G : GG} {l : Launch} {p : Program} {e : Env} {s : State} {m : MethodId} {args : Array Value} {below : List Frame} {meth : Method} {c : Code} {A : Nat → Prop} {ax : Nat} {ac af ah at_ ar ad : Nat → Nat} {vc : CV} {r : Int32}    (X : Cx p s m args meth c cX4_modulus 7 (some .int) wsX4_modulus RX4 G A)  :
    ∀ (x5 : Int32) (y0 : Int32) (H : Heap) (locs : List Loc) (ls : Array Slot), f_X4_modulus_b54 vc x5 y0 = some (r) → Wd G A s H locs (fl [xB ax ac af ah at_ ar ad, cB G ac vc]) → lv_has ls 7 [(5, .int x5)] → W p l e rX4_modulus s m args below meth c H locs 0 0 (MQ below (Qi G A r (fl [xB ax ac af ah at_ ar ad, cB G ac vc])) args s 0 0 A) (F0 m 54 ls [.int y0]) := by
  obtain ⟨⟨hx, hb, hml, hown, hts⟩, hK, hr, hlk, hA⟩ := id X
  intro x5 y0 H locs ls h hw hl
  unfold f_X4_modulus_b54 at h
  refine lv_istore (lv' := [(6, .int y0), (5, .int x5)]) hx hb dX4_modulus_54 hl (by decide) rfl (fun ls hl => ?_)
  refine lv_iload hx hb dX4_modulus_56 (lv_at hl 1 rfl) ?_
  refine lv_if_le (tgt := 69) hx hb dX4_modulus_58 (by decide) (fun k_1 => ?_) (fun k_1 => ?_)
  · have h := br_yes h k_1
    refine lv_iload hx hb dX4_modulus_69 (lv_at hl 0 rfl) ?_
    cases h
    exact x_iret X (vp_nar_int _) hw rfl rfl dX4_modulus_71
  · have h := br_no h k_1
    refine lv_iload hx hb dX4_modulus_61 (lv_at hl 0 rfl) ?_
    refine lv_iload hx hb dX4_modulus_63 (lv_at hl 1 rfl) ?_
    obtain ⟨k_2, h⟩ := ck_ok h
    refine lv_idiv hx hb dX4_modulus_65 k_2 ?_
    refine lv_goto (tgt := 71) hx hb dX4_modulus_66 (by decide) ?_
    cases h
    exact x_iret X (vp_nar_int _) hw rfl rfl dX4_modulus_71
noncomputable def f_X4_modulus  (vc : CV) (x1 : Int32) (x2 : Int32) : Option (Int32) :=
  bd (f_X0_has vc x1) fun r_1 =>
  br (r_1 = 0)
    (some ((-2)))
    (bd (f_X4_at 12 (C_vo vc) x1) fun r_4 =>
     bd (f_X0_cooledArea vc x1) fun r_6 =>
     bd (f_X4_commonDivisor r_4 r_6) fun r_8 =>
     br (x2 = 0)
       (f_X4_modulus_b54 vc r_8 r_4)
       (f_X4_modulus_b54 vc r_8 r_6))
set_option maxHeartbeats 4000000 in
set_option maxRecDepth 100000 in
theorem m_X4_modulus {G : GG} {l : Launch} {ax : Nat} {ac af ah at_ ar ad : Nat → Nat} {vc : CV} {x1 : Int32} {x2 : Int32} {r : Int32}  (h : f_X4_modulus vc x1 x2 = some (r)) : Ci G l yX4_modulus wsX4_modulus rX4_modulus [.ref ax, .int x1, .int x2] (fl [xB ax ac af ah at_ ar ad, cB G ac vc]) r (fl [xB ax ac af ah at_ ar ad, cB G ac vc]) := by
  refine Ci.intro cX4_modulus 7 (some .int) RX4 (by decide) rfl rfl (Nat.le_of_ble_eq_true rfl) ?_
  intro p e s m below meth c A ls X hw hl
  obtain ⟨⟨hx, hb, hml, hown, hts⟩, hK, hr, hlk, hA⟩ := id X
  unfold f_X4_modulus at h
  have hl : lv_has ls 7 [(0, .ref ax), (1, .int x1), (2, .int x2)] := hl
  refine lv_aload_n hx hb dX4_modulus_0 rfl (lv_at hl 0 rfl) ?_
  refine x_get (v := .ref (ac 0)) 0 0 X hw in_X4_modulus_4 rfl rfl rfl 0 (by decide) (List.mem_of_getElem? (i := 1) rfl) rfl rfl dX4_modulus_1 ?_
  refine lv_iload_n hx hb dX4_modulus_4 rfl (lv_at hl 1 rfl) ?_
  obtain ⟨r_1, c_2, h⟩ := bd_ok h
  refine x_Vi (As := [.int x1]) (w' := fl [xB ax ac af ah at_ ar ad, cB G ac vc]) X hw (m_X0_has (G := G) (l := l) (a := ac) c_2) (Cut.blocks (bs' := [xB ax ac af ah at_ ar ad, cB G ac vc]) [1] [0] [1, 0] [cB G ac vc] rfl rfl rfl rfl rfl) 1 0 rfl rfl rfl (cwV 1 hts gX4_modulus_X0_has rfl rfl rfl hd_X0_has ⟨Nat.le_of_ble_eq_true rfl, Nat.le_of_ble_eq_true rfl⟩) rfl hl.1 rfl (Nat.le_of_ble_eq_true rfl) dX4_modulus_5 ⟨Nat.le_of_ble_eq_true rfl, Nat.le_of_ble_eq_true rfl⟩ (fun H locs hw => ?_)
  refine lv_if_ne (tgt := 14) hx hb dX4_modulus_8 (by decide) (fun k_3 => ?_) (fun k_3 => ?_)
  · have h := br_no h k_3
    refine lv_aload_n hx hb dX4_modulus_14 rfl (lv_at hl 0 rfl) ?_
    refine x_get (v := .ref (ac 0)) 0 0 X hw in_X4_modulus_4 rfl rfl rfl 0 (by decide) (List.mem_of_getElem? (i := 1) rfl) rfl rfl dX4_modulus_15 ?_
    refine x_get (v := .ref (ac 1)) 1 0 X hw in_X4_modulus_0 rfl rfl rfl 4 (by decide) (List.mem_of_getElem? (i := 2) rfl) rfl rfl dX4_modulus_18 ?_
    refine lv_iload_n hx hb dX4_modulus_21 rfl (lv_at hl 1 rfl) ?_
    obtain ⟨r_4, c_5, h⟩ := bd_ok h
    refine x_Si (As := [.ref (ac 1), .int x1]) (w' := fl [xB ax ac af ah at_ ar ad, cB G ac vc]) X hw (m_X4_at (G := G) (l := l) (q := (ac 1)) c_5) (Cut.cellr 1 1 rfl rfl) (va_cwS 2 hts gX4_modulus_X4_at rfl rfl rfl hd_X4_at.2 ⟨Nat.le_of_ble_eq_true rfl, Nat.le_of_ble_eq_true rfl⟩) rfl hl.1 rfl (Nat.le_of_ble_eq_true rfl) dX4_modulus_22 ⟨Nat.le_of_ble_eq_true rfl, Nat.le_of_ble_eq_true rfl⟩ (fun H locs hw => ?_)
    refine lv_istore_n (lv' := [(3, .int r_4), (0, .ref ax), (1, .int x1), (2, .int x2)]) hx hb dX4_modulus_25 rfl hl (by decide) rfl (fun ls hl => ?_)
    refine lv_aload_n hx hb dX4_modulus_26 rfl (lv_at hl 1 rfl) ?_
    refine x_get (v := .ref (ac 0)) 0 0 X hw in_X4_modulus_4 rfl rfl rfl 0 (by decide) (List.mem_of_getElem? (i := 1) rfl) rfl rfl dX4_modulus_27 ?_
    refine lv_iload_n hx hb dX4_modulus_30 rfl (lv_at hl 2 rfl) ?_
    obtain ⟨r_6, c_7, h⟩ := bd_ok h
    refine x_Vi (As := [.int x1]) (w' := fl [xB ax ac af ah at_ ar ad, cB G ac vc]) X hw (m_X0_cooledArea (G := G) (l := l) (a := ac) c_7) (Cut.blocks (bs' := [xB ax ac af ah at_ ar ad, cB G ac vc]) [1] [0] [1, 0] [cB G ac vc] rfl rfl rfl rfl rfl) 1 0 rfl rfl rfl (cwV 1 hts gX4_modulus_X0_cooledArea rfl rfl rfl hd_X0_cooledArea ⟨Nat.le_of_ble_eq_true rfl, Nat.le_of_ble_eq_true rfl⟩) rfl hl.1 rfl (Nat.le_of_ble_eq_true rfl) dX4_modulus_31 ⟨Nat.le_of_ble_eq_true rfl, Nat.le_of_ble_eq_true rfl⟩ (fun H locs hw => ?_)
    refine lv_istore (lv' := [(4, .int r_6), (3, .int r_4), (0, .ref ax), (1, .int x1), (2, .int x2)]) hx hb dX4_modulus_34 hl (by decide) rfl (fun ls hl => ?_)
    refine lv_iload_n hx hb dX4_modulus_36 rfl (lv_at hl 1 rfl) ?_
    refine lv_iload hx hb dX4_modulus_37 (lv_at hl 0 rfl) ?_
    obtain ⟨r_8, c_9, h⟩ := bd_ok h
    refine x_Si (As := [.int r_4, .int r_6]) (w' := fl [xB ax ac af ah at_ ar ad, cB G ac vc]) X hw (m_X4_commonDivisor (G := G) (l := l) c_9) Cut.nil (va_cwS 2 hts gX4_modulus_X4_commonDivisor rfl rfl rfl hd_X4_commonDivisor.2 ⟨Nat.le_of_ble_eq_true rfl, Nat.le_of_ble_eq_true rfl⟩) rfl hl.1 rfl (Nat.le_of_ble_eq_true rfl) dX4_modulus_39 ⟨Nat.le_of_ble_eq_true rfl, Nat.le_of_ble_eq_true rfl⟩ (fun H locs hw => ?_)
    refine lv_istore (lv' := [(5, .int r_8), (4, .int r_6), (3, .int r_4), (0, .ref ax), (1, .int x1), (2, .int x2)]) hx hb dX4_modulus_42 hl (by decide) rfl (fun ls hl => ?_)
    refine lv_iload_n hx hb dX4_modulus_44 rfl (lv_at hl 5 rfl) ?_
    refine lv_if_eq (tgt := 53) hx hb dX4_modulus_45 (by decide) (fun k_10 => ?_) (fun k_10 => ?_)
    · have h := br_yes h k_10
      refine lv_iload_n hx hb dX4_modulus_53 rfl (lv_at hl 2 rfl) ?_
      exact w_X4_modulus_b54 X r_8 r_4 _ _ _ h hw (lv_sub hl [0] rfl)
    · have h := br_no h k_10
      refine lv_iload hx hb dX4_modulus_48 (lv_at hl 1 rfl) ?_
      refine lv_goto (tgt := 54) hx hb dX4_modulus_50 (by decide) ?_
      exact w_X4_modulus_b54 X r_8 r_6 _ _ _ h hw (lv_sub hl [0] rfl)
  · have h := br_yes h k_3
    refine lv_bipush (v := (-2)) hx hb dX4_modulus_11 (by decide) ?_
    cases h
    exact x_iret X (vp_nar_int _) hw rfl rfl dX4_modulus_13

def rX4_joint : Room := { frames := 1, cells := 0, slots := 0, locals := 22 }
theorem hd_X4_joint : yX4_joint.cls = RX4 ∧ yX4_joint.cls ≠ "java/lang/invoke/MethodHandle" ∧ yX4_joint.cls ≠ "java/lang/invoke/VarHandle" ∧ (parseMethodDescriptor yX4_joint.desc).map (fun d => d.parameters.length) = some 2 := by decide +kernel
theorem in_X4_joint_0 : ∀ w ∈ u_ws RX0 TX0 10, w ∈ wsX4_joint := fun w h => (List.mem_cons_of_mem _ (List.mem_append_right _ h))
theorem in_X4_joint_4 : ∀ w ∈ u_ws RX4 TX4 6, w ∈ wsX4_joint := fun w h => (List.mem_cons_of_mem _ (List.mem_append_left _ (List.mem_append_right _ h)))
noncomputable def f_X4_joint  (vc : CV) (x1 : Int32) (x2 : Int32) : Option (Int32) :=
  bd (f_X0_hasJoint vc x1) fun r_1 =>
  br (r_1 = 0)
    (some ((-2)))
    (bd (f_X4_isWithin x2 0 1) fun r_4 =>
     br (r_4 = 0)
       (some ((-3)))
       (br (x2 = 0)
          (bd (f_X4_at 20 (C_fi vc) x1) fun r_10 =>
           some (r_10))
          (bd (f_X4_at 20 (C_sd vc) x1) fun r_8 =>
           some (r_8))))
set_option maxHeartbeats 4000000 in
set_option maxRecDepth 100000 in
theorem m_X4_joint {G : GG} {l : Launch} {ax : Nat} {ac af ah at_ ar ad : Nat → Nat} {vc : CV} {x1 : Int32} {x2 : Int32} {r : Int32}  (h : f_X4_joint vc x1 x2 = some (r)) : Ci G l yX4_joint wsX4_joint rX4_joint [.ref ax, .int x1, .int x2] (fl [xB ax ac af ah at_ ar ad, cB G ac vc]) r (fl [xB ax ac af ah at_ ar ad, cB G ac vc]) := by
  refine Ci.intro cX4_joint 3 (some .int) RX4 (by decide) rfl rfl (Nat.le_of_ble_eq_true rfl) ?_
  intro p e s m below meth c A ls X hw hl
  obtain ⟨⟨hx, hb, hml, hown, hts⟩, hK, hr, hlk, hA⟩ := id X
  unfold f_X4_joint at h
  have hl : lv_has ls 3 [(0, .ref ax), (1, .int x1), (2, .int x2)] := hl
  refine lv_aload_n hx hb dX4_joint_0 rfl (lv_at hl 0 rfl) ?_
  refine x_get (v := .ref (ac 0)) 0 0 X hw in_X4_joint_4 rfl rfl rfl 0 (by decide) (List.mem_of_getElem? (i := 1) rfl) rfl rfl dX4_joint_1 ?_
  refine lv_iload_n hx hb dX4_joint_4 rfl (lv_at hl 1 rfl) ?_
  obtain ⟨r_1, c_2, h⟩ := bd_ok h
  refine x_Vi (As := [.int x1]) (w' := fl [xB ax ac af ah at_ ar ad, cB G ac vc]) X hw (m_X0_hasJoint (G := G) (l := l) (a := ac) c_2) (Cut.blocks (bs' := [xB ax ac af ah at_ ar ad, cB G ac vc]) [1] [0] [1, 0] [cB G ac vc] rfl rfl rfl rfl rfl) 1 0 rfl rfl rfl (cwV 1 hts gX4_joint_X0_hasJoint rfl rfl rfl hd_X0_hasJoint ⟨Nat.le_of_ble_eq_true rfl, Nat.le_of_ble_eq_true rfl⟩) rfl hl.1 rfl (Nat.le_of_ble_eq_true rfl) dX4_joint_5 ⟨Nat.le_of_ble_eq_true rfl, Nat.le_of_ble_eq_true rfl⟩ (fun H locs hw => ?_)
  refine lv_if_ne (tgt := 14) hx hb dX4_joint_8 (by decide) (fun k_3 => ?_) (fun k_3 => ?_)
  · have h := br_no h k_3
    refine lv_iload_n hx hb dX4_joint_14 rfl (lv_at hl 2 rfl) ?_
    refine lv_iconst (v := 0) hx hb dX4_joint_15 (by decide) ?_
    refine lv_iconst (v := 1) hx hb dX4_joint_16 (by decide) ?_
    obtain ⟨r_4, c_5, h⟩ := bd_ok h
    refine x_Si (As := [.int x2, .int 0, .int 1]) (w' := fl [xB ax ac af ah at_ ar ad, cB G ac vc]) X hw (m_X4_isWithin (G := G) (l := l) c_5) Cut.nil (va_cwS 3 hts gX4_joint_X4_isWithin rfl rfl rfl hd_X4_isWithin.2 ⟨Nat.le_of_ble_eq_true rfl, Nat.le_of_ble_eq_true rfl⟩) rfl hl.1 rfl (Nat.le_of_ble_eq_true rfl) dX4_joint_17 ⟨Nat.le_of_ble_eq_true rfl, Nat.le_of_ble_eq_true rfl⟩ (fun H locs hw => ?_)
    refine lv_if_ne (tgt := 26) hx hb dX4_joint_20 (by decide) (fun k_6 => ?_) (fun k_6 => ?_)
    · have h := br_no h k_6
      refine lv_iload_n hx hb dX4_joint_26 rfl (lv_at hl 2 rfl) ?_
      refine lv_if_ne (tgt := 40) hx hb dX4_joint_27 (by decide) (fun k_7 => ?_) (fun k_7 => ?_)
      · have h := br_no h k_7
        refine lv_aload_n hx hb dX4_joint_40 rfl (lv_at hl 0 rfl) ?_
        refine x_get (v := .ref (ac 0)) 0 0 X hw in_X4_joint_4 rfl rfl rfl 0 (by decide) (List.mem_of_getElem? (i := 1) rfl) rfl rfl dX4_joint_41 ?_
        refine x_get (v := .ref (ac 6)) 1 0 X hw in_X4_joint_0 rfl rfl rfl 9 (by decide) (List.mem_of_getElem? (i := 3) rfl) rfl rfl dX4_joint_44 ?_
        refine lv_iload_n hx hb dX4_joint_47 rfl (lv_at hl 1 rfl) ?_
        obtain ⟨r_8, c_9, h⟩ := bd_ok h
        refine x_Si (As := [.ref (ac 6), .int x1]) (w' := fl [xB ax ac af ah at_ ar ad, cB G ac vc]) X hw (m_X4_at (G := G) (l := l) (q := (ac 6)) c_9) (Cut.cellr 1 6 rfl rfl) (va_cwS 2 hts gX4_joint_X4_at rfl rfl rfl hd_X4_at.2 ⟨Nat.le_of_ble_eq_true rfl, Nat.le_of_ble_eq_true rfl⟩) rfl hl.1 rfl (Nat.le_of_ble_eq_true rfl) dX4_joint_48 ⟨Nat.le_of_ble_eq_true rfl, Nat.le_of_ble_eq_true rfl⟩ (fun H locs hw => ?_)
        cases h
        exact x_iret X (vp_nar_int _) hw rfl rfl dX4_joint_51
      · have h := br_yes h k_7
        refine lv_aload_n hx hb dX4_joint_30 rfl (lv_at hl 0 rfl) ?_
        refine x_get (v := .ref (ac 0)) 0 0 X hw in_X4_joint_4 rfl rfl rfl 0 (by decide) (List.mem_of_getElem? (i := 1) rfl) rfl rfl dX4_joint_31 ?_
        refine x_get (v := .ref (ac 5)) 1 0 X hw in_X4_joint_0 rfl rfl rfl 8 (by decide) (List.mem_of_getElem? (i := 2) rfl) rfl rfl dX4_joint_34 ?_
        refine lv_goto (tgt := 47) hx hb dX4_joint_37 (by decide) ?_
        refine lv_iload_n hx hb dX4_joint_47 rfl (lv_at hl 1 rfl) ?_
        obtain ⟨r_10, c_11, h⟩ := bd_ok h
        refine x_Si (As := [.ref (ac 5), .int x1]) (w' := fl [xB ax ac af ah at_ ar ad, cB G ac vc]) X hw (m_X4_at (G := G) (l := l) (q := (ac 5)) c_11) (Cut.cellr 1 5 rfl rfl) (va_cwS 2 hts gX4_joint_X4_at rfl rfl rfl hd_X4_at.2 ⟨Nat.le_of_ble_eq_true rfl, Nat.le_of_ble_eq_true rfl⟩) rfl hl.1 rfl (Nat.le_of_ble_eq_true rfl) dX4_joint_48 ⟨Nat.le_of_ble_eq_true rfl, Nat.le_of_ble_eq_true rfl⟩ (fun H locs hw => ?_)
        cases h
        exact x_iret X (vp_nar_int _) hw rfl rfl dX4_joint_51
    · have h := br_yes h k_6
      refine lv_bipush (v := (-3)) hx hb dX4_joint_23 (by decide) ?_
      cases h
      exact x_iret X (vp_nar_int _) hw rfl rfl dX4_joint_25
  · have h := br_yes h k_3
    refine lv_bipush (v := (-2)) hx hb dX4_joint_11 (by decide) ?_
    cases h
    exact x_iret X (vp_nar_int _) hw rfl rfl dX4_joint_13

def rX4_atStep : Room := { frames := 1, cells := 0, slots := 0, locals := 21 }
theorem hd_X4_atStep : yX4_atStep.cls = RX4 ∧ yX4_atStep.cls ≠ "java/lang/invoke/MethodHandle" ∧ yX4_atStep.cls ≠ "java/lang/invoke/VarHandle" ∧ (parseMethodDescriptor yX4_atStep.desc).map (fun d => d.parameters.length) = some 1 := by decide +kernel
theorem in_X4_atStep_0 : ∀ w ∈ u_ws RX0 TX0 10, w ∈ wsX4_atStep := fun w h => (List.mem_cons_of_mem _ (List.mem_append_left _ (List.mem_append_right _ h)))
theorem in_X4_atStep_1 : ∀ w ∈ u_ws RX1 TX1 7, w ∈ wsX4_atStep := fun w h => (List.mem_cons_of_mem _ (List.mem_append_right _ h))
theorem in_X4_atStep_4 : ∀ w ∈ u_ws RX4 TX4 6, w ∈ wsX4_atStep := fun w h => (List.mem_cons_of_mem _ (List.mem_append_left _ (List.mem_append_left _ (List.mem_append_right _ h))))
noncomputable def f_X4_atStep  (vc : CV) (vf : FV) (x1 : Int32) : Option (Int32) :=
  br (0 ≤ x1)
    (br ((C_se vc) ≤ x1)
       (some ((-1)))
       (bd (f_X4_at 12 (F_od vf) x1) fun r_3 =>
        some (r_3)))
    (some ((-3)))
set_option maxHeartbeats 4000000 in
set_option maxRecDepth 100000 in
theorem m_X4_atStep {G : GG} {l : Launch} {ax : Nat} {ac af ah at_ ar ad : Nat → Nat} {vc : CV} {vf : FV} {x1 : Int32} {r : Int32}  (h : f_X4_atStep vc vf x1 = some (r)) : Ci G l yX4_atStep wsX4_atStep rX4_atStep [.ref ax, .int x1] (fl [xB ax ac af ah at_ ar ad, cB G ac vc, fB G af vf]) r (fl [xB ax ac af ah at_ ar ad, cB G ac vc, fB G af vf]) := by
  refine Ci.intro cX4_atStep 2 (some .int) RX4 (by decide) rfl rfl (Nat.le_of_ble_eq_true rfl) ?_
  intro p e s m below meth c A ls X hw hl
  obtain ⟨⟨hx, hb, hml, hown, hts⟩, hK, hr, hlk, hA⟩ := id X
  unfold f_X4_atStep at h
  have hl : lv_has ls 2 [(0, .ref ax), (1, .int x1)] := hl
  refine lv_iload_n hx hb dX4_atStep_0 rfl (lv_at hl 1 rfl) ?_
  refine lv_if_ge (tgt := 7) hx hb dX4_atStep_1 (by decide) (fun k_1 => ?_) (fun k_1 => ?_)
  · have h := br_yes h k_1
    refine lv_iload_n hx hb dX4_atStep_7 rfl (lv_at hl 1 rfl) ?_
    refine lv_aload_n hx hb dX4_atStep_8 rfl (lv_at hl 0 rfl) ?_
    refine x_get (v := .ref (ac 0)) 0 0 X hw in_X4_atStep_4 rfl rfl rfl 0 (by decide) (List.mem_of_getElem? (i := 1) rfl) rfl rfl dX4_atStep_9 ?_
    refine x_get (v := .int (C_se vc)) 1 0 X hw in_X4_atStep_0 rfl rfl rfl 0 (by decide) (List.mem_of_getElem? (i := 2) rfl) rfl rfl dX4_atStep_12 ?_
    refine lv_icmp_ge (tgt := 32) hx hb dX4_atStep_15 (by decide) (fun k_2 => ?_) (fun k_2 => ?_)
    · have h := br_yes h k_2
      refine lv_iconst (v := (-1)) hx hb dX4_atStep_32 (by decide) ?_
      cases h
      exact x_iret X (vp_nar_int _) hw rfl rfl dX4_atStep_33
    · have h := br_no h k_2
      refine lv_aload_n hx hb dX4_atStep_18 rfl (lv_at hl 0 rfl) ?_
      refine x_get (v := .ref (af 0)) 0 0 X hw in_X4_atStep_4 rfl rfl rfl 1 (by decide) (List.mem_of_getElem? (i := 3) rfl) rfl rfl dX4_atStep_19 ?_
      refine x_get (v := .ref (af 2)) 2 0 X hw in_X4_atStep_1 rfl rfl rfl 2 (by decide) (List.mem_of_getElem? (i := 4) rfl) rfl rfl dX4_atStep_22 ?_
      refine lv_iload_n hx hb dX4_atStep_25 rfl (lv_at hl 1 rfl) ?_
      obtain ⟨r_3, c_4, h⟩ := bd_ok h
      refine x_Si (As := [.ref (af 2), .int x1]) (w' := fl [xB ax ac af ah at_ ar ad, cB G ac vc, fB G af vf]) X hw (m_X4_at (G := G) (l := l) (q := (af 2)) c_4) (Cut.cellr 2 2 rfl rfl) (va_cwS 2 hts gX4_atStep_X4_at rfl rfl rfl hd_X4_at.2 ⟨Nat.le_of_ble_eq_true rfl, Nat.le_of_ble_eq_true rfl⟩) rfl hl.1 rfl (Nat.le_of_ble_eq_true rfl) dX4_atStep_26 ⟨Nat.le_of_ble_eq_true rfl, Nat.le_of_ble_eq_true rfl⟩ (fun H locs hw => ?_)
      refine lv_goto (tgt := 33) hx hb dX4_atStep_29 (by decide) ?_
      cases h
      exact x_iret X (vp_nar_int _) hw rfl rfl dX4_atStep_33
  · have h := br_no h k_1
    refine lv_bipush (v := (-3)) hx hb dX4_atStep_4 (by decide) ?_
    cases h
    exact x_iret X (vp_nar_int _) hw rfl rfl dX4_atStep_6

def rX4_way : Room := { frames := 1, cells := 0, slots := 0, locals := 21 }
theorem hd_X4_way : yX4_way.cls = RX4 ∧ yX4_way.cls ≠ "java/lang/invoke/MethodHandle" ∧ yX4_way.cls ≠ "java/lang/invoke/VarHandle" ∧ (parseMethodDescriptor yX4_way.desc).map (fun d => d.parameters.length) = some 2 := by decide +kernel
theorem in_X4_way_1 : ∀ w ∈ u_ws RX1 TX1 7, w ∈ wsX4_way := fun w h => (List.mem_cons_of_mem _ (List.mem_append_left _ (List.mem_append_right _ h)))
theorem in_X4_way_4 : ∀ w ∈ u_ws RX4 TX4 6, w ∈ wsX4_way := fun w h => (List.mem_cons_of_mem _ (List.mem_append_left _ (List.mem_append_left _ (List.mem_append_right _ h))))
noncomputable def f_X4_way_b26  (vc : CV) (vf : FV) (x2 : Int32) : Nat → Int32 → Int32 → Option (Int32)
  | 0 => fun _ _ => none
  | n + 1 => fun x3 x4 =>
    br (x2 ≤ x4)
      (some (x3))
      (br (12 ≤ x4)
         (some (x3))
         (br (x3 = (-1))
            (some (x3))
            (bd (f_X4_at 12 (F_so vf) x3) fun r_4 =>
             nm (x4 + 1 : Int32) fun t_6 =>
             f_X4_way_b26 vc vf x2 n r_4 t_6)))
set_option maxHeartbeats 4000000 in
set_option maxRecDepth 100000 in
theorem w_X4_way_b26 {G : GG} {l : Launch} {p : Program} {e : Env} {s : State} {m : MethodId} {args : Array Value} {below : List Frame} {meth : Method} {c : Code} {A : Nat → Prop} {ax : Nat} {ac af ah at_ ar ad : Nat → Nat} {vc : CV} {vf : FV} {x2 : Int32} {r : Int32}    (X : Cx p s m args meth c cX4_way 5 (some .int) wsX4_way RX4 G A)  :
    ∀ (n : Nat) (x3 : Int32) (x4 : Int32) (H : Heap) (locs : List Loc) (ls : Array Slot), f_X4_way_b26 vc vf x2 n x3 x4 = some (r) → Wd G A s H locs (fl [xB ax ac af ah at_ ar ad, cB G ac vc, fB G af vf]) → lv_has ls 5 [(0, .ref ax), (2, .int x2), (3, .int x3), (4, .int x4)] → W p l e rX4_way s m args below meth c H locs 0 0 (MQ below (Qi G A r (fl [xB ax ac af ah at_ ar ad, cB G ac vc, fB G af vf])) args s 0 0 A) (F0 m 26 ls []) := by
  obtain ⟨⟨hx, hb, hml, hown, hts⟩, hK, hr, hlk, hA⟩ := id X
  intro n
  induction n with
  | zero =>
    intro x3 x4 H locs ls h
    rw [f_X4_way_b26] at h
    cases h
  | succ n ih =>
    intro x3 x4 H locs ls h hw hl
    rw [f_X4_way_b26] at h
    refine lv_iload hx hb dX4_way_26 (lv_at hl 3 rfl) ?_
    refine lv_iload_n hx hb dX4_way_28 rfl (lv_at hl 1 rfl) ?_
    refine lv_icmp_ge (tgt := 62) hx hb dX4_way_29 (by decide) (fun k_1 => ?_) (fun k_1 => ?_)
    · have h := br_yes h k_1
      refine lv_iload_n hx hb dX4_way_62 rfl (lv_at hl 2 rfl) ?_
      cases h
      exact x_iret X (vp_nar_int _) hw rfl rfl dX4_way_63
    · have h := br_no h k_1
      refine lv_iload hx hb dX4_way_32 (lv_at hl 3 rfl) ?_
      refine lv_bipush (v := 12) hx hb dX4_way_34 (by decide) ?_
      refine lv_icmp_ge (tgt := 62) hx hb dX4_way_36 (by decide) (fun k_2 => ?_) (fun k_2 => ?_)
      · have h := br_yes h k_2
        refine lv_iload_n hx hb dX4_way_62 rfl (lv_at hl 2 rfl) ?_
        cases h
        exact x_iret X (vp_nar_int _) hw rfl rfl dX4_way_63
      · have h := br_no h k_2
        refine lv_iload_n hx hb dX4_way_39 rfl (lv_at hl 2 rfl) ?_
        refine lv_iconst (v := (-1)) hx hb dX4_way_40 (by decide) ?_
        refine lv_icmp_eq (tgt := 62) hx hb dX4_way_41 (by decide) (fun k_3 => ?_) (fun k_3 => ?_)
        · have h := br_yes h k_3
          refine lv_iload_n hx hb dX4_way_62 rfl (lv_at hl 2 rfl) ?_
          cases h
          exact x_iret X (vp_nar_int _) hw rfl rfl dX4_way_63
        · have h := br_no h k_3
          refine lv_aload_n hx hb dX4_way_44 rfl (lv_at hl 0 rfl) ?_
          refine x_get (v := .ref (af 0)) 0 0 X hw in_X4_way_4 rfl rfl rfl 1 (by decide) (List.mem_of_getElem? (i := 2) rfl) rfl rfl dX4_way_45 ?_
          refine x_get (v := .ref (af 3)) 2 0 X hw in_X4_way_1 rfl rfl rfl 3 (by decide) (List.mem_of_getElem? (i := 3) rfl) rfl rfl dX4_way_48 ?_
          refine lv_iload_n hx hb dX4_way_51 rfl (lv_at hl 2 rfl) ?_
          obtain ⟨r_4, c_5, h⟩ := bd_ok h
          refine x_Si (As := [.ref (af 3), .int x3]) (w' := fl [xB ax ac af ah at_ ar ad, cB G ac vc, fB G af vf]) X hw (m_X4_at (G := G) (l := l) (q := (af 3)) c_5) (Cut.cellr 2 3 rfl rfl) (va_cwS 2 hts gX4_way_X4_at rfl rfl rfl hd_X4_at.2 ⟨Nat.le_of_ble_eq_true rfl, Nat.le_of_ble_eq_true rfl⟩) rfl hl.1 rfl (Nat.le_of_ble_eq_true rfl) dX4_way_52 ⟨Nat.le_of_ble_eq_true rfl, Nat.le_of_ble_eq_true rfl⟩ (fun H locs hw => ?_)
          refine lv_istore_n (lv' := [(3, .int r_4), (0, .ref ax), (2, .int x2), (4, .int x4)]) hx hb dX4_way_55 rfl hl (by decide) rfl (fun ls hl => ?_)
          obtain ⟨t_6, et_6, h⟩ := nm_ok h
          refine lv_iinc (v := t_6) (lv' := [(4, .int t_6), (3, .int r_4), (0, .ref ax), (2, .int x2)]) hx hb dX4_way_56 hl (k := 3) rfl (by rw [et_6]; rfl) (by decide) rfl (fun ls hl => ?_)
          refine lv_goto (tgt := 26) hx hb dX4_way_59 (by decide) ?_
          exact ih r_4 t_6 _ _ _ h hw (lv_sub hl [2, 3, 1, 0] rfl)
noncomputable def f_X4_way  (vc : CV) (vf : FV) (x1 : Int32) (x2 : Int32) : Option (Int32) :=
  bd (f_X0_has vc x1) fun r_1 =>
  br (r_1 = 0)
    (some ((-2)))
    (br (0 ≤ x2)
       (f_X4_way_b26 vc vf x2 FU x1 0)
       (some ((-3))))
set_option maxHeartbeats 4000000 in
set_option maxRecDepth 100000 in
theorem m_X4_way {G : GG} {l : Launch} {ax : Nat} {ac af ah at_ ar ad : Nat → Nat} {vc : CV} {vf : FV} {x1 : Int32} {x2 : Int32} {r : Int32}  (h : f_X4_way vc vf x1 x2 = some (r)) : Ci G l yX4_way wsX4_way rX4_way [.ref ax, .int x1, .int x2] (fl [xB ax ac af ah at_ ar ad, cB G ac vc, fB G af vf]) r (fl [xB ax ac af ah at_ ar ad, cB G ac vc, fB G af vf]) := by
  refine Ci.intro cX4_way 5 (some .int) RX4 (by decide) rfl rfl (Nat.le_of_ble_eq_true rfl) ?_
  intro p e s m below meth c A ls X hw hl
  obtain ⟨⟨hx, hb, hml, hown, hts⟩, hK, hr, hlk, hA⟩ := id X
  unfold f_X4_way at h
  have hl : lv_has ls 5 [(0, .ref ax), (1, .int x1), (2, .int x2)] := hl
  refine lv_aload_n hx hb dX4_way_0 rfl (lv_at hl 0 rfl) ?_
  refine x_get (v := .ref (ac 0)) 0 0 X hw in_X4_way_4 rfl rfl rfl 0 (by decide) (List.mem_of_getElem? (i := 1) rfl) rfl rfl dX4_way_1 ?_
  refine lv_iload_n hx hb dX4_way_4 rfl (lv_at hl 1 rfl) ?_
  obtain ⟨r_1, c_2, h⟩ := bd_ok h
  refine x_Vi (As := [.int x1]) (w' := fl [xB ax ac af ah at_ ar ad, cB G ac vc, fB G af vf]) X hw (m_X0_has (G := G) (l := l) (a := ac) c_2) (Cut.blocks (bs' := [xB ax ac af ah at_ ar ad, cB G ac vc, fB G af vf]) [1] [0, 2] [1, 0, 2] [cB G ac vc] rfl rfl rfl rfl rfl) 1 0 rfl rfl rfl (cwV 1 hts gX4_way_X0_has rfl rfl rfl hd_X0_has ⟨Nat.le_of_ble_eq_true rfl, Nat.le_of_ble_eq_true rfl⟩) rfl hl.1 rfl (Nat.le_of_ble_eq_true rfl) dX4_way_5 ⟨Nat.le_of_ble_eq_true rfl, Nat.le_of_ble_eq_true rfl⟩ (fun H locs hw => ?_)
  refine lv_if_ne (tgt := 14) hx hb dX4_way_8 (by decide) (fun k_3 => ?_) (fun k_3 => ?_)
  · have h := br_no h k_3
    refine lv_iload_n hx hb dX4_way_14 rfl (lv_at hl 2 rfl) ?_
    refine lv_if_ge (tgt := 21) hx hb dX4_way_15 (by decide) (fun k_4 => ?_) (fun k_4 => ?_)
    · have h := br_yes h k_4
      refine lv_iload_n hx hb dX4_way_21 rfl (lv_at hl 1 rfl) ?_
      refine lv_istore_n (lv' := [(3, .int x1), (0, .ref ax), (1, .int x1), (2, .int x2)]) hx hb dX4_way_22 rfl hl (by decide) rfl (fun ls hl => ?_)
      refine lv_iconst (v := 0) hx hb dX4_way_23 (by decide) ?_
      refine lv_istore (lv' := [(4, .int 0), (3, .int x1), (0, .ref ax), (1, .int x1), (2, .int x2)]) hx hb dX4_way_24 hl (by decide) rfl (fun ls hl => ?_)
      exact w_X4_way_b26 X FU x1 0 _ _ _ h hw (lv_sub hl [2, 4, 1, 0] rfl)
    · have h := br_no h k_4
      refine lv_bipush (v := (-3)) hx hb dX4_way_18 (by decide) ?_
      cases h
      exact x_iret X (vp_nar_int _) hw rfl rfl dX4_way_20
  · have h := br_yes h k_3
    refine lv_bipush (v := (-2)) hx hb dX4_way_11 (by decide) ?_
    cases h
    exact x_iret X (vp_nar_int _) hw rfl rfl dX4_way_13

def rX4_end : Room := { frames := 2, cells := 0, slots := 0, locals := 44 }
theorem hd_X4_end : yX4_end.cls = RX4 ∧ yX4_end.cls ≠ "java/lang/invoke/MethodHandle" ∧ yX4_end.cls ≠ "java/lang/invoke/VarHandle" ∧ (parseMethodDescriptor yX4_end.desc).map (fun d => d.parameters.length) = some 1 := by decide +kernel
theorem in_X4_end_4 : ∀ w ∈ u_ws RX4 TX4 6, w ∈ wsX4_end := fun w h => (List.mem_cons_of_mem _ (List.mem_append_left _ (List.mem_append_left _ (List.mem_append_right _ h))))
noncomputable def f_X4_end  (vc : CV) (vf : FV) (x1 : Int32) : Option (Int32) :=
  bd (f_X0_has vc x1) fun r_1 =>
  br (r_1 = 0)
    (some ((-2)))
    (bd (f_X1_hotSpotOf vf x1) fun r_4 =>
     some (r_4))
set_option maxHeartbeats 4000000 in
set_option maxRecDepth 100000 in
theorem m_X4_end {G : GG} {l : Launch} {ax : Nat} {ac af ah at_ ar ad : Nat → Nat} {vc : CV} {vf : FV} {x1 : Int32} {r : Int32}  (h : f_X4_end vc vf x1 = some (r)) : Ci G l yX4_end wsX4_end rX4_end [.ref ax, .int x1] (fl [xB ax ac af ah at_ ar ad, cB G ac vc, fB G af vf]) r (fl [xB ax ac af ah at_ ar ad, cB G ac vc, fB G af vf]) := by
  refine Ci.intro cX4_end 2 (some .int) RX4 (by decide) rfl rfl (Nat.le_of_ble_eq_true rfl) ?_
  intro p e s m below meth c A ls X hw hl
  obtain ⟨⟨hx, hb, hml, hown, hts⟩, hK, hr, hlk, hA⟩ := id X
  unfold f_X4_end at h
  have hl : lv_has ls 2 [(0, .ref ax), (1, .int x1)] := hl
  refine lv_aload_n hx hb dX4_end_0 rfl (lv_at hl 0 rfl) ?_
  refine x_get (v := .ref (ac 0)) 0 0 X hw in_X4_end_4 rfl rfl rfl 0 (by decide) (List.mem_of_getElem? (i := 1) rfl) rfl rfl dX4_end_1 ?_
  refine lv_iload_n hx hb dX4_end_4 rfl (lv_at hl 1 rfl) ?_
  obtain ⟨r_1, c_2, h⟩ := bd_ok h
  refine x_Vi (As := [.int x1]) (w' := fl [xB ax ac af ah at_ ar ad, cB G ac vc, fB G af vf]) X hw (m_X0_has (G := G) (l := l) (a := ac) c_2) (Cut.blocks (bs' := [xB ax ac af ah at_ ar ad, cB G ac vc, fB G af vf]) [1] [0, 2] [1, 0, 2] [cB G ac vc] rfl rfl rfl rfl rfl) 1 0 rfl rfl rfl (cwV 1 hts gX4_end_X0_has rfl rfl rfl hd_X0_has ⟨Nat.le_of_ble_eq_true rfl, Nat.le_of_ble_eq_true rfl⟩) rfl hl.1 rfl (Nat.le_of_ble_eq_true rfl) dX4_end_5 ⟨Nat.le_of_ble_eq_true rfl, Nat.le_of_ble_eq_true rfl⟩ (fun H locs hw => ?_)
  refine lv_if_eq (tgt := 22) hx hb dX4_end_8 (by decide) (fun k_3 => ?_) (fun k_3 => ?_)
  · have h := br_yes h k_3
    refine lv_bipush (v := (-2)) hx hb dX4_end_22 (by decide) ?_
    cases h
    exact x_iret X (vp_nar_int _) hw rfl rfl dX4_end_24
  · have h := br_no h k_3
    refine lv_aload_n hx hb dX4_end_11 rfl (lv_at hl 0 rfl) ?_
    refine x_get (v := .ref (af 0)) 0 0 X hw in_X4_end_4 rfl rfl rfl 1 (by decide) (List.mem_of_getElem? (i := 2) rfl) rfl rfl dX4_end_12 ?_
    refine lv_iload_n hx hb dX4_end_15 rfl (lv_at hl 1 rfl) ?_
    obtain ⟨r_4, c_5, h⟩ := bd_ok h
    refine x_Vi (As := [.int x1]) (w' := fl [xB ax ac af ah at_ ar ad, cB G ac vc, fB G af vf]) X hw (m_X1_hotSpotOf (G := G) (l := l) (b := af) c_5) (Cut.blocks (bs' := [xB ax ac af ah at_ ar ad, cB G ac vc, fB G af vf]) [2] [0, 1] [1, 2, 0] [fB G af vf] rfl rfl rfl rfl rfl) 2 0 rfl rfl rfl (cwV 1 hts gX4_end_X1_hotSpotOf rfl rfl rfl hd_X1_hotSpotOf ⟨Nat.le_of_ble_eq_true rfl, Nat.le_of_ble_eq_true rfl⟩) rfl hl.1 rfl (Nat.le_of_ble_eq_true rfl) dX4_end_16 ⟨Nat.le_of_ble_eq_true rfl, Nat.le_of_ble_eq_true rfl⟩ (fun H locs hw => ?_)
    refine lv_goto (tgt := 24) hx hb dX4_end_19 (by decide) ?_
    cases h
    exact x_iret X (vp_nar_int _) hw rfl rfl dX4_end_24

def rX4_gathers : Room := { frames := 2, cells := 0, slots := 0, locals := 44 }
theorem hd_X4_gathers : yX4_gathers.cls = RX4 ∧ yX4_gathers.cls ≠ "java/lang/invoke/MethodHandle" ∧ yX4_gathers.cls ≠ "java/lang/invoke/VarHandle" ∧ (parseMethodDescriptor yX4_gathers.desc).map (fun d => d.parameters.length) = some 1 := by decide +kernel
theorem in_X4_gathers_0 : ∀ w ∈ u_ws RX0 TX0 10, w ∈ wsX4_gathers := fun w h => (List.mem_cons_of_mem _ (List.mem_append_left _ (List.mem_append_right _ h)))
theorem in_X4_gathers_4 : ∀ w ∈ u_ws RX4 TX4 6, w ∈ wsX4_gathers := fun w h => (List.mem_cons_of_mem _ (List.mem_append_left _ (List.mem_append_left _ (List.mem_append_right _ h))))
noncomputable def f_X4_gathers_b18  (vc : CV) (vf : FV) (x1 : Int32) : Nat → Int32 → Int32 → Option (Int32)
  | 0 => fun _ _ => none
  | n + 1 => fun x2 x3 =>
    br ((C_se vc) ≤ x3)
      (some (x2))
      (bd (f_X1_hotSpotOf vf x3) fun r_2 =>
       br (r_2 = x1)
         (bd (f_X0_firstNeed vc x3) fun r_6 =>
          nm ((x2 + r_6) : Int32) fun t_8 =>
          nm (x3 + 1 : Int32) fun t_9 =>
          f_X4_gathers_b18 vc vf x1 n t_8 t_9)
         (nm (x3 + 1 : Int32) fun t_5 =>
          f_X4_gathers_b18 vc vf x1 n x2 t_5))
set_option maxHeartbeats 4000000 in
set_option maxRecDepth 100000 in
theorem w_X4_gathers_b18 {G : GG} {l : Launch} {p : Program} {e : Env} {s : State} {m : MethodId} {args : Array Value} {below : List Frame} {meth : Method} {c : Code} {A : Nat → Prop} {ax : Nat} {ac af ah at_ ar ad : Nat → Nat} {vc : CV} {vf : FV} {x1 : Int32} {r : Int32}    (X : Cx p s m args meth c cX4_gathers 4 (some .int) wsX4_gathers RX4 G A)  :
    ∀ (n : Nat) (x2 : Int32) (x3 : Int32) (H : Heap) (locs : List Loc) (ls : Array Slot), f_X4_gathers_b18 vc vf x1 n x2 x3 = some (r) → Wd G A s H locs (fl [xB ax ac af ah at_ ar ad, cB G ac vc, fB G af vf]) → lv_has ls 4 [(0, .ref ax), (1, .int x1), (2, .int x2), (3, .int x3)] → W p l e rX4_gathers s m args below meth c H locs 0 0 (MQ below (Qi G A r (fl [xB ax ac af ah at_ ar ad, cB G ac vc, fB G af vf])) args s 0 0 A) (F0 m 18 ls []) := by
  obtain ⟨⟨hx, hb, hml, hown, hts⟩, hK, hr, hlk, hA⟩ := id X
  intro n
  induction n with
  | zero =>
    intro x2 x3 H locs ls h
    rw [f_X4_gathers_b18] at h
    cases h
  | succ n ih =>
    intro x2 x3 H locs ls h hw hl
    rw [f_X4_gathers_b18] at h
    refine lv_iload_n hx hb dX4_gathers_18 rfl (lv_at hl 3 rfl) ?_
    refine lv_aload_n hx hb dX4_gathers_19 rfl (lv_at hl 0 rfl) ?_
    refine x_get (v := .ref (ac 0)) 0 0 X hw in_X4_gathers_4 rfl rfl rfl 0 (by decide) (List.mem_of_getElem? (i := 1) rfl) rfl rfl dX4_gathers_20 ?_
    refine x_get (v := .int (C_se vc)) 1 0 X hw in_X4_gathers_0 rfl rfl rfl 0 (by decide) (List.mem_of_getElem? (i := 2) rfl) rfl rfl dX4_gathers_23 ?_
    refine lv_icmp_ge (tgt := 58) hx hb dX4_gathers_26 (by decide) (fun k_1 => ?_) (fun k_1 => ?_)
    · have h := br_yes h k_1
      refine lv_iload_n hx hb dX4_gathers_58 rfl (lv_at hl 2 rfl) ?_
      cases h
      exact x_iret X (vp_nar_int _) hw rfl rfl dX4_gathers_59
    · have h := br_no h k_1
      refine lv_aload_n hx hb dX4_gathers_29 rfl (lv_at hl 0 rfl) ?_
      refine x_get (v := .ref (af 0)) 0 0 X hw in_X4_gathers_4 rfl rfl rfl 1 (by decide) (List.mem_of_getElem? (i := 3) rfl) rfl rfl dX4_gathers_30 ?_
      refine lv_iload_n hx hb dX4_gathers_33 rfl (lv_at hl 3 rfl) ?_
      obtain ⟨r_2, c_3, h⟩ := bd_ok h
      refine x_Vi (As := [.int x3]) (w' := fl [xB ax ac af ah at_ ar ad, cB G ac vc, fB G af vf]) X hw (m_X1_hotSpotOf (G := G) (l := l) (b := af) c_3) (Cut.blocks (bs' := [xB ax ac af ah at_ ar ad, cB G ac vc, fB G af vf]) [2] [0, 1] [1, 2, 0] [fB G af vf] rfl rfl rfl rfl rfl) 2 0 rfl rfl rfl (cwV 1 hts gX4_gathers_X1_hotSpotOf rfl rfl rfl hd_X1_hotSpotOf ⟨Nat.le_of_ble_eq_true rfl, Nat.le_of_ble_eq_true rfl⟩) rfl hl.1 rfl (Nat.le_of_ble_eq_true rfl) dX4_gathers_34 ⟨Nat.le_of_ble_eq_true rfl, Nat.le_of_ble_eq_true rfl⟩ (fun H locs hw => ?_)
      refine lv_iload_n hx hb dX4_gathers_37 rfl (lv_at hl 1 rfl) ?_
      refine lv_icmp_ne (tgt := 52) hx hb dX4_gathers_38 (by decide) (fun k_4 => ?_) (fun k_4 => ?_)
      · have h := br_no h k_4
        obtain ⟨t_5, et_5, h⟩ := nm_ok h
        refine lv_iinc (v := t_5) (lv' := [(3, .int t_5), (0, .ref ax), (1, .int x1), (2, .int x2)]) hx hb dX4_gathers_52 hl (k := 3) rfl (by rw [et_5]; rfl) (by decide) rfl (fun ls hl => ?_)
        refine lv_goto (tgt := 18) hx hb dX4_gathers_55 (by decide) ?_
        exact ih x2 t_5 _ _ _ h hw (lv_sub hl [1, 2, 3, 0] rfl)
      · have h := br_yes h k_4
        refine lv_iload_n hx hb dX4_gathers_41 rfl (lv_at hl 2 rfl) ?_
        refine lv_aload_n hx hb dX4_gathers_42 rfl (lv_at hl 0 rfl) ?_
        refine x_get (v := .ref (ac 0)) 0 0 X hw in_X4_gathers_4 rfl rfl rfl 0 (by decide) (List.mem_of_getElem? (i := 1) rfl) rfl rfl dX4_gathers_43 ?_
        refine lv_iload_n hx hb dX4_gathers_46 rfl (lv_at hl 3 rfl) ?_
        obtain ⟨r_6, c_7, h⟩ := bd_ok h
        refine x_Vi (As := [.int x3]) (w' := fl [xB ax ac af ah at_ ar ad, cB G ac vc, fB G af vf]) X hw (m_X0_firstNeed (G := G) (l := l) (a := ac) c_7) (Cut.blocks (bs' := [xB ax ac af ah at_ ar ad, cB G ac vc, fB G af vf]) [1] [0, 2] [1, 0, 2] [cB G ac vc] rfl rfl rfl rfl rfl) 1 0 rfl rfl rfl (cwV 1 hts gX4_gathers_X0_firstNeed rfl rfl rfl hd_X0_firstNeed ⟨Nat.le_of_ble_eq_true rfl, Nat.le_of_ble_eq_true rfl⟩) rfl hl.1 rfl (Nat.le_of_ble_eq_true rfl) dX4_gathers_47 ⟨Nat.le_of_ble_eq_true rfl, Nat.le_of_ble_eq_true rfl⟩ (fun H locs hw => ?_)
        refine lv_iadd hx hb dX4_gathers_50 ?_
        obtain ⟨t_8, et_8, h⟩ := nm_ok h
        refine lv_istore_n (lv' := [(2, .int t_8), (0, .ref ax), (1, .int x1), (3, .int x3)]) hx hb dX4_gathers_51 rfl hl (by decide) (by rw [et_8]; rfl) (fun ls hl => ?_)
        obtain ⟨t_9, et_9, h⟩ := nm_ok h
        refine lv_iinc (v := t_9) (lv' := [(3, .int t_9), (2, .int t_8), (0, .ref ax), (1, .int x1)]) hx hb dX4_gathers_52 hl (k := 3) rfl (by rw [et_9]; rfl) (by decide) rfl (fun ls hl => ?_)
        refine lv_goto (tgt := 18) hx hb dX4_gathers_55 (by decide) ?_
        exact ih t_8 t_9 _ _ _ h hw (lv_sub hl [2, 3, 1, 0] rfl)
noncomputable def f_X4_gathers  (vc : CV) (vf : FV) (x1 : Int32) : Option (Int32) :=
  bd (f_X0_has vc x1) fun r_1 =>
  br (r_1 = 0)
    (some ((-2)))
    (f_X4_gathers_b18 vc vf x1 FU 0 0)
set_option maxHeartbeats 4000000 in
set_option maxRecDepth 100000 in
theorem m_X4_gathers {G : GG} {l : Launch} {ax : Nat} {ac af ah at_ ar ad : Nat → Nat} {vc : CV} {vf : FV} {x1 : Int32} {r : Int32}  (h : f_X4_gathers vc vf x1 = some (r)) : Ci G l yX4_gathers wsX4_gathers rX4_gathers [.ref ax, .int x1] (fl [xB ax ac af ah at_ ar ad, cB G ac vc, fB G af vf]) r (fl [xB ax ac af ah at_ ar ad, cB G ac vc, fB G af vf]) := by
  refine Ci.intro cX4_gathers 4 (some .int) RX4 (by decide) rfl rfl (Nat.le_of_ble_eq_true rfl) ?_
  intro p e s m below meth c A ls X hw hl
  obtain ⟨⟨hx, hb, hml, hown, hts⟩, hK, hr, hlk, hA⟩ := id X
  unfold f_X4_gathers at h
  have hl : lv_has ls 4 [(0, .ref ax), (1, .int x1)] := hl
  refine lv_aload_n hx hb dX4_gathers_0 rfl (lv_at hl 0 rfl) ?_
  refine x_get (v := .ref (ac 0)) 0 0 X hw in_X4_gathers_4 rfl rfl rfl 0 (by decide) (List.mem_of_getElem? (i := 1) rfl) rfl rfl dX4_gathers_1 ?_
  refine lv_iload_n hx hb dX4_gathers_4 rfl (lv_at hl 1 rfl) ?_
  obtain ⟨r_1, c_2, h⟩ := bd_ok h
  refine x_Vi (As := [.int x1]) (w' := fl [xB ax ac af ah at_ ar ad, cB G ac vc, fB G af vf]) X hw (m_X0_has (G := G) (l := l) (a := ac) c_2) (Cut.blocks (bs' := [xB ax ac af ah at_ ar ad, cB G ac vc, fB G af vf]) [1] [0, 2] [1, 0, 2] [cB G ac vc] rfl rfl rfl rfl rfl) 1 0 rfl rfl rfl (cwV 1 hts gX4_gathers_X0_has rfl rfl rfl hd_X0_has ⟨Nat.le_of_ble_eq_true rfl, Nat.le_of_ble_eq_true rfl⟩) rfl hl.1 rfl (Nat.le_of_ble_eq_true rfl) dX4_gathers_5 ⟨Nat.le_of_ble_eq_true rfl, Nat.le_of_ble_eq_true rfl⟩ (fun H locs hw => ?_)
  refine lv_if_ne (tgt := 14) hx hb dX4_gathers_8 (by decide) (fun k_3 => ?_) (fun k_3 => ?_)
  · have h := br_no h k_3
    refine lv_iconst (v := 0) hx hb dX4_gathers_14 (by decide) ?_
    refine lv_istore_n (lv' := [(2, .int 0), (0, .ref ax), (1, .int x1)]) hx hb dX4_gathers_15 rfl hl (by decide) rfl (fun ls hl => ?_)
    refine lv_iconst (v := 0) hx hb dX4_gathers_16 (by decide) ?_
    refine lv_istore_n (lv' := [(3, .int 0), (2, .int 0), (0, .ref ax), (1, .int x1)]) hx hb dX4_gathers_17 rfl hl (by decide) rfl (fun ls hl => ?_)
    exact w_X4_gathers_b18 X FU 0 0 _ _ _ h hw (lv_sub hl [2, 3, 1, 0] rfl)
  · have h := br_yes h k_3
    refine lv_bipush (v := (-2)) hx hb dX4_gathers_11 (by decide) ?_
    cases h
    exact x_iret X (vp_nar_int _) hw rfl rfl dX4_gathers_13

def rX4_hasRoomForFeeder : Room := { frames := 1, cells := 0, slots := 0, locals := 20 }
theorem hd_X4_hasRoomForFeeder : yX4_hasRoomForFeeder.cls = RX4 ∧ yX4_hasRoomForFeeder.cls ≠ "java/lang/invoke/MethodHandle" ∧ yX4_hasRoomForFeeder.cls ≠ "java/lang/invoke/VarHandle" ∧ (parseMethodDescriptor yX4_hasRoomForFeeder.desc).map (fun d => d.parameters.length) = some 0 := by decide +kernel
theorem in_X4_hasRoomForFeeder_4 : ∀ w ∈ u_ws RX4 TX4 6, w ∈ wsX4_hasRoomForFeeder := fun w h => (List.mem_cons_of_mem _ (List.mem_append_left _ (List.mem_append_right _ h)))
noncomputable def f_X4_hasRoomForFeeder  (vc : CV)  : Option (Int32) :=
  bd (f_X0_hasRoomForSection vc) fun r_1 =>
  br (r_1 = 0)
    (some (0))
    (bd (f_X0_hasRoomForJoint vc) fun r_4 =>
     br (r_4 = 0)
       (some (0))
       (some (1)))
set_option maxHeartbeats 4000000 in
set_option maxRecDepth 100000 in
theorem m_X4_hasRoomForFeeder {G : GG} {l : Launch} {ax : Nat} {ac af ah at_ ar ad : Nat → Nat} {vc : CV}  {r : Int32}  (h : f_X4_hasRoomForFeeder vc = some (r)) : Ci G l yX4_hasRoomForFeeder wsX4_hasRoomForFeeder rX4_hasRoomForFeeder [.ref ax] (fl [xB ax ac af ah at_ ar ad, cB G ac vc]) r (fl [xB ax ac af ah at_ ar ad, cB G ac vc]) := by
  refine Ci.intro cX4_hasRoomForFeeder 1 (some .boolean) RX4 (by decide) rfl rfl (Nat.le_of_ble_eq_true rfl) ?_
  intro p e s m below meth c A ls X hw hl
  obtain ⟨⟨hx, hb, hml, hown, hts⟩, hK, hr, hlk, hA⟩ := id X
  unfold f_X4_hasRoomForFeeder at h
  have hl : lv_has ls 1 [(0, .ref ax)] := hl
  refine lv_aload_n hx hb dX4_hasRoomForFeeder_0 rfl (lv_at hl 0 rfl) ?_
  refine x_get (v := .ref (ac 0)) 0 0 X hw in_X4_hasRoomForFeeder_4 rfl rfl rfl 0 (by decide) (List.mem_of_getElem? (i := 1) rfl) rfl rfl dX4_hasRoomForFeeder_1 ?_
  obtain ⟨r_1, c_2, h⟩ := bd_ok h
  refine x_Vi (As := []) (w' := fl [xB ax ac af ah at_ ar ad, cB G ac vc]) X hw (m_X0_hasRoomForSection (G := G) (l := l) (a := ac) c_2) (Cut.blocks (bs' := [xB ax ac af ah at_ ar ad, cB G ac vc]) [1] [0] [1, 0] [cB G ac vc] rfl rfl rfl rfl rfl) 1 0 rfl rfl rfl (cwV 0 hts gX4_hasRoomForFeeder_X0_hasRoomForSection rfl rfl rfl hd_X0_hasRoomForSection ⟨Nat.le_of_ble_eq_true rfl, Nat.le_of_ble_eq_true rfl⟩) rfl hl.1 rfl (Nat.le_of_ble_eq_true rfl) dX4_hasRoomForFeeder_4 ⟨Nat.le_of_ble_eq_true rfl, Nat.le_of_ble_eq_true rfl⟩ (fun H locs hw => ?_)
  refine lv_if_eq (tgt := 24) hx hb dX4_hasRoomForFeeder_7 (by decide) (fun k_3 => ?_) (fun k_3 => ?_)
  · have h := br_yes h k_3
    refine lv_iconst (v := 0) hx hb dX4_hasRoomForFeeder_24 (by decide) ?_
    cases h
    exact x_iret X (narz (Or.inl rfl)) hw rfl rfl dX4_hasRoomForFeeder_25
  · have h := br_no h k_3
    refine lv_aload_n hx hb dX4_hasRoomForFeeder_10 rfl (lv_at hl 0 rfl) ?_
    refine x_get (v := .ref (ac 0)) 0 0 X hw in_X4_hasRoomForFeeder_4 rfl rfl rfl 0 (by decide) (List.mem_of_getElem? (i := 1) rfl) rfl rfl dX4_hasRoomForFeeder_11 ?_
    obtain ⟨r_4, c_5, h⟩ := bd_ok h
    refine x_Vi (As := []) (w' := fl [xB ax ac af ah at_ ar ad, cB G ac vc]) X hw (m_X0_hasRoomForJoint (G := G) (l := l) (a := ac) c_5) (Cut.blocks (bs' := [xB ax ac af ah at_ ar ad, cB G ac vc]) [1] [0] [1, 0] [cB G ac vc] rfl rfl rfl rfl rfl) 1 0 rfl rfl rfl (cwV 0 hts gX4_hasRoomForFeeder_X0_hasRoomForJoint rfl rfl rfl hd_X0_hasRoomForJoint ⟨Nat.le_of_ble_eq_true rfl, Nat.le_of_ble_eq_true rfl⟩) rfl hl.1 rfl (Nat.le_of_ble_eq_true rfl) dX4_hasRoomForFeeder_14 ⟨Nat.le_of_ble_eq_true rfl, Nat.le_of_ble_eq_true rfl⟩ (fun H locs hw => ?_)
    refine lv_if_eq (tgt := 24) hx hb dX4_hasRoomForFeeder_17 (by decide) (fun k_6 => ?_) (fun k_6 => ?_)
    · have h := br_yes h k_6
      refine lv_iconst (v := 0) hx hb dX4_hasRoomForFeeder_24 (by decide) ?_
      cases h
      exact x_iret X (narz (Or.inl rfl)) hw rfl rfl dX4_hasRoomForFeeder_25
    · have h := br_no h k_6
      refine lv_iconst (v := 1) hx hb dX4_hasRoomForFeeder_20 (by decide) ?_
      refine lv_goto (tgt := 25) hx hb dX4_hasRoomForFeeder_21 (by decide) ?_
      cases h
      exact x_iret X (narz (Or.inr rfl)) hw rfl rfl dX4_hasRoomForFeeder_25

def rX4_isSoundWithFeeder : Room := { frames := 5, cells := 0, slots := 0, locals := 107 }
theorem hd_X4_isSoundWithFeeder : yX4_isSoundWithFeeder.cls = RX4 ∧ yX4_isSoundWithFeeder.cls ≠ "java/lang/invoke/MethodHandle" ∧ yX4_isSoundWithFeeder.cls ≠ "java/lang/invoke/VarHandle" ∧ (parseMethodDescriptor yX4_isSoundWithFeeder.desc).map (fun d => d.parameters.length) = some 2 := by decide +kernel
theorem in_X4_isSoundWithFeeder_4 : ∀ w ∈ u_ws RX4 TX4 6, w ∈ wsX4_isSoundWithFeeder := fun w h => (List.mem_cons_of_mem _ (List.mem_append_left _ (List.mem_append_left _ (List.mem_append_right _ h))))
noncomputable def f_X4_isSoundWithFeeder  (vc : CV) (vr : CV) (vd : FV) (x1 : Int32) (x2 : Int32) : Option (Int32 × CV × FV) :=
  bd (f_X0_copyFrom vr vc) fun v_1 =>
  bd2 (f_X0_append v_1 ((x2 * x2) * x2) ((5 * x2) * x2) 0 1) fun r_3 v_4 =>
  bd2 (f_X0_link v_4 x1 r_3) fun r_6 v_7 =>
  bd (f_X1_follow vd v_7) fun w_9 =>
  bd (f_X1_isSound w_9) fun r_11 =>
  ck (r_11 = 0 ∨ r_11 = 1) <|
  some (r_11, v_7, w_9)
set_option maxHeartbeats 4000000 in
set_option maxRecDepth 100000 in
theorem m_X4_isSoundWithFeeder {G : GG} {l : Launch} {ax : Nat} {ac af ah at_ ar ad : Nat → Nat} {vc : CV} {vr : CV} {vd : FV} {x1 : Int32} {x2 : Int32} {r : Int32} {zvr : CV} {zvd : FV} (h : f_X4_isSoundWithFeeder vc vr vd x1 x2 = some (r, zvr, zvd)) : Ci G l yX4_isSoundWithFeeder wsX4_isSoundWithFeeder rX4_isSoundWithFeeder [.ref ax, .int x1, .int x2] (fl [xB ax ac af ah at_ ar ad, cB G ac vc, cB G ar vr, fB G ad vd]) r (fl [xB ax ac af ah at_ ar ad, cB G ac vc, cB G ar zvr, fB G ad zvd]) := by
  refine Ci.intro cX4_isSoundWithFeeder 4 (some .boolean) RX4 (by decide) rfl rfl (Nat.le_of_ble_eq_true rfl) ?_
  intro p e s m below meth c A ls X hw hl
  obtain ⟨⟨hx, hb, hml, hown, hts⟩, hK, hr, hlk, hA⟩ := id X
  unfold f_X4_isSoundWithFeeder at h
  have hl : lv_has ls 4 [(0, .ref ax), (1, .int x1), (2, .int x2)] := hl
  refine lv_aload_n hx hb dX4_isSoundWithFeeder_0 rfl (lv_at hl 0 rfl) ?_
  refine x_get (v := .ref (ar 0)) 0 0 X hw in_X4_isSoundWithFeeder_4 rfl rfl rfl 4 (by decide) (List.mem_of_getElem? (i := 1) rfl) rfl rfl dX4_isSoundWithFeeder_1 ?_
  refine lv_aload_n hx hb dX4_isSoundWithFeeder_4 rfl (lv_at hl 0 rfl) ?_
  refine x_get (v := .ref (ac 0)) 0 0 X hw in_X4_isSoundWithFeeder_4 rfl rfl rfl 0 (by decide) (List.mem_of_getElem? (i := 2) rfl) rfl rfl dX4_isSoundWithFeeder_5 ?_
  obtain ⟨v_1, c_2, h⟩ := bd_ok h
  refine x_Vv (As := [.ref (ac 0)]) (w' := fl [xB ax ac af ah at_ ar ad, cB G ac vc, cB G ar v_1, fB G ad vd]) X hw (m_X0_copyFrom (G := G) (l := l) (a := ar) (a1 := ac) c_2) (Cut.blocks (bs' := [xB ax ac af ah at_ ar ad, cB G ac vc, cB G ar v_1, fB G ad vd]) [2, 1] [0, 3] [2, 1, 0, 3] [cB G ar v_1, cB G ac vc] rfl rfl rfl rfl rfl) 2 0 rfl rfl rfl (cwV 1 hts gX4_isSoundWithFeeder_X0_copyFrom rfl rfl rfl hd_X0_copyFrom ⟨Nat.le_of_ble_eq_true rfl, Nat.le_of_ble_eq_true rfl⟩) rfl hl.1 rfl (Nat.le_of_ble_eq_true rfl) dX4_isSoundWithFeeder_8 ⟨Nat.le_of_ble_eq_true rfl, Nat.le_of_ble_eq_true rfl⟩ (fun H locs hw => ?_)
  refine lv_aload_n hx hb dX4_isSoundWithFeeder_11 rfl (lv_at hl 0 rfl) ?_
  refine x_get (v := .ref (ar 0)) 0 0 X hw in_X4_isSoundWithFeeder_4 rfl rfl rfl 4 (by decide) (List.mem_of_getElem? (i := 1) rfl) rfl rfl dX4_isSoundWithFeeder_12 ?_
  refine lv_iload_n hx hb dX4_isSoundWithFeeder_15 rfl (lv_at hl 2 rfl) ?_
  refine lv_iload_n hx hb dX4_isSoundWithFeeder_16 rfl (lv_at hl 2 rfl) ?_
  refine lv_imul hx hb dX4_isSoundWithFeeder_17 ?_
  refine lv_iload_n hx hb dX4_isSoundWithFeeder_18 rfl (lv_at hl 2 rfl) ?_
  refine lv_imul hx hb dX4_isSoundWithFeeder_19 ?_
  refine lv_iconst (v := 5) hx hb dX4_isSoundWithFeeder_20 (by decide) ?_
  refine lv_iload_n hx hb dX4_isSoundWithFeeder_21 rfl (lv_at hl 2 rfl) ?_
  refine lv_imul hx hb dX4_isSoundWithFeeder_22 ?_
  refine lv_iload_n hx hb dX4_isSoundWithFeeder_23 rfl (lv_at hl 2 rfl) ?_
  refine lv_imul hx hb dX4_isSoundWithFeeder_24 ?_
  refine lv_iconst (v := 0) hx hb dX4_isSoundWithFeeder_25 (by decide) ?_
  refine lv_iconst (v := 1) hx hb dX4_isSoundWithFeeder_26 (by decide) ?_
  obtain ⟨r_3, v_4, c_5, h⟩ := bd2_ok h
  refine x_Vi (As := [.int ((x2 * x2) * x2), .int ((5 * x2) * x2), .int 0, .int 1]) (w' := fl [xB ax ac af ah at_ ar ad, cB G ac vc, cB G ar v_4, fB G ad vd]) X hw (m_X0_append (G := G) (l := l) (a := ar) c_5) (Cut.blocks (bs' := [xB ax ac af ah at_ ar ad, cB G ac vc, cB G ar v_4, fB G ad vd]) [2] [0, 1, 3] [1, 2, 0, 3] [cB G ar v_4] rfl rfl rfl rfl rfl) 2 0 rfl rfl rfl (cwV 4 hts gX4_isSoundWithFeeder_X0_append rfl rfl rfl hd_X0_append ⟨Nat.le_of_ble_eq_true rfl, Nat.le_of_ble_eq_true rfl⟩) rfl hl.1 rfl (Nat.le_of_ble_eq_true rfl) dX4_isSoundWithFeeder_27 ⟨Nat.le_of_ble_eq_true rfl, Nat.le_of_ble_eq_true rfl⟩ (fun H locs hw => ?_)
  refine lv_istore_n (lv' := [(3, .int r_3), (0, .ref ax), (1, .int x1), (2, .int x2)]) hx hb dX4_isSoundWithFeeder_30 rfl hl (by decide) rfl (fun ls hl => ?_)
  refine lv_aload_n hx hb dX4_isSoundWithFeeder_31 rfl (lv_at hl 1 rfl) ?_
  refine x_get (v := .ref (ar 0)) 0 0 X hw in_X4_isSoundWithFeeder_4 rfl rfl rfl 4 (by decide) (List.mem_of_getElem? (i := 1) rfl) rfl rfl dX4_isSoundWithFeeder_32 ?_
  refine lv_iload_n hx hb dX4_isSoundWithFeeder_35 rfl (lv_at hl 2 rfl) ?_
  refine lv_iload_n hx hb dX4_isSoundWithFeeder_36 rfl (lv_at hl 0 rfl) ?_
  obtain ⟨r_6, v_7, c_8, h⟩ := bd2_ok h
  refine x_Vi (As := [.int x1, .int r_3]) (w' := fl [xB ax ac af ah at_ ar ad, cB G ac vc, cB G ar v_7, fB G ad vd]) X hw (m_X0_link (G := G) (l := l) (a := ar) c_8) (Cut.blocks (bs' := [xB ax ac af ah at_ ar ad, cB G ac vc, cB G ar v_7, fB G ad vd]) [2] [0, 1, 3] [1, 2, 0, 3] [cB G ar v_7] rfl rfl rfl rfl rfl) 2 0 rfl rfl rfl (cwV 2 hts gX4_isSoundWithFeeder_X0_link rfl rfl rfl hd_X0_link ⟨Nat.le_of_ble_eq_true rfl, Nat.le_of_ble_eq_true rfl⟩) rfl hl.1 rfl (Nat.le_of_ble_eq_true rfl) dX4_isSoundWithFeeder_37 ⟨Nat.le_of_ble_eq_true rfl, Nat.le_of_ble_eq_true rfl⟩ (fun H locs hw => ?_)
  refine lv_pop hx hb dX4_isSoundWithFeeder_40 rfl ?_
  refine lv_aload_n hx hb dX4_isSoundWithFeeder_41 rfl (lv_at hl 1 rfl) ?_
  refine x_get (v := .ref (ad 0)) 0 0 X hw in_X4_isSoundWithFeeder_4 rfl rfl rfl 5 (by decide) (List.mem_of_getElem? (i := 3) rfl) rfl rfl dX4_isSoundWithFeeder_42 ?_
  refine lv_aload_n hx hb dX4_isSoundWithFeeder_45 rfl (lv_at hl 1 rfl) ?_
  refine x_get (v := .ref (ar 0)) 0 0 X hw in_X4_isSoundWithFeeder_4 rfl rfl rfl 4 (by decide) (List.mem_of_getElem? (i := 1) rfl) rfl rfl dX4_isSoundWithFeeder_46 ?_
  obtain ⟨w_9, c_10, h⟩ := bd_ok h
  refine x_Vv (As := [.ref (ar 0)]) (w' := fl [xB ax ac af ah at_ ar ad, cB G ac vc, cB G ar v_7, fB G ad w_9]) X hw (m_X1_follow (G := G) (l := l) (b := ad) (a := ar) c_10) (Cut.blocks (bs' := [xB ax ac af ah at_ ar ad, cB G ac vc, cB G ar v_7, fB G ad w_9]) [3, 2] [0, 1] [2, 3, 1, 0] [fB G ad w_9, cB G ar v_7] rfl rfl rfl rfl rfl) 3 0 rfl rfl rfl (cwV 1 hts gX4_isSoundWithFeeder_X1_follow rfl rfl rfl hd_X1_follow ⟨Nat.le_of_ble_eq_true rfl, Nat.le_of_ble_eq_true rfl⟩) rfl hl.1 rfl (Nat.le_of_ble_eq_true rfl) dX4_isSoundWithFeeder_49 ⟨Nat.le_of_ble_eq_true rfl, Nat.le_of_ble_eq_true rfl⟩ (fun H locs hw => ?_)
  refine lv_aload_n hx hb dX4_isSoundWithFeeder_52 rfl (lv_at hl 1 rfl) ?_
  refine x_get (v := .ref (ad 0)) 0 0 X hw in_X4_isSoundWithFeeder_4 rfl rfl rfl 5 (by decide) (List.mem_of_getElem? (i := 3) rfl) rfl rfl dX4_isSoundWithFeeder_53 ?_
  obtain ⟨r_11, c_12, h⟩ := bd_ok h
  refine x_Vi (As := []) (w' := fl [xB ax ac af ah at_ ar ad, cB G ac vc, cB G ar v_7, fB G ad w_9]) X hw (m_X1_isSound (G := G) (l := l) (b := ad) c_12) (Cut.blocks (bs' := [xB ax ac af ah at_ ar ad, cB G ac vc, cB G ar v_7, fB G ad w_9]) [3] [0, 1, 2] [1, 2, 3, 0] [fB G ad w_9] rfl rfl rfl rfl rfl) 3 0 rfl rfl rfl (cwV 0 hts gX4_isSoundWithFeeder_X1_isSound rfl rfl rfl hd_X1_isSound ⟨Nat.le_of_ble_eq_true rfl, Nat.le_of_ble_eq_true rfl⟩) rfl hl.1 rfl (Nat.le_of_ble_eq_true rfl) dX4_isSoundWithFeeder_56 ⟨Nat.le_of_ble_eq_true rfl, Nat.le_of_ble_eq_true rfl⟩ (fun H locs hw => ?_)
  obtain ⟨k_13, h⟩ := ck_ok h
  cases h
  exact x_iret X (narz k_13) hw rfl rfl dX4_isSoundWithFeeder_59

def rX4_leastFeeder : Room := { frames := 6, cells := 0, slots := 0, locals := 130 }
theorem hd_X4_leastFeeder : yX4_leastFeeder.cls = RX4 ∧ yX4_leastFeeder.cls ≠ "java/lang/invoke/MethodHandle" ∧ yX4_leastFeeder.cls ≠ "java/lang/invoke/VarHandle" ∧ (parseMethodDescriptor yX4_leastFeeder.desc).map (fun d => d.parameters.length) = some 1 := by decide +kernel
theorem in_X4_leastFeeder_4 : ∀ w ∈ u_ws RX4 TX4 6, w ∈ wsX4_leastFeeder := fun w h => (List.mem_cons_of_mem _ (List.mem_append_left _ (List.mem_append_left _ (List.mem_append_right _ h))))
noncomputable def f_X4_leastFeeder_b26  (vc : CV) (x1 : Int32) : Nat → CV → FV → Int32 → Option (Int32 × CV × FV)
  | 0 => fun _ _ _ => none
  | n + 1 => fun vr vd x2 =>
    br (15 < x2)
      (some ((-1), vr, vd))
      (bd3 (f_X4_isSoundWithFeeder vc vr vd x1 x2) fun r_2 v_3 w_4 =>
       br (r_2 = 0)
         (nm (x2 + 1 : Int32) fun t_7 =>
          f_X4_leastFeeder_b26 vc x1 n v_3 w_4 t_7)
         (some (x2, v_3, w_4)))
set_option maxHeartbeats 4000000 in
set_option maxRecDepth 100000 in
theorem w_X4_leastFeeder_b26 {G : GG} {l : Launch} {p : Program} {e : Env} {s : State} {m : MethodId} {args : Array Value} {below : List Frame} {meth : Method} {c : Code} {A : Nat → Prop} {ax : Nat} {ac af ah at_ ar ad : Nat → Nat} {vc : CV} {x1 : Int32} {r : Int32} {zvr : CV} {zvd : FV}   (X : Cx p s m args meth c cX4_leastFeeder 3 (some .int) wsX4_leastFeeder RX4 G A)  :
    ∀ (n : Nat) (vr : CV) (vd : FV) (x2 : Int32) (H : Heap) (locs : List Loc) (ls : Array Slot), f_X4_leastFeeder_b26 vc x1 n vr vd x2 = some (r, zvr, zvd) → Wd G A s H locs (fl [xB ax ac af ah at_ ar ad, cB G ac vc, cB G ar vr, fB G ad vd]) → lv_has ls 3 [(0, .ref ax), (1, .int x1), (2, .int x2)] → W p l e rX4_leastFeeder s m args below meth c H locs 0 0 (MQ below (Qi G A r (fl [xB ax ac af ah at_ ar ad, cB G ac vc, cB G ar zvr, fB G ad zvd])) args s 0 0 A) (F0 m 26 ls []) := by
  obtain ⟨⟨hx, hb, hml, hown, hts⟩, hK, hr, hlk, hA⟩ := id X
  intro n
  induction n with
  | zero =>
    intro vr vd x2 H locs ls h
    rw [f_X4_leastFeeder_b26] at h
    cases h
  | succ n ih =>
    intro vr vd x2 H locs ls h hw hl
    rw [f_X4_leastFeeder_b26] at h
    refine lv_iload_n hx hb dX4_leastFeeder_26 rfl (lv_at hl 2 rfl) ?_
    refine lv_bipush (v := 15) hx hb dX4_leastFeeder_27 (by decide) ?_
    refine lv_icmp_gt (tgt := 49) hx hb dX4_leastFeeder_29 (by decide) (fun k_1 => ?_) (fun k_1 => ?_)
    · have h := br_yes h k_1
      refine lv_iconst (v := (-1)) hx hb dX4_leastFeeder_49 (by decide) ?_
      cases h
      exact x_iret X (vp_nar_int _) hw rfl rfl dX4_leastFeeder_50
    · have h := br_no h k_1
      refine lv_aload_n hx hb dX4_leastFeeder_32 rfl (lv_at hl 0 rfl) ?_
      refine lv_iload_n hx hb dX4_leastFeeder_33 rfl (lv_at hl 1 rfl) ?_
      refine lv_iload_n hx hb dX4_leastFeeder_34 rfl (lv_at hl 2 rfl) ?_
      obtain ⟨r_2, v_3, w_4, c_5, h⟩ := bd3_ok h
      refine x_Vi (As := [.int x1, .int x2]) (w' := fl [xB ax ac af ah at_ ar ad, cB G ac vc, cB G ar v_3, fB G ad w_4]) X hw (m_X4_isSoundWithFeeder (G := G) (l := l) (ax := ax) (ac := ac) (af := af) (ah := ah) (at_ := at_) (ar := ar) (ad := ad) c_5) Cut.all 0 0 rfl rfl rfl (cwV 2 hts gX4_leastFeeder_X4_isSoundWithFeeder rfl rfl rfl hd_X4_isSoundWithFeeder ⟨Nat.le_of_ble_eq_true rfl, Nat.le_of_ble_eq_true rfl⟩) rfl hl.1 rfl (Nat.le_of_ble_eq_true rfl) dX4_leastFeeder_35 ⟨Nat.le_of_ble_eq_true rfl, Nat.le_of_ble_eq_true rfl⟩ (fun H locs hw => ?_)
      refine lv_if_eq (tgt := 43) hx hb dX4_leastFeeder_38 (by decide) (fun k_6 => ?_) (fun k_6 => ?_)
      · have h := br_yes h k_6
        obtain ⟨t_7, et_7, h⟩ := nm_ok h
        refine lv_iinc (v := t_7) (lv' := [(2, .int t_7), (0, .ref ax), (1, .int x1)]) hx hb dX4_leastFeeder_43 hl (k := 2) rfl (by rw [et_7]; rfl) (by decide) rfl (fun ls hl => ?_)
        refine lv_goto (tgt := 26) hx hb dX4_leastFeeder_46 (by decide) ?_
        exact ih v_3 w_4 t_7 _ _ _ h hw (lv_sub hl [1, 2, 0] rfl)
      · have h := br_no h k_6
        refine lv_iload_n hx hb dX4_leastFeeder_41 rfl (lv_at hl 2 rfl) ?_
        cases h
        exact x_iret X (vp_nar_int _) hw rfl rfl dX4_leastFeeder_42
noncomputable def f_X4_leastFeeder  (vc : CV) (vr : CV) (vd : FV) (x1 : Int32) : Option (Int32 × CV × FV) :=
  bd (f_X0_has vc x1) fun r_1 =>
  br (r_1 = 0)
    (some ((-2), vr, vd))
    (bd (f_X4_hasRoomForFeeder vc) fun r_4 =>
     br (r_4 = 0)
       (some ((-5), vr, vd))
       (f_X4_leastFeeder_b26 vc x1 FU vr vd 1))
set_option maxHeartbeats 4000000 in
set_option maxRecDepth 100000 in
theorem m_X4_leastFeeder {G : GG} {l : Launch} {ax : Nat} {ac af ah at_ ar ad : Nat → Nat} {vc : CV} {vr : CV} {vd : FV} {x1 : Int32} {r : Int32} {zvr : CV} {zvd : FV} (h : f_X4_leastFeeder vc vr vd x1 = some (r, zvr, zvd)) : Ci G l yX4_leastFeeder wsX4_leastFeeder rX4_leastFeeder [.ref ax, .int x1] (fl [xB ax ac af ah at_ ar ad, cB G ac vc, cB G ar vr, fB G ad vd]) r (fl [xB ax ac af ah at_ ar ad, cB G ac vc, cB G ar zvr, fB G ad zvd]) := by
  refine Ci.intro cX4_leastFeeder 3 (some .int) RX4 (by decide) rfl rfl (Nat.le_of_ble_eq_true rfl) ?_
  intro p e s m below meth c A ls X hw hl
  obtain ⟨⟨hx, hb, hml, hown, hts⟩, hK, hr, hlk, hA⟩ := id X
  unfold f_X4_leastFeeder at h
  have hl : lv_has ls 3 [(0, .ref ax), (1, .int x1)] := hl
  refine lv_aload_n hx hb dX4_leastFeeder_0 rfl (lv_at hl 0 rfl) ?_
  refine x_get (v := .ref (ac 0)) 0 0 X hw in_X4_leastFeeder_4 rfl rfl rfl 0 (by decide) (List.mem_of_getElem? (i := 1) rfl) rfl rfl dX4_leastFeeder_1 ?_
  refine lv_iload_n hx hb dX4_leastFeeder_4 rfl (lv_at hl 1 rfl) ?_
  obtain ⟨r_1, c_2, h⟩ := bd_ok h
  refine x_Vi (As := [.int x1]) (w' := fl [xB ax ac af ah at_ ar ad, cB G ac vc, cB G ar vr, fB G ad vd]) X hw (m_X0_has (G := G) (l := l) (a := ac) c_2) (Cut.blocks (bs' := [xB ax ac af ah at_ ar ad, cB G ac vc, cB G ar vr, fB G ad vd]) [1] [0, 2, 3] [1, 0, 2, 3] [cB G ac vc] rfl rfl rfl rfl rfl) 1 0 rfl rfl rfl (cwV 1 hts gX4_leastFeeder_X0_has rfl rfl rfl hd_X0_has ⟨Nat.le_of_ble_eq_true rfl, Nat.le_of_ble_eq_true rfl⟩) rfl hl.1 rfl (Nat.le_of_ble_eq_true rfl) dX4_leastFeeder_5 ⟨Nat.le_of_ble_eq_true rfl, Nat.le_of_ble_eq_true rfl⟩ (fun H locs hw => ?_)
  refine lv_if_ne (tgt := 14) hx hb dX4_leastFeeder_8 (by decide) (fun k_3 => ?_) (fun k_3 => ?_)
  · have h := br_no h k_3
    refine lv_aload_n hx hb dX4_leastFeeder_14 rfl (lv_at hl 0 rfl) ?_
    obtain ⟨r_4, c_5, h⟩ := bd_ok h
    refine x_Vi (As := []) (w' := fl [xB ax ac af ah at_ ar ad, cB G ac vc, cB G ar vr, fB G ad vd]) X hw (m_X4_hasRoomForFeeder (G := G) (l := l) (ax := ax) (ac := ac) (af := af) (ah := ah) (at_ := at_) (ar := ar) (ad := ad) c_5) (Cut.blocks (bs' := [xB ax ac af ah at_ ar ad, cB G ac vc, cB G ar vr, fB G ad vd]) [0, 1] [2, 3] [0, 1, 2, 3] [xB ax ac af ah at_ ar ad, cB G ac vc] rfl rfl rfl rfl rfl) 0 0 rfl rfl rfl (cwV 0 hts gX4_leastFeeder_X4_hasRoomForFeeder rfl rfl rfl hd_X4_hasRoomForFeeder ⟨Nat.le_of_ble_eq_true rfl, Nat.le_of_ble_eq_true rfl⟩) rfl hl.1 rfl (Nat.le_of_ble_eq_true rfl) dX4_leastFeeder_15 ⟨Nat.le_of_ble_eq_true rfl, Nat.le_of_ble_eq_true rfl⟩ (fun H locs hw => ?_)
    refine lv_if_ne (tgt := 24) hx hb dX4_leastFeeder_18 (by decide) (fun k_6 => ?_) (fun k_6 => ?_)
    · have h := br_no h k_6
      refine lv_iconst (v := 1) hx hb dX4_leastFeeder_24 (by decide) ?_
      refine lv_istore_n (lv' := [(2, .int 1), (0, .ref ax), (1, .int x1)]) hx hb dX4_leastFeeder_25 rfl hl (by decide) rfl (fun ls hl => ?_)
      exact w_X4_leastFeeder_b26 X FU vr vd 1 _ _ _ h hw (lv_sub hl [1, 2, 0] rfl)
    · have h := br_yes h k_6
      refine lv_bipush (v := (-5)) hx hb dX4_leastFeeder_21 (by decide) ?_
      cases h
      exact x_iret X (vp_nar_int _) hw rfl rfl dX4_leastFeeder_23
  · have h := br_yes h k_3
    refine lv_bipush (v := (-2)) hx hb dX4_leastFeeder_11 (by decide) ?_
    cases h
    exact x_iret X (vp_nar_int _) hw rfl rfl dX4_leastFeeder_13

def rX4_bestFeeder : Room := { frames := 6, cells := 0, slots := 0, locals := 130 }
theorem hd_X4_bestFeeder : yX4_bestFeeder.cls = RX4 ∧ yX4_bestFeeder.cls ≠ "java/lang/invoke/MethodHandle" ∧ yX4_bestFeeder.cls ≠ "java/lang/invoke/VarHandle" ∧ (parseMethodDescriptor yX4_bestFeeder.desc).map (fun d => d.parameters.length) = some 0 := by decide +kernel
theorem in_X4_bestFeeder_0 : ∀ w ∈ u_ws RX0 TX0 10, w ∈ wsX4_bestFeeder := fun w h => (List.mem_cons_of_mem _ (List.mem_append_left _ (List.mem_append_right _ h)))
theorem in_X4_bestFeeder_4 : ∀ w ∈ u_ws RX4 TX4 6, w ∈ wsX4_bestFeeder := fun w h => (List.mem_cons_of_mem _ (List.mem_append_left _ (List.mem_append_left _ (List.mem_append_right _ h))))
noncomputable def f_X4_bestFeeder_b20  (k12 : CV → FV → Int32 → Option (Int32 × CV × FV)) (vc : CV) (x1 : Int32) : Nat → CV → FV → Int32 → Option (Int32 × CV × FV)
  | 0 => fun _ _ _ => none
  | n + 1 => fun vr vd x2 =>
    br ((C_se vc) ≤ x2)
      (nm (x1 + 1 : Int32) fun t_2 =>
       k12 vr vd t_2)
      (bd3 (f_X4_isSoundWithFeeder vc vr vd x2 x1) fun r_3 v_4 w_5 =>
       br (r_3 = 0)
         (nm (x2 + 1 : Int32) fun t_8 =>
          f_X4_bestFeeder_b20 k12 vc x1 n v_4 w_5 t_8)
         (some (((100 * x1) + x2), v_4, w_5)))
set_option maxHeartbeats 4000000 in
set_option maxRecDepth 100000 in
theorem w_X4_bestFeeder_b20 {G : GG} {l : Launch} {p : Program} {e : Env} {s : State} {m : MethodId} {args : Array Value} {below : List Frame} {meth : Method} {c : Code} {A : Nat → Prop} {ax : Nat} {ac af ah at_ ar ad : Nat → Nat} {vc : CV} {x1 : Int32} {r : Int32} {zvr : CV} {zvd : FV}  {k12 : CV → FV → Int32 → Option (Int32 × CV × FV)} (X : Cx p s m args meth c cX4_bestFeeder 3 (some .int) wsX4_bestFeeder RX4 G A) (hk12 : ∀ (vr : CV) (vd : FV) (x1 : Int32) (H : Heap) (locs : List Loc) (ls : Array Slot), k12 vr vd x1 = some (r, zvr, zvd) → Wd G A s H locs (fl [xB ax ac af ah at_ ar ad, cB G ac vc, cB G ar vr, fB G ad vd]) → lv_has ls 3 [(0, .ref ax), (1, .int x1)] → W p l e rX4_bestFeeder s m args below meth c H locs 0 0 (MQ below (Qi G A r (fl [xB ax ac af ah at_ ar ad, cB G ac vc, cB G ar zvr, fB G ad zvd])) args s 0 0 A) (F0 m 12 ls [])) :
    ∀ (n : Nat) (vr : CV) (vd : FV) (x2 : Int32) (H : Heap) (locs : List Loc) (ls : Array Slot), f_X4_bestFeeder_b20 k12 vc x1 n vr vd x2 = some (r, zvr, zvd) → Wd G A s H locs (fl [xB ax ac af ah at_ ar ad, cB G ac vc, cB G ar vr, fB G ad vd]) → lv_has ls 3 [(0, .ref ax), (1, .int x1), (2, .int x2)] → W p l e rX4_bestFeeder s m args below meth c H locs 0 0 (MQ below (Qi G A r (fl [xB ax ac af ah at_ ar ad, cB G ac vc, cB G ar zvr, fB G ad zvd])) args s 0 0 A) (F0 m 20 ls []) := by
  obtain ⟨⟨hx, hb, hml, hown, hts⟩, hK, hr, hlk, hA⟩ := id X
  intro n
  induction n with
  | zero =>
    intro vr vd x2 H locs ls h
    rw [f_X4_bestFeeder_b20] at h
    cases h
  | succ n ih =>
    intro vr vd x2 H locs ls h hw hl
    rw [f_X4_bestFeeder_b20] at h
    refine lv_iload_n hx hb dX4_bestFeeder_20 rfl (lv_at hl 2 rfl) ?_
    refine lv_aload_n hx hb dX4_bestFeeder_21 rfl (lv_at hl 0 rfl) ?_
    refine x_get (v := .ref (ac 0)) 0 0 X hw in_X4_bestFeeder_4 rfl rfl rfl 0 (by decide) (List.mem_of_getElem? (i := 1) rfl) rfl rfl dX4_bestFeeder_22 ?_
    refine x_get (v := .int (C_se vc)) 1 0 X hw in_X4_bestFeeder_0 rfl rfl rfl 0 (by decide) (List.mem_of_getElem? (i := 2) rfl) rfl rfl dX4_bestFeeder_25 ?_
    refine lv_icmp_ge (tgt := 53) hx hb dX4_bestFeeder_28 (by decide) (fun k_1 => ?_) (fun k_1 => ?_)
    · have h := br_yes h k_1
      obtain ⟨t_2, et_2, h⟩ := nm_ok h
      refine lv_iinc (v := t_2) (lv' := [(1, .int t_2), (0, .ref ax), (2, .int x2)]) hx hb dX4_bestFeeder_53 hl (k := 1) rfl (by rw [et_2]; rfl) (by decide) rfl (fun ls hl => ?_)
      refine lv_goto (tgt := 12) hx hb dX4_bestFeeder_56 (by decide) ?_
      exact hk12 vr vd t_2 _ _ _ h hw (lv_sub hl [1, 0] rfl)
    · have h := br_no h k_1
      refine lv_aload_n hx hb dX4_bestFeeder_31 rfl (lv_at hl 0 rfl) ?_
      refine lv_iload_n hx hb dX4_bestFeeder_32 rfl (lv_at hl 2 rfl) ?_
      refine lv_iload_n hx hb dX4_bestFeeder_33 rfl (lv_at hl 1 rfl) ?_
      obtain ⟨r_3, v_4, w_5, c_6, h⟩ := bd3_ok h
      refine x_Vi (As := [.int x2, .int x1]) (w' := fl [xB ax ac af ah at_ ar ad, cB G ac vc, cB G ar v_4, fB G ad w_5]) X hw (m_X4_isSoundWithFeeder (G := G) (l := l) (ax := ax) (ac := ac) (af := af) (ah := ah) (at_ := at_) (ar := ar) (ad := ad) c_6) Cut.all 0 0 rfl rfl rfl (cwV 2 hts gX4_bestFeeder_X4_isSoundWithFeeder rfl rfl rfl hd_X4_isSoundWithFeeder ⟨Nat.le_of_ble_eq_true rfl, Nat.le_of_ble_eq_true rfl⟩) rfl hl.1 rfl (Nat.le_of_ble_eq_true rfl) dX4_bestFeeder_34 ⟨Nat.le_of_ble_eq_true rfl, Nat.le_of_ble_eq_true rfl⟩ (fun H locs hw => ?_)
      refine lv_if_eq (tgt := 47) hx hb dX4_bestFeeder_37 (by decide) (fun k_7 => ?_) (fun k_7 => ?_)
      · have h := br_yes h k_7
        obtain ⟨t_8, et_8, h⟩ := nm_ok h
        refine lv_iinc (v := t_8) (lv' := [(2, .int t_8), (0, .ref ax), (1, .int x1)]) hx hb dX4_bestFeeder_47 hl (k := 2) rfl (by rw [et_8]; rfl) (by decide) rfl (fun ls hl => ?_)
        refine lv_goto (tgt := 20) hx hb dX4_bestFeeder_50 (by decide) ?_
        exact ih v_4 w_5 t_8 _ _ _ h hw (lv_sub hl [1, 2, 0] rfl)
      · have h := br_no h k_7
        refine lv_bipush (v := 100) hx hb dX4_bestFeeder_40 (by decide) ?_
        refine lv_iload_n hx hb dX4_bestFeeder_42 rfl (lv_at hl 1 rfl) ?_
        refine lv_imul hx hb dX4_bestFeeder_43 ?_
        refine lv_iload_n hx hb dX4_bestFeeder_44 rfl (lv_at hl 2 rfl) ?_
        refine lv_iadd hx hb dX4_bestFeeder_45 ?_
        cases h
        exact x_iret X (vp_nar_int _) hw rfl rfl dX4_bestFeeder_46
noncomputable def f_X4_bestFeeder_b12  (vc : CV) : Nat → CV → FV → Int32 → Option (Int32 × CV × FV)
  | 0 => fun _ _ _ => none
  | n + 1 => fun vr vd x1 =>
    br (15 < x1)
      (some ((-1), vr, vd))
      (f_X4_bestFeeder_b20 (f_X4_bestFeeder_b12 vc n) vc x1 FU vr vd 0)
set_option maxHeartbeats 4000000 in
set_option maxRecDepth 100000 in
theorem w_X4_bestFeeder_b12 {G : GG} {l : Launch} {p : Program} {e : Env} {s : State} {m : MethodId} {args : Array Value} {below : List Frame} {meth : Method} {c : Code} {A : Nat → Prop} {ax : Nat} {ac af ah at_ ar ad : Nat → Nat} {vc : CV} {r : Int32} {zvr : CV} {zvd : FV}   (X : Cx p s m args meth c cX4_bestFeeder 3 (some .int) wsX4_bestFeeder RX4 G A)  :
    ∀ (n : Nat) (vr : CV) (vd : FV) (x1 : Int32) (H : Heap) (locs : List Loc) (ls : Array Slot), f_X4_bestFeeder_b12 vc n vr vd x1 = some (r, zvr, zvd) → Wd G A s H locs (fl [xB ax ac af ah at_ ar ad, cB G ac vc, cB G ar vr, fB G ad vd]) → lv_has ls 3 [(0, .ref ax), (1, .int x1)] → W p l e rX4_bestFeeder s m args below meth c H locs 0 0 (MQ below (Qi G A r (fl [xB ax ac af ah at_ ar ad, cB G ac vc, cB G ar zvr, fB G ad zvd])) args s 0 0 A) (F0 m 12 ls []) := by
  obtain ⟨⟨hx, hb, hml, hown, hts⟩, hK, hr, hlk, hA⟩ := id X
  intro n
  induction n with
  | zero =>
    intro vr vd x1 H locs ls h
    rw [f_X4_bestFeeder_b12] at h
    cases h
  | succ n ih =>
    intro vr vd x1 H locs ls h hw hl
    rw [f_X4_bestFeeder_b12] at h
    refine lv_iload_n hx hb dX4_bestFeeder_12 rfl (lv_at hl 1 rfl) ?_
    refine lv_bipush (v := 15) hx hb dX4_bestFeeder_13 (by decide) ?_
    refine lv_icmp_gt (tgt := 59) hx hb dX4_bestFeeder_15 (by decide) (fun k_1 => ?_) (fun k_1 => ?_)
    · have h := br_yes h k_1
      refine lv_iconst (v := (-1)) hx hb dX4_bestFeeder_59 (by decide) ?_
      cases h
      exact x_iret X (vp_nar_int _) hw rfl rfl dX4_bestFeeder_60
    · have h := br_no h k_1
      refine lv_iconst (v := 0) hx hb dX4_bestFeeder_18 (by decide) ?_
      refine lv_istore_n (lv' := [(2, .int 0), (0, .ref ax), (1, .int x1)]) hx hb dX4_bestFeeder_19 rfl hl (by decide) rfl (fun ls hl => ?_)
      exact w_X4_bestFeeder_b20 X ih FU vr vd 0 _ _ _ h hw (lv_sub hl [1, 2, 0] rfl)
noncomputable def f_X4_bestFeeder  (vc : CV) (vr : CV) (vd : FV)  : Option (Int32 × CV × FV) :=
  bd (f_X4_hasRoomForFeeder vc) fun r_1 =>
  br (r_1 = 0)
    (some ((-5), vr, vd))
    (f_X4_bestFeeder_b12 vc FU vr vd 1)
set_option maxHeartbeats 4000000 in
set_option maxRecDepth 100000 in
theorem m_X4_bestFeeder {G : GG} {l : Launch} {ax : Nat} {ac af ah at_ ar ad : Nat → Nat} {vc : CV} {vr : CV} {vd : FV}  {r : Int32} {zvr : CV} {zvd : FV} (h : f_X4_bestFeeder vc vr vd = some (r, zvr, zvd)) : Ci G l yX4_bestFeeder wsX4_bestFeeder rX4_bestFeeder [.ref ax] (fl [xB ax ac af ah at_ ar ad, cB G ac vc, cB G ar vr, fB G ad vd]) r (fl [xB ax ac af ah at_ ar ad, cB G ac vc, cB G ar zvr, fB G ad zvd]) := by
  refine Ci.intro cX4_bestFeeder 3 (some .int) RX4 (by decide) rfl rfl (Nat.le_of_ble_eq_true rfl) ?_
  intro p e s m below meth c A ls X hw hl
  obtain ⟨⟨hx, hb, hml, hown, hts⟩, hK, hr, hlk, hA⟩ := id X
  unfold f_X4_bestFeeder at h
  have hl : lv_has ls 3 [(0, .ref ax)] := hl
  refine lv_aload_n hx hb dX4_bestFeeder_0 rfl (lv_at hl 0 rfl) ?_
  obtain ⟨r_1, c_2, h⟩ := bd_ok h
  refine x_Vi (As := []) (w' := fl [xB ax ac af ah at_ ar ad, cB G ac vc, cB G ar vr, fB G ad vd]) X hw (m_X4_hasRoomForFeeder (G := G) (l := l) (ax := ax) (ac := ac) (af := af) (ah := ah) (at_ := at_) (ar := ar) (ad := ad) c_2) (Cut.blocks (bs' := [xB ax ac af ah at_ ar ad, cB G ac vc, cB G ar vr, fB G ad vd]) [0, 1] [2, 3] [0, 1, 2, 3] [xB ax ac af ah at_ ar ad, cB G ac vc] rfl rfl rfl rfl rfl) 0 0 rfl rfl rfl (cwV 0 hts gX4_bestFeeder_X4_hasRoomForFeeder rfl rfl rfl hd_X4_hasRoomForFeeder ⟨Nat.le_of_ble_eq_true rfl, Nat.le_of_ble_eq_true rfl⟩) rfl hl.1 rfl (Nat.le_of_ble_eq_true rfl) dX4_bestFeeder_1 ⟨Nat.le_of_ble_eq_true rfl, Nat.le_of_ble_eq_true rfl⟩ (fun H locs hw => ?_)
  refine lv_if_ne (tgt := 10) hx hb dX4_bestFeeder_4 (by decide) (fun k_3 => ?_) (fun k_3 => ?_)
  · have h := br_no h k_3
    refine lv_iconst (v := 1) hx hb dX4_bestFeeder_10 (by decide) ?_
    refine lv_istore_n (lv' := [(1, .int 1), (0, .ref ax)]) hx hb dX4_bestFeeder_11 rfl hl (by decide) rfl (fun ls hl => ?_)
    exact w_X4_bestFeeder_b12 X FU vr vd 1 _ _ _ h hw (lv_sub hl [1, 0] rfl)
  · have h := br_yes h k_3
    refine lv_bipush (v := (-5)) hx hb dX4_bestFeeder_7 (by decide) ?_
    cases h
    exact x_iret X (vp_nar_int _) hw rfl rfl dX4_bestFeeder_9

def rX4_leastChill : Room := { frames := 5, cells := 0, slots := 0, locals := 107 }
theorem hd_X4_leastChill : yX4_leastChill.cls = RX4 ∧ yX4_leastChill.cls ≠ "java/lang/invoke/MethodHandle" ∧ yX4_leastChill.cls ≠ "java/lang/invoke/VarHandle" ∧ (parseMethodDescriptor yX4_leastChill.desc).map (fun d => d.parameters.length) = some 1 := by decide +kernel
theorem in_X4_leastChill_0 : ∀ w ∈ u_ws RX0 TX0 10, w ∈ wsX4_leastChill := fun w h => (List.mem_cons_of_mem _ (List.mem_append_left _ (List.mem_append_right _ h)))
theorem in_X4_leastChill_4 : ∀ w ∈ u_ws RX4 TX4 6, w ∈ wsX4_leastChill := fun w h => (List.mem_cons_of_mem _ (List.mem_append_left _ (List.mem_append_left _ (List.mem_append_right _ h))))
noncomputable def f_X4_leastChill_b29  (vc : CV) (x1 : Int32) : Nat → CV → FV → Int32 → Int32 → Option (Int32 × CV × FV)
  | 0 => fun _ _ _ _ => none
  | n + 1 => fun vr vd x2 x3 =>
    br (500 < x3)
      (some ((-1), vr, vd))
      (bd (f_X4_put 12 (C_ch vr) x1 x3) fun g_2 =>
       bd (f_X0_stepOf ((C_se vr), (C_jo vr), (C_sh vr), (C_pi vr), (C_vo vr), (C_ar vr), g_2, (C_fe vr), (C_fi vr), (C_sd vr)) x1) fun r_4 =>
       br (r_4 = x2)
         (nm (x3 + 1 : Int32) fun t_7 =>
          f_X4_leastChill_b29 vc x1 n ((C_se vr), (C_jo vr), (C_sh vr), (C_pi vr), (C_vo vr), (C_ar vr), g_2, (C_fe vr), (C_fi vr), (C_sd vr)) vd x2 t_7)
         (bd (f_X1_follow vd ((C_se vr), (C_jo vr), (C_sh vr), (C_pi vr), (C_vo vr), (C_ar vr), g_2, (C_fe vr), (C_fi vr), (C_sd vr))) fun w_8 =>
          bd (f_X1_isSound w_8) fun r_10 =>
          br (r_10 = 0)
            (nm (x3 + 1 : Int32) fun t_13 =>
             f_X4_leastChill_b29 vc x1 n ((C_se vr), (C_jo vr), (C_sh vr), (C_pi vr), (C_vo vr), (C_ar vr), g_2, (C_fe vr), (C_fi vr), (C_sd vr)) w_8 r_4 t_13)
            (some (x3, ((C_se vr), (C_jo vr), (C_sh vr), (C_pi vr), (C_vo vr), (C_ar vr), g_2, (C_fe vr), (C_fi vr), (C_sd vr)), w_8))))
set_option maxHeartbeats 4000000 in
set_option maxRecDepth 100000 in
theorem w_X4_leastChill_b29 {G : GG} {l : Launch} {p : Program} {e : Env} {s : State} {m : MethodId} {args : Array Value} {below : List Frame} {meth : Method} {c : Code} {A : Nat → Prop} {ax : Nat} {ac af ah at_ ar ad : Nat → Nat} {vc : CV} {x1 : Int32} {r : Int32} {zvr : CV} {zvd : FV}   (X : Cx p s m args meth c cX4_leastChill 5 (some .int) wsX4_leastChill RX4 G A)  :
    ∀ (n : Nat) (vr : CV) (vd : FV) (x2 : Int32) (x3 : Int32) (H : Heap) (locs : List Loc) (ls : Array Slot), f_X4_leastChill_b29 vc x1 n vr vd x2 x3 = some (r, zvr, zvd) → Wd G A s H locs (fl [xB ax ac af ah at_ ar ad, cB G ac vc, cB G ar vr, fB G ad vd]) → lv_has ls 5 [(0, .ref ax), (1, .int x1), (2, .int x2), (3, .int x3)] → W p l e rX4_leastChill s m args below meth c H locs 0 0 (MQ below (Qi G A r (fl [xB ax ac af ah at_ ar ad, cB G ac vc, cB G ar zvr, fB G ad zvd])) args s 0 0 A) (F0 m 29 ls []) := by
  obtain ⟨⟨hx, hb, hml, hown, hts⟩, hK, hr, hlk, hA⟩ := id X
  intro n
  induction n with
  | zero =>
    intro vr vd x2 x3 H locs ls h
    rw [f_X4_leastChill_b29] at h
    cases h
  | succ n ih =>
    intro vr vd x2 x3 H locs ls h hw hl
    rw [f_X4_leastChill_b29] at h
    refine lv_iload_n hx hb dX4_leastChill_29 rfl (lv_at hl 3 rfl) ?_
    refine lv_sipush (v := 500) hx hb dX4_leastChill_30 (by decide) ?_
    refine lv_icmp_gt (tgt := 96) hx hb dX4_leastChill_33 (by decide) (fun k_1 => ?_) (fun k_1 => ?_)
    · have h := br_yes h k_1
      refine lv_iconst (v := (-1)) hx hb dX4_leastChill_96 (by decide) ?_
      cases h
      exact x_iret X (vp_nar_int _) hw rfl rfl dX4_leastChill_97
    · have h := br_no h k_1
      refine lv_aload_n hx hb dX4_leastChill_36 rfl (lv_at hl 0 rfl) ?_
      refine x_get (v := .ref (ar 0)) 0 0 X hw in_X4_leastChill_4 rfl rfl rfl 4 (by decide) (List.mem_of_getElem? (i := 2) rfl) rfl rfl dX4_leastChill_37 ?_
      refine x_get (v := .ref (ar 3)) 2 0 X hw in_X4_leastChill_0 rfl rfl rfl 6 (by decide) (List.mem_of_getElem? (i := 3) rfl) rfl rfl dX4_leastChill_40 ?_
      refine lv_iload_n hx hb dX4_leastChill_43 rfl (lv_at hl 1 rfl) ?_
      refine lv_iload_n hx hb dX4_leastChill_44 rfl (lv_at hl 3 rfl) ?_
      obtain ⟨g_2, c_3, h⟩ := bd_ok h
      refine x_Sv (As := [.ref (ar 3), .int x1, .int x3]) (w' := fl [xB ax ac af ah at_ ar ad, cB G ac vc, cB G ar ((C_se vr), (C_jo vr), (C_sh vr), (C_pi vr), (C_vo vr), (C_ar vr), g_2, (C_fe vr), (C_fi vr), (C_sd vr)), fB G ad vd]) X hw (m_X4_put (G := G) (l := l) (q := (ar 3)) c_3) (Cut.cell (bs' := [xB ax ac af ah at_ ar ad, cB G ac vc, cB G ar ((C_se vr), (C_jo vr), (C_sh vr), (C_pi vr), (C_vo vr), (C_ar vr), g_2, (C_fe vr), (C_fi vr), (C_sd vr)), fB G ad vd]) 2 3 rfl rfl rfl) (va_cwS 3 hts gX4_leastChill_X4_put rfl rfl rfl hd_X4_put.2 ⟨Nat.le_of_ble_eq_true rfl, Nat.le_of_ble_eq_true rfl⟩) rfl hl.1 rfl (Nat.le_of_ble_eq_true rfl) dX4_leastChill_45 ⟨Nat.le_of_ble_eq_true rfl, Nat.le_of_ble_eq_true rfl⟩ (fun H locs hw => ?_)
      refine lv_aload_n hx hb dX4_leastChill_48 rfl (lv_at hl 0 rfl) ?_
      refine x_get (v := .ref (ar 0)) 0 0 X hw in_X4_leastChill_4 rfl rfl rfl 4 (by decide) (List.mem_of_getElem? (i := 2) rfl) rfl rfl dX4_leastChill_49 ?_
      refine lv_iload_n hx hb dX4_leastChill_52 rfl (lv_at hl 1 rfl) ?_
      obtain ⟨r_4, c_5, h⟩ := bd_ok h
      refine x_Vi (As := [.int x1]) (w' := fl [xB ax ac af ah at_ ar ad, cB G ac vc, cB G ar ((C_se vr), (C_jo vr), (C_sh vr), (C_pi vr), (C_vo vr), (C_ar vr), g_2, (C_fe vr), (C_fi vr), (C_sd vr)), fB G ad vd]) X hw (m_X0_stepOf (G := G) (l := l) (a := ar) c_5) (Cut.blocks (bs' := [xB ax ac af ah at_ ar ad, cB G ac vc, cB G ar ((C_se vr), (C_jo vr), (C_sh vr), (C_pi vr), (C_vo vr), (C_ar vr), g_2, (C_fe vr), (C_fi vr), (C_sd vr)), fB G ad vd]) [2] [0, 1, 3] [1, 2, 0, 3] [cB G ar ((C_se vr), (C_jo vr), (C_sh vr), (C_pi vr), (C_vo vr), (C_ar vr), g_2, (C_fe vr), (C_fi vr), (C_sd vr))] rfl rfl rfl rfl rfl) 2 0 rfl rfl rfl (cwV 1 hts gX4_leastChill_X0_stepOf rfl rfl rfl hd_X0_stepOf ⟨Nat.le_of_ble_eq_true rfl, Nat.le_of_ble_eq_true rfl⟩) rfl hl.1 rfl (Nat.le_of_ble_eq_true rfl) dX4_leastChill_53 ⟨Nat.le_of_ble_eq_true rfl, Nat.le_of_ble_eq_true rfl⟩ (fun H locs hw => ?_)
      refine lv_istore (lv' := [(4, .int r_4), (0, .ref ax), (1, .int x1), (2, .int x2), (3, .int x3)]) hx hb dX4_leastChill_56 hl (by decide) rfl (fun ls hl => ?_)
      refine lv_iload hx hb dX4_leastChill_58 (lv_at hl 0 rfl) ?_
      refine lv_iload_n hx hb dX4_leastChill_60 rfl (lv_at hl 3 rfl) ?_
      refine lv_icmp_eq (tgt := 90) hx hb dX4_leastChill_61 (by decide) (fun k_6 => ?_) (fun k_6 => ?_)
      · have h := br_yes h k_6
        obtain ⟨t_7, et_7, h⟩ := nm_ok h
        refine lv_iinc (v := t_7) (lv' := [(3, .int t_7), (4, .int r_4), (0, .ref ax), (1, .int x1), (2, .int x2)]) hx hb dX4_leastChill_90 hl (k := 4) rfl (by rw [et_7]; rfl) (by decide) rfl (fun ls hl => ?_)
        refine lv_goto (tgt := 29) hx hb dX4_leastChill_93 (by decide) ?_
        exact ih ((C_se vr), (C_jo vr), (C_sh vr), (C_pi vr), (C_vo vr), (C_ar vr), g_2, (C_fe vr), (C_fi vr), (C_sd vr)) vd x2 t_7 _ _ _ h hw (lv_sub hl [2, 3, 4, 0] rfl)
      · have h := br_no h k_6
        refine lv_iload hx hb dX4_leastChill_64 (lv_at hl 0 rfl) ?_
        refine lv_istore_n (lv' := [(2, .int r_4), (4, .int r_4), (0, .ref ax), (1, .int x1), (3, .int x3)]) hx hb dX4_leastChill_66 rfl hl (by decide) rfl (fun ls hl => ?_)
        refine lv_aload_n hx hb dX4_leastChill_67 rfl (lv_at hl 2 rfl) ?_
        refine x_get (v := .ref (ad 0)) 0 0 X hw in_X4_leastChill_4 rfl rfl rfl 5 (by decide) (List.mem_of_getElem? (i := 4) rfl) rfl rfl dX4_leastChill_68 ?_
        refine lv_aload_n hx hb dX4_leastChill_71 rfl (lv_at hl 2 rfl) ?_
        refine x_get (v := .ref (ar 0)) 0 0 X hw in_X4_leastChill_4 rfl rfl rfl 4 (by decide) (List.mem_of_getElem? (i := 2) rfl) rfl rfl dX4_leastChill_72 ?_
        obtain ⟨w_8, c_9, h⟩ := bd_ok h
        refine x_Vv (As := [.ref (ar 0)]) (w' := fl [xB ax ac af ah at_ ar ad, cB G ac vc, cB G ar ((C_se vr), (C_jo vr), (C_sh vr), (C_pi vr), (C_vo vr), (C_ar vr), g_2, (C_fe vr), (C_fi vr), (C_sd vr)), fB G ad w_8]) X hw (m_X1_follow (G := G) (l := l) (b := ad) (a := ar) c_9) (Cut.blocks (bs' := [xB ax ac af ah at_ ar ad, cB G ac vc, cB G ar ((C_se vr), (C_jo vr), (C_sh vr), (C_pi vr), (C_vo vr), (C_ar vr), g_2, (C_fe vr), (C_fi vr), (C_sd vr)), fB G ad w_8]) [3, 2] [0, 1] [2, 3, 1, 0] [fB G ad w_8, cB G ar ((C_se vr), (C_jo vr), (C_sh vr), (C_pi vr), (C_vo vr), (C_ar vr), g_2, (C_fe vr), (C_fi vr), (C_sd vr))] rfl rfl rfl rfl rfl) 3 0 rfl rfl rfl (cwV 1 hts gX4_leastChill_X1_follow rfl rfl rfl hd_X1_follow ⟨Nat.le_of_ble_eq_true rfl, Nat.le_of_ble_eq_true rfl⟩) rfl hl.1 rfl (Nat.le_of_ble_eq_true rfl) dX4_leastChill_75 ⟨Nat.le_of_ble_eq_true rfl, Nat.le_of_ble_eq_true rfl⟩ (fun H locs hw => ?_)
        refine lv_aload_n hx hb dX4_leastChill_78 rfl (lv_at hl 2 rfl) ?_
        refine x_get (v := .ref (ad 0)) 0 0 X hw in_X4_leastChill_4 rfl rfl rfl 5 (by decide) (List.mem_of_getElem? (i := 4) rfl) rfl rfl dX4_leastChill_79 ?_
        obtain ⟨r_10, c_11, h⟩ := bd_ok h
        refine x_Vi (As := []) (w' := fl [xB ax ac af ah at_ ar ad, cB G ac vc, cB G ar ((C_se vr), (C_jo vr), (C_sh vr), (C_pi vr), (C_vo vr), (C_ar vr), g_2, (C_fe vr), (C_fi vr), (C_sd vr)), fB G ad w_8]) X hw (m_X1_isSound (G := G) (l := l) (b := ad) c_11) (Cut.blocks (bs' := [xB ax ac af ah at_ ar ad, cB G ac vc, cB G ar ((C_se vr), (C_jo vr), (C_sh vr), (C_pi vr), (C_vo vr), (C_ar vr), g_2, (C_fe vr), (C_fi vr), (C_sd vr)), fB G ad w_8]) [3] [0, 1, 2] [1, 2, 3, 0] [fB G ad w_8] rfl rfl rfl rfl rfl) 3 0 rfl rfl rfl (cwV 0 hts gX4_leastChill_X1_isSound rfl rfl rfl hd_X1_isSound ⟨Nat.le_of_ble_eq_true rfl, Nat.le_of_ble_eq_true rfl⟩) rfl hl.1 rfl (Nat.le_of_ble_eq_true rfl) dX4_leastChill_82 ⟨Nat.le_of_ble_eq_true rfl, Nat.le_of_ble_eq_true rfl⟩ (fun H locs hw => ?_)
        refine lv_if_eq (tgt := 90) hx hb dX4_leastChill_85 (by decide) (fun k_12 => ?_) (fun k_12 => ?_)
        · have h := br_yes h k_12
          obtain ⟨t_13, et_13, h⟩ := nm_ok h
          refine lv_iinc (v := t_13) (lv' := [(3, .int t_13), (2, .int r_4), (4, .int r_4), (0, .ref ax), (1, .int x1)]) hx hb dX4_leastChill_90 hl (k := 4) rfl (by rw [et_13]; rfl) (by decide) rfl (fun ls hl => ?_)
          refine lv_goto (tgt := 29) hx hb dX4_leastChill_93 (by decide) ?_
          exact ih ((C_se vr), (C_jo vr), (C_sh vr), (C_pi vr), (C_vo vr), (C_ar vr), g_2, (C_fe vr), (C_fi vr), (C_sd vr)) w_8 r_4 t_13 _ _ _ h hw (lv_sub hl [3, 4, 1, 0] rfl)
        · have h := br_no h k_12
          refine lv_iload_n hx hb dX4_leastChill_88 rfl (lv_at hl 4 rfl) ?_
          cases h
          exact x_iret X (vp_nar_int _) hw rfl rfl dX4_leastChill_89
noncomputable def f_X4_leastChill  (vc : CV) (vr : CV) (vd : FV) (x1 : Int32) : Option (Int32 × CV × FV) :=
  bd (f_X0_has vc x1) fun r_1 =>
  br (r_1 = 0)
    (some ((-2), vr, vd))
    (bd (f_X0_copyFrom vr vc) fun v_4 =>
     f_X4_leastChill_b29 vc x1 FU v_4 vd (-1) 0)
set_option maxHeartbeats 4000000 in
set_option maxRecDepth 100000 in
theorem m_X4_leastChill {G : GG} {l : Launch} {ax : Nat} {ac af ah at_ ar ad : Nat → Nat} {vc : CV} {vr : CV} {vd : FV} {x1 : Int32} {r : Int32} {zvr : CV} {zvd : FV} (h : f_X4_leastChill vc vr vd x1 = some (r, zvr, zvd)) : Ci G l yX4_leastChill wsX4_leastChill rX4_leastChill [.ref ax, .int x1] (fl [xB ax ac af ah at_ ar ad, cB G ac vc, cB G ar vr, fB G ad vd]) r (fl [xB ax ac af ah at_ ar ad, cB G ac vc, cB G ar zvr, fB G ad zvd]) := by
  refine Ci.intro cX4_leastChill 5 (some .int) RX4 (by decide) rfl rfl (Nat.le_of_ble_eq_true rfl) ?_
  intro p e s m below meth c A ls X hw hl
  obtain ⟨⟨hx, hb, hml, hown, hts⟩, hK, hr, hlk, hA⟩ := id X
  unfold f_X4_leastChill at h
  have hl : lv_has ls 5 [(0, .ref ax), (1, .int x1)] := hl
  refine lv_aload_n hx hb dX4_leastChill_0 rfl (lv_at hl 0 rfl) ?_
  refine x_get (v := .ref (ac 0)) 0 0 X hw in_X4_leastChill_4 rfl rfl rfl 0 (by decide) (List.mem_of_getElem? (i := 1) rfl) rfl rfl dX4_leastChill_1 ?_
  refine lv_iload_n hx hb dX4_leastChill_4 rfl (lv_at hl 1 rfl) ?_
  obtain ⟨r_1, c_2, h⟩ := bd_ok h
  refine x_Vi (As := [.int x1]) (w' := fl [xB ax ac af ah at_ ar ad, cB G ac vc, cB G ar vr, fB G ad vd]) X hw (m_X0_has (G := G) (l := l) (a := ac) c_2) (Cut.blocks (bs' := [xB ax ac af ah at_ ar ad, cB G ac vc, cB G ar vr, fB G ad vd]) [1] [0, 2, 3] [1, 0, 2, 3] [cB G ac vc] rfl rfl rfl rfl rfl) 1 0 rfl rfl rfl (cwV 1 hts gX4_leastChill_X0_has rfl rfl rfl hd_X0_has ⟨Nat.le_of_ble_eq_true rfl, Nat.le_of_ble_eq_true rfl⟩) rfl hl.1 rfl (Nat.le_of_ble_eq_true rfl) dX4_leastChill_5 ⟨Nat.le_of_ble_eq_true rfl, Nat.le_of_ble_eq_true rfl⟩ (fun H locs hw => ?_)
  refine lv_if_ne (tgt := 14) hx hb dX4_leastChill_8 (by decide) (fun k_3 => ?_) (fun k_3 => ?_)
  · have h := br_no h k_3
    refine lv_aload_n hx hb dX4_leastChill_14 rfl (lv_at hl 0 rfl) ?_
    refine x_get (v := .ref (ar 0)) 0 0 X hw in_X4_leastChill_4 rfl rfl rfl 4 (by decide) (List.mem_of_getElem? (i := 2) rfl) rfl rfl dX4_leastChill_15 ?_
    refine lv_aload_n hx hb dX4_leastChill_18 rfl (lv_at hl 0 rfl) ?_
    refine x_get (v := .ref (ac 0)) 0 0 X hw in_X4_leastChill_4 rfl rfl rfl 0 (by decide) (List.mem_of_getElem? (i := 1) rfl) rfl rfl dX4_leastChill_19 ?_
    obtain ⟨v_4, c_5, h⟩ := bd_ok h
    refine x_Vv (As := [.ref (ac 0)]) (w' := fl [xB ax ac af ah at_ ar ad, cB G ac vc, cB G ar v_4, fB G ad vd]) X hw (m_X0_copyFrom (G := G) (l := l) (a := ar) (a1 := ac) c_5) (Cut.blocks (bs' := [xB ax ac af ah at_ ar ad, cB G ac vc, cB G ar v_4, fB G ad vd]) [2, 1] [0, 3] [2, 1, 0, 3] [cB G ar v_4, cB G ac vc] rfl rfl rfl rfl rfl) 2 0 rfl rfl rfl (cwV 1 hts gX4_leastChill_X0_copyFrom rfl rfl rfl hd_X0_copyFrom ⟨Nat.le_of_ble_eq_true rfl, Nat.le_of_ble_eq_true rfl⟩) rfl hl.1 rfl (Nat.le_of_ble_eq_true rfl) dX4_leastChill_22 ⟨Nat.le_of_ble_eq_true rfl, Nat.le_of_ble_eq_true rfl⟩ (fun H locs hw => ?_)
    refine lv_iconst (v := (-1)) hx hb dX4_leastChill_25 (by decide) ?_
    refine lv_istore_n (lv' := [(2, .int (-1)), (0, .ref ax), (1, .int x1)]) hx hb dX4_leastChill_26 rfl hl (by decide) rfl (fun ls hl => ?_)
    refine lv_iconst (v := 0) hx hb dX4_leastChill_27 (by decide) ?_
    refine lv_istore_n (lv' := [(3, .int 0), (2, .int (-1)), (0, .ref ax), (1, .int x1)]) hx hb dX4_leastChill_28 rfl hl (by decide) rfl (fun ls hl => ?_)
    exact w_X4_leastChill_b29 X FU v_4 vd (-1) 0 _ _ _ h hw (lv_sub hl [2, 3, 1, 0] rfl)
  · have h := br_yes h k_3
    refine lv_bipush (v := (-2)) hx hb dX4_leastChill_11 (by decide) ?_
    cases h
    exact x_iret X (vp_nar_int _) hw rfl rfl dX4_leastChill_13

def rX4_excessWith : Room := { frames := 5, cells := 0, slots := 0, locals := 107 }
theorem hd_X4_excessWith : yX4_excessWith.cls = RX4 ∧ yX4_excessWith.cls ≠ "java/lang/invoke/MethodHandle" ∧ yX4_excessWith.cls ≠ "java/lang/invoke/VarHandle" ∧ (parseMethodDescriptor yX4_excessWith.desc).map (fun d => d.parameters.length) = some 2 := by decide +kernel
theorem in_X4_excessWith_0 : ∀ w ∈ u_ws RX0 TX0 10, w ∈ wsX4_excessWith := fun w h => (List.mem_cons_of_mem _ (List.mem_append_left _ (List.mem_append_right _ h)))
theorem in_X4_excessWith_4 : ∀ w ∈ u_ws RX4 TX4 6, w ∈ wsX4_excessWith := fun w h => (List.mem_cons_of_mem _ (List.mem_append_left _ (List.mem_append_left _ (List.mem_append_right _ h))))
noncomputable def f_X4_excessWith  (vc : CV) (vr : CV) (vd : FV) (x1 : Int32) (x2 : Int32) : Option (Int32 × CV × FV) :=
  bd (f_X0_has vc x1) fun r_1 =>
  br (r_1 = 0)
    (some ((-2), vr, vd))
    (bd (f_X4_isWithin x2 0 500) fun r_4 =>
     br (r_4 = 0)
       (some ((-3), vr, vd))
       (bd (f_X0_copyFrom vr vc) fun v_7 =>
        bd (f_X4_put 12 (C_ch v_7) x1 x2) fun g_9 =>
        bd (f_X1_follow vd ((C_se v_7), (C_jo v_7), (C_sh v_7), (C_pi v_7), (C_vo v_7), (C_ar v_7), g_9, (C_fe v_7), (C_fi v_7), (C_sd v_7))) fun w_11 =>
        bd (f_X1_excessOfAll w_11) fun r_13 =>
        some (r_13, ((C_se v_7), (C_jo v_7), (C_sh v_7), (C_pi v_7), (C_vo v_7), (C_ar v_7), g_9, (C_fe v_7), (C_fi v_7), (C_sd v_7)), w_11)))
set_option maxHeartbeats 4000000 in
set_option maxRecDepth 100000 in
theorem m_X4_excessWith {G : GG} {l : Launch} {ax : Nat} {ac af ah at_ ar ad : Nat → Nat} {vc : CV} {vr : CV} {vd : FV} {x1 : Int32} {x2 : Int32} {r : Int32} {zvr : CV} {zvd : FV} (h : f_X4_excessWith vc vr vd x1 x2 = some (r, zvr, zvd)) : Ci G l yX4_excessWith wsX4_excessWith rX4_excessWith [.ref ax, .int x1, .int x2] (fl [xB ax ac af ah at_ ar ad, cB G ac vc, cB G ar vr, fB G ad vd]) r (fl [xB ax ac af ah at_ ar ad, cB G ac vc, cB G ar zvr, fB G ad zvd]) := by
  refine Ci.intro cX4_excessWith 3 (some .int) RX4 (by decide) rfl rfl (Nat.le_of_ble_eq_true rfl) ?_
  intro p e s m below meth c A ls X hw hl
  obtain ⟨⟨hx, hb, hml, hown, hts⟩, hK, hr, hlk, hA⟩ := id X
  unfold f_X4_excessWith at h
  have hl : lv_has ls 3 [(0, .ref ax), (1, .int x1), (2, .int x2)] := hl
  refine lv_aload_n hx hb dX4_excessWith_0 rfl (lv_at hl 0 rfl) ?_
  refine x_get (v := .ref (ac 0)) 0 0 X hw in_X4_excessWith_4 rfl rfl rfl 0 (by decide) (List.mem_of_getElem? (i := 1) rfl) rfl rfl dX4_excessWith_1 ?_
  refine lv_iload_n hx hb dX4_excessWith_4 rfl (lv_at hl 1 rfl) ?_
  obtain ⟨r_1, c_2, h⟩ := bd_ok h
  refine x_Vi (As := [.int x1]) (w' := fl [xB ax ac af ah at_ ar ad, cB G ac vc, cB G ar vr, fB G ad vd]) X hw (m_X0_has (G := G) (l := l) (a := ac) c_2) (Cut.blocks (bs' := [xB ax ac af ah at_ ar ad, cB G ac vc, cB G ar vr, fB G ad vd]) [1] [0, 2, 3] [1, 0, 2, 3] [cB G ac vc] rfl rfl rfl rfl rfl) 1 0 rfl rfl rfl (cwV 1 hts gX4_excessWith_X0_has rfl rfl rfl hd_X0_has ⟨Nat.le_of_ble_eq_true rfl, Nat.le_of_ble_eq_true rfl⟩) rfl hl.1 rfl (Nat.le_of_ble_eq_true rfl) dX4_excessWith_5 ⟨Nat.le_of_ble_eq_true rfl, Nat.le_of_ble_eq_true rfl⟩ (fun H locs hw => ?_)
  refine lv_if_ne (tgt := 14) hx hb dX4_excessWith_8 (by decide) (fun k_3 => ?_) (fun k_3 => ?_)
  · have h := br_no h k_3
    refine lv_iload_n hx hb dX4_excessWith_14 rfl (lv_at hl 2 rfl) ?_
    refine lv_iconst (v := 0) hx hb dX4_excessWith_15 (by decide) ?_
    refine lv_sipush (v := 500) hx hb dX4_excessWith_16 (by decide) ?_
    obtain ⟨r_4, c_5, h⟩ := bd_ok h
    refine x_Si (As := [.int x2, .int 0, .int 500]) (w' := fl [xB ax ac af ah at_ ar ad, cB G ac vc, cB G ar vr, fB G ad vd]) X hw (m_X4_isWithin (G := G) (l := l) c_5) Cut.nil (va_cwS 3 hts gX4_excessWith_X4_isWithin rfl rfl rfl hd_X4_isWithin.2 ⟨Nat.le_of_ble_eq_true rfl, Nat.le_of_ble_eq_true rfl⟩) rfl hl.1 rfl (Nat.le_of_ble_eq_true rfl) dX4_excessWith_19 ⟨Nat.le_of_ble_eq_true rfl, Nat.le_of_ble_eq_true rfl⟩ (fun H locs hw => ?_)
    refine lv_if_ne (tgt := 28) hx hb dX4_excessWith_22 (by decide) (fun k_6 => ?_) (fun k_6 => ?_)
    · have h := br_no h k_6
      refine lv_aload_n hx hb dX4_excessWith_28 rfl (lv_at hl 0 rfl) ?_
      refine x_get (v := .ref (ar 0)) 0 0 X hw in_X4_excessWith_4 rfl rfl rfl 4 (by decide) (List.mem_of_getElem? (i := 2) rfl) rfl rfl dX4_excessWith_29 ?_
      refine lv_aload_n hx hb dX4_excessWith_32 rfl (lv_at hl 0 rfl) ?_
      refine x_get (v := .ref (ac 0)) 0 0 X hw in_X4_excessWith_4 rfl rfl rfl 0 (by decide) (List.mem_of_getElem? (i := 1) rfl) rfl rfl dX4_excessWith_33 ?_
      obtain ⟨v_7, c_8, h⟩ := bd_ok h
      refine x_Vv (As := [.ref (ac 0)]) (w' := fl [xB ax ac af ah at_ ar ad, cB G ac vc, cB G ar v_7, fB G ad vd]) X hw (m_X0_copyFrom (G := G) (l := l) (a := ar) (a1 := ac) c_8) (Cut.blocks (bs' := [xB ax ac af ah at_ ar ad, cB G ac vc, cB G ar v_7, fB G ad vd]) [2, 1] [0, 3] [2, 1, 0, 3] [cB G ar v_7, cB G ac vc] rfl rfl rfl rfl rfl) 2 0 rfl rfl rfl (cwV 1 hts gX4_excessWith_X0_copyFrom rfl rfl rfl hd_X0_copyFrom ⟨Nat.le_of_ble_eq_true rfl, Nat.le_of_ble_eq_true rfl⟩) rfl hl.1 rfl (Nat.le_of_ble_eq_true rfl) dX4_excessWith_36 ⟨Nat.le_of_ble_eq_true rfl, Nat.le_of_ble_eq_true rfl⟩ (fun H locs hw => ?_)
      refine lv_aload_n hx hb dX4_excessWith_39 rfl (lv_at hl 0 rfl) ?_
      refine x_get (v := .ref (ar 0)) 0 0 X hw in_X4_excessWith_4 rfl rfl rfl 4 (by decide) (List.mem_of_getElem? (i := 2) rfl) rfl rfl dX4_excessWith_40 ?_
      refine x_get (v := .ref (ar 3)) 2 0 X hw in_X4_excessWith_0 rfl rfl rfl 6 (by decide) (List.mem_of_getElem? (i := 3) rfl) rfl rfl dX4_excessWith_43 ?_
      refine lv_iload_n hx hb dX4_excessWith_46 rfl (lv_at hl 1 rfl) ?_
      refine lv_iload_n hx hb dX4_excessWith_47 rfl (lv_at hl 2 rfl) ?_
      obtain ⟨g_9, c_10, h⟩ := bd_ok h
      refine x_Sv (As := [.ref (ar 3), .int x1, .int x2]) (w' := fl [xB ax ac af ah at_ ar ad, cB G ac vc, cB G ar ((C_se v_7), (C_jo v_7), (C_sh v_7), (C_pi v_7), (C_vo v_7), (C_ar v_7), g_9, (C_fe v_7), (C_fi v_7), (C_sd v_7)), fB G ad vd]) X hw (m_X4_put (G := G) (l := l) (q := (ar 3)) c_10) (Cut.cell (bs' := [xB ax ac af ah at_ ar ad, cB G ac vc, cB G ar ((C_se v_7), (C_jo v_7), (C_sh v_7), (C_pi v_7), (C_vo v_7), (C_ar v_7), g_9, (C_fe v_7), (C_fi v_7), (C_sd v_7)), fB G ad vd]) 2 3 rfl rfl rfl) (va_cwS 3 hts gX4_excessWith_X4_put rfl rfl rfl hd_X4_put.2 ⟨Nat.le_of_ble_eq_true rfl, Nat.le_of_ble_eq_true rfl⟩) rfl hl.1 rfl (Nat.le_of_ble_eq_true rfl) dX4_excessWith_48 ⟨Nat.le_of_ble_eq_true rfl, Nat.le_of_ble_eq_true rfl⟩ (fun H locs hw => ?_)
      refine lv_aload_n hx hb dX4_excessWith_51 rfl (lv_at hl 0 rfl) ?_
      refine x_get (v := .ref (ad 0)) 0 0 X hw in_X4_excessWith_4 rfl rfl rfl 5 (by decide) (List.mem_of_getElem? (i := 4) rfl) rfl rfl dX4_excessWith_52 ?_
      refine lv_aload_n hx hb dX4_excessWith_55 rfl (lv_at hl 0 rfl) ?_
      refine x_get (v := .ref (ar 0)) 0 0 X hw in_X4_excessWith_4 rfl rfl rfl 4 (by decide) (List.mem_of_getElem? (i := 2) rfl) rfl rfl dX4_excessWith_56 ?_
      obtain ⟨w_11, c_12, h⟩ := bd_ok h
      refine x_Vv (As := [.ref (ar 0)]) (w' := fl [xB ax ac af ah at_ ar ad, cB G ac vc, cB G ar ((C_se v_7), (C_jo v_7), (C_sh v_7), (C_pi v_7), (C_vo v_7), (C_ar v_7), g_9, (C_fe v_7), (C_fi v_7), (C_sd v_7)), fB G ad w_11]) X hw (m_X1_follow (G := G) (l := l) (b := ad) (a := ar) c_12) (Cut.blocks (bs' := [xB ax ac af ah at_ ar ad, cB G ac vc, cB G ar ((C_se v_7), (C_jo v_7), (C_sh v_7), (C_pi v_7), (C_vo v_7), (C_ar v_7), g_9, (C_fe v_7), (C_fi v_7), (C_sd v_7)), fB G ad w_11]) [3, 2] [0, 1] [2, 3, 1, 0] [fB G ad w_11, cB G ar ((C_se v_7), (C_jo v_7), (C_sh v_7), (C_pi v_7), (C_vo v_7), (C_ar v_7), g_9, (C_fe v_7), (C_fi v_7), (C_sd v_7))] rfl rfl rfl rfl rfl) 3 0 rfl rfl rfl (cwV 1 hts gX4_excessWith_X1_follow rfl rfl rfl hd_X1_follow ⟨Nat.le_of_ble_eq_true rfl, Nat.le_of_ble_eq_true rfl⟩) rfl hl.1 rfl (Nat.le_of_ble_eq_true rfl) dX4_excessWith_59 ⟨Nat.le_of_ble_eq_true rfl, Nat.le_of_ble_eq_true rfl⟩ (fun H locs hw => ?_)
      refine lv_aload_n hx hb dX4_excessWith_62 rfl (lv_at hl 0 rfl) ?_
      refine x_get (v := .ref (ad 0)) 0 0 X hw in_X4_excessWith_4 rfl rfl rfl 5 (by decide) (List.mem_of_getElem? (i := 4) rfl) rfl rfl dX4_excessWith_63 ?_
      obtain ⟨r_13, c_14, h⟩ := bd_ok h
      refine x_Vi (As := []) (w' := fl [xB ax ac af ah at_ ar ad, cB G ac vc, cB G ar ((C_se v_7), (C_jo v_7), (C_sh v_7), (C_pi v_7), (C_vo v_7), (C_ar v_7), g_9, (C_fe v_7), (C_fi v_7), (C_sd v_7)), fB G ad w_11]) X hw (m_X1_excessOfAll (G := G) (l := l) (b := ad) c_14) (Cut.blocks (bs' := [xB ax ac af ah at_ ar ad, cB G ac vc, cB G ar ((C_se v_7), (C_jo v_7), (C_sh v_7), (C_pi v_7), (C_vo v_7), (C_ar v_7), g_9, (C_fe v_7), (C_fi v_7), (C_sd v_7)), fB G ad w_11]) [3] [0, 1, 2] [1, 2, 3, 0] [fB G ad w_11] rfl rfl rfl rfl rfl) 3 0 rfl rfl rfl (cwV 0 hts gX4_excessWith_X1_excessOfAll rfl rfl rfl hd_X1_excessOfAll ⟨Nat.le_of_ble_eq_true rfl, Nat.le_of_ble_eq_true rfl⟩) rfl hl.1 rfl (Nat.le_of_ble_eq_true rfl) dX4_excessWith_66 ⟨Nat.le_of_ble_eq_true rfl, Nat.le_of_ble_eq_true rfl⟩ (fun H locs hw => ?_)
      cases h
      exact x_iret X (vp_nar_int _) hw rfl rfl dX4_excessWith_69
    · have h := br_yes h k_6
      refine lv_bipush (v := (-3)) hx hb dX4_excessWith_25 (by decide) ?_
      cases h
      exact x_iret X (vp_nar_int _) hw rfl rfl dX4_excessWith_27
  · have h := br_yes h k_3
    refine lv_bipush (v := (-2)) hx hb dX4_excessWith_11 (by decide) ?_
    cases h
    exact x_iret X (vp_nar_int _) hw rfl rfl dX4_excessWith_13

def rX4_undo : Room := { frames := 5, cells := 0, slots := 0, locals := 107 }
theorem hd_X4_undo : yX4_undo.cls = RX4 ∧ yX4_undo.cls ≠ "java/lang/invoke/MethodHandle" ∧ yX4_undo.cls ≠ "java/lang/invoke/VarHandle" ∧ (parseMethodDescriptor yX4_undo.desc).map (fun d => d.parameters.length) = some 0 := by decide +kernel
theorem in_X4_undo_2 : ∀ w ∈ u_ws RX2 TX2 2, w ∈ wsX4_undo := fun w h => (List.mem_cons_of_mem _ (List.mem_append_left _ (List.mem_append_left _ (List.mem_append_right _ h))))
theorem in_X4_undo_4 : ∀ w ∈ u_ws RX4 TX4 6, w ∈ wsX4_undo := fun w h => (List.mem_cons_of_mem _ (List.mem_append_left _ (List.mem_append_left _ (List.mem_append_left _ (List.mem_append_right _ h)))))
noncomputable def f_X4_undo  (vc : CV) (vf : FV) (vh : HV)  : Option (Int32 × CV × FV × HV) :=
  bd (f_X2_isEmpty vh) fun r_1 =>
  br (r_1 = 0)
    (bd2 (f_X2_restore vh vc) fun g_4 v_5 =>
     bd (f_X1_follow vf v_5) fun w_7 =>
     some ((H_si g_4), v_5, w_7, g_4))
    (some ((-4), vc, vf, vh))
set_option maxHeartbeats 4000000 in
set_option maxRecDepth 100000 in
theorem m_X4_undo {G : GG} {l : Launch} {ax : Nat} {ac af ah at_ ar ad : Nat → Nat} {vc : CV} {vf : FV} {vh : HV}  {r : Int32} {zvc : CV} {zvf : FV} {zvh : HV} (h : f_X4_undo vc vf vh = some (r, zvc, zvf, zvh)) : Ci G l yX4_undo wsX4_undo rX4_undo [.ref ax] (fl [xB ax ac af ah at_ ar ad, cB G ac vc, fB G af vf, hB G ah vh]) r (fl [xB ax ac af ah at_ ar ad, cB G ac zvc, fB G af zvf, hB G ah zvh]) := by
  refine Ci.intro cX4_undo 1 (some .int) RX4 (by decide) rfl rfl (Nat.le_of_ble_eq_true rfl) ?_
  intro p e s m below meth c A ls X hw hl
  obtain ⟨⟨hx, hb, hml, hown, hts⟩, hK, hr, hlk, hA⟩ := id X
  unfold f_X4_undo at h
  have hl : lv_has ls 1 [(0, .ref ax)] := hl
  refine lv_aload_n hx hb dX4_undo_0 rfl (lv_at hl 0 rfl) ?_
  refine x_get (v := .ref (ah 0)) 0 0 X hw in_X4_undo_4 rfl rfl rfl 2 (by decide) (List.mem_of_getElem? (i := 1) rfl) rfl rfl dX4_undo_1 ?_
  obtain ⟨r_1, c_2, h⟩ := bd_ok h
  refine x_Vi (As := []) (w' := fl [xB ax ac af ah at_ ar ad, cB G ac vc, fB G af vf, hB G ah vh]) X hw (m_X2_isEmpty (G := G) (l := l) (d := ah) c_2) (Cut.blocks (bs' := [xB ax ac af ah at_ ar ad, cB G ac vc, fB G af vf, hB G ah vh]) [3] [0, 1, 2] [1, 2, 3, 0] [hB G ah vh] rfl rfl rfl rfl rfl) 3 0 rfl rfl rfl (cwV 0 hts gX4_undo_X2_isEmpty rfl rfl rfl hd_X2_isEmpty ⟨Nat.le_of_ble_eq_true rfl, Nat.le_of_ble_eq_true rfl⟩) rfl hl.1 rfl (Nat.le_of_ble_eq_true rfl) dX4_undo_4 ⟨Nat.le_of_ble_eq_true rfl, Nat.le_of_ble_eq_true rfl⟩ (fun H locs hw => ?_)
  refine lv_if_eq (tgt := 13) hx hb dX4_undo_7 (by decide) (fun k_3 => ?_) (fun k_3 => ?_)
  · have h := br_yes h k_3
    refine lv_aload_n hx hb dX4_undo_13 rfl (lv_at hl 0 rfl) ?_
    refine x_get (v := .ref (ah 0)) 0 0 X hw in_X4_undo_4 rfl rfl rfl 2 (by decide) (List.mem_of_getElem? (i := 1) rfl) rfl rfl dX4_undo_14 ?_
    refine lv_aload_n hx hb dX4_undo_17 rfl (lv_at hl 0 rfl) ?_
    refine x_get (v := .ref (ac 0)) 0 0 X hw in_X4_undo_4 rfl rfl rfl 0 (by decide) (List.mem_of_getElem? (i := 2) rfl) rfl rfl dX4_undo_18 ?_
    obtain ⟨g_4, v_5, c_6, h⟩ := bd2_ok h
    refine x_Vv (As := [.ref (ac 0)]) (w' := fl [xB ax ac af ah at_ ar ad, cB G ac v_5, fB G af vf, hB G ah g_4]) X hw (m_X2_restore (G := G) (l := l) (d := ah) (a := ac) c_6) (Cut.blocks (bs' := [xB ax ac af ah at_ ar ad, cB G ac v_5, fB G af vf, hB G ah g_4]) [3, 1] [0, 2] [2, 1, 3, 0] [hB G ah g_4, cB G ac v_5] rfl rfl rfl rfl rfl) 3 0 rfl rfl rfl (cwV 1 hts gX4_undo_X2_restore rfl rfl rfl hd_X2_restore ⟨Nat.le_of_ble_eq_true rfl, Nat.le_of_ble_eq_true rfl⟩) rfl hl.1 rfl (Nat.le_of_ble_eq_true rfl) dX4_undo_21 ⟨Nat.le_of_ble_eq_true rfl, Nat.le_of_ble_eq_true rfl⟩ (fun H locs hw => ?_)
    refine lv_aload_n hx hb dX4_undo_24 rfl (lv_at hl 0 rfl) ?_
    refine x_get (v := .ref (af 0)) 0 0 X hw in_X4_undo_4 rfl rfl rfl 1 (by decide) (List.mem_of_getElem? (i := 3) rfl) rfl rfl dX4_undo_25 ?_
    refine lv_aload_n hx hb dX4_undo_28 rfl (lv_at hl 0 rfl) ?_
    refine x_get (v := .ref (ac 0)) 0 0 X hw in_X4_undo_4 rfl rfl rfl 0 (by decide) (List.mem_of_getElem? (i := 2) rfl) rfl rfl dX4_undo_29 ?_
    obtain ⟨w_7, c_8, h⟩ := bd_ok h
    refine x_Vv (As := [.ref (ac 0)]) (w' := fl [xB ax ac af ah at_ ar ad, cB G ac v_5, fB G af w_7, hB G ah g_4]) X hw (m_X1_follow (G := G) (l := l) (b := af) (a := ac) c_8) (Cut.blocks (bs' := [xB ax ac af ah at_ ar ad, cB G ac v_5, fB G af w_7, hB G ah g_4]) [2, 1] [0, 3] [2, 1, 0, 3] [fB G af w_7, cB G ac v_5] rfl rfl rfl rfl rfl) 2 0 rfl rfl rfl (cwV 1 hts gX4_undo_X1_follow rfl rfl rfl hd_X1_follow ⟨Nat.le_of_ble_eq_true rfl, Nat.le_of_ble_eq_true rfl⟩) rfl hl.1 rfl (Nat.le_of_ble_eq_true rfl) dX4_undo_32 ⟨Nat.le_of_ble_eq_true rfl, Nat.le_of_ble_eq_true rfl⟩ (fun H locs hw => ?_)
    refine lv_aload_n hx hb dX4_undo_35 rfl (lv_at hl 0 rfl) ?_
    refine x_get (v := .ref (ah 0)) 0 0 X hw in_X4_undo_4 rfl rfl rfl 2 (by decide) (List.mem_of_getElem? (i := 1) rfl) rfl rfl dX4_undo_36 ?_
    refine x_get (v := .int (H_si g_4)) 3 0 X hw in_X4_undo_2 rfl rfl rfl 1 (by decide) (List.mem_of_getElem? (i := 4) rfl) rfl rfl dX4_undo_39 ?_
    cases h
    exact x_iret X (vp_nar_int _) hw rfl rfl dX4_undo_42
  · have h := br_no h k_3
    refine lv_bipush (v := (-4)) hx hb dX4_undo_10 (by decide) ?_
    cases h
    exact x_iret X (vp_nar_int _) hw rfl rfl dX4_undo_12

def rX4_load : Room := { frames := 6, cells := 0, slots := 0, locals := 142 }
theorem hd_X4_load : yX4_load.cls = RX4 ∧ yX4_load.cls ≠ "java/lang/invoke/MethodHandle" ∧ yX4_load.cls ≠ "java/lang/invoke/VarHandle" ∧ (parseMethodDescriptor yX4_load.desc).map (fun d => d.parameters.length) = some 0 := by decide +kernel
theorem in_X4_load_3 : ∀ w ∈ u_ws RX3 TX3 5, w ∈ wsX4_load := fun w h => (List.mem_cons_of_mem _ (List.mem_append_left _ (List.mem_append_left _ (List.mem_append_left _ (List.mem_append_right _ h)))))
theorem in_X4_load_4 : ∀ w ∈ u_ws RX4 TX4 6, w ∈ wsX4_load := fun w h => (List.mem_cons_of_mem _ (List.mem_append_left _ (List.mem_append_left _ (List.mem_append_left _ (List.mem_append_left _ (List.mem_append_right _ h))))))
noncomputable def f_X4_load  (vc : CV) (vf : FV) (vh : HV) (vt : TV) (vr : CV)  : Option (Int32 × CV × FV × HV × TV × CV) :=
  bd (f_X0_copyFrom vr vc) fun v_1 =>
  bd3 (f_X3_readInto vt v_1) fun r_3 u_4 v_5 =>
  br (r_3 = (-1))
    (bd (f_X2_keep vh vc) fun g_8 =>
     bd (f_X0_copyFrom vc v_5) fun v_10 =>
     bd (f_X1_follow vf v_10) fun w_12 =>
     some ((T_it u_4), v_10, w_12, g_8, u_4, v_5))
    (some ((-4), vc, vf, vh, u_4, v_5))
set_option maxHeartbeats 4000000 in
set_option maxRecDepth 100000 in
theorem m_X4_load {G : GG} {l : Launch} {ax : Nat} {ac af ah at_ ar ad : Nat → Nat} {vc : CV} {vf : FV} {vh : HV} {vt : TV} {vr : CV}  {r : Int32} {zvc : CV} {zvf : FV} {zvh : HV} {zvt : TV} {zvr : CV} (h : f_X4_load vc vf vh vt vr = some (r, zvc, zvf, zvh, zvt, zvr)) : Ci G l yX4_load wsX4_load rX4_load [.ref ax] (fl [xB ax ac af ah at_ ar ad, cB G ac vc, fB G af vf, hB G ah vh, tB G at_ vt, cB G ar vr]) r (fl [xB ax ac af ah at_ ar ad, cB G ac zvc, fB G af zvf, hB G ah zvh, tB G at_ zvt, cB G ar zvr]) := by
  refine Ci.intro cX4_load 1 (some .int) RX4 (by decide) rfl rfl (Nat.le_of_ble_eq_true rfl) ?_
  intro p e s m below meth c A ls X hw hl
  obtain ⟨⟨hx, hb, hml, hown, hts⟩, hK, hr, hlk, hA⟩ := id X
  unfold f_X4_load at h
  have hl : lv_has ls 1 [(0, .ref ax)] := hl
  refine lv_aload_n hx hb dX4_load_0 rfl (lv_at hl 0 rfl) ?_
  refine x_get (v := .ref (ar 0)) 0 0 X hw in_X4_load_4 rfl rfl rfl 4 (by decide) (List.mem_of_getElem? (i := 1) rfl) rfl rfl dX4_load_1 ?_
  refine lv_aload_n hx hb dX4_load_4 rfl (lv_at hl 0 rfl) ?_
  refine x_get (v := .ref (ac 0)) 0 0 X hw in_X4_load_4 rfl rfl rfl 0 (by decide) (List.mem_of_getElem? (i := 2) rfl) rfl rfl dX4_load_5 ?_
  obtain ⟨v_1, c_2, h⟩ := bd_ok h
  refine x_Vv (As := [.ref (ac 0)]) (w' := fl [xB ax ac af ah at_ ar ad, cB G ac vc, fB G af vf, hB G ah vh, tB G at_ vt, cB G ar v_1]) X hw (m_X0_copyFrom (G := G) (l := l) (a := ar) (a1 := ac) c_2) (Cut.blocks (bs' := [xB ax ac af ah at_ ar ad, cB G ac vc, fB G af vf, hB G ah vh, tB G at_ vt, cB G ar v_1]) [5, 1] [0, 2, 3, 4] [2, 1, 3, 4, 5, 0] [cB G ar v_1, cB G ac vc] rfl rfl rfl rfl rfl) 5 0 rfl rfl rfl (cwV 1 hts gX4_load_X0_copyFrom rfl rfl rfl hd_X0_copyFrom ⟨Nat.le_of_ble_eq_true rfl, Nat.le_of_ble_eq_true rfl⟩) rfl hl.1 rfl (Nat.le_of_ble_eq_true rfl) dX4_load_8 ⟨Nat.le_of_ble_eq_true rfl, Nat.le_of_ble_eq_true rfl⟩ (fun H locs hw => ?_)
  refine lv_aload_n hx hb dX4_load_11 rfl (lv_at hl 0 rfl) ?_
  refine x_get (v := .ref (at_ 0)) 0 0 X hw in_X4_load_4 rfl rfl rfl 3 (by decide) (List.mem_of_getElem? (i := 3) rfl) rfl rfl dX4_load_12 ?_
  refine lv_aload_n hx hb dX4_load_15 rfl (lv_at hl 0 rfl) ?_
  refine x_get (v := .ref (ar 0)) 0 0 X hw in_X4_load_4 rfl rfl rfl 4 (by decide) (List.mem_of_getElem? (i := 1) rfl) rfl rfl dX4_load_16 ?_
  obtain ⟨r_3, u_4, v_5, c_6, h⟩ := bd3_ok h
  refine x_Vi (As := [.ref (ar 0)]) (w' := fl [xB ax ac af ah at_ ar ad, cB G ac vc, fB G af vf, hB G ah vh, tB G at_ u_4, cB G ar v_5]) X hw (m_X3_readInto (G := G) (l := l) (t := at_) (a := ar) c_6) (Cut.blocks (bs' := [xB ax ac af ah at_ ar ad, cB G ac vc, fB G af vf, hB G ah vh, tB G at_ u_4, cB G ar v_5]) [4, 5] [0, 1, 2, 3] [2, 3, 4, 5, 0, 1] [tB G at_ u_4, cB G ar v_5] rfl rfl rfl rfl rfl) 4 0 rfl rfl rfl (cwV 1 hts gX4_load_X3_readInto rfl rfl rfl hd_X3_readInto ⟨Nat.le_of_ble_eq_true rfl, Nat.le_of_ble_eq_true rfl⟩) rfl hl.1 rfl (Nat.le_of_ble_eq_true rfl) dX4_load_19 ⟨Nat.le_of_ble_eq_true rfl, Nat.le_of_ble_eq_true rfl⟩ (fun H locs hw => ?_)
  refine lv_iconst (v := (-1)) hx hb dX4_load_22 (by decide) ?_
  refine lv_icmp_eq (tgt := 29) hx hb dX4_load_23 (by decide) (fun k_7 => ?_) (fun k_7 => ?_)
  · have h := br_yes h k_7
    refine lv_aload_n hx hb dX4_load_29 rfl (lv_at hl 0 rfl) ?_
    refine x_get (v := .ref (ah 0)) 0 0 X hw in_X4_load_4 rfl rfl rfl 2 (by decide) (List.mem_of_getElem? (i := 4) rfl) rfl rfl dX4_load_30 ?_
    refine lv_aload_n hx hb dX4_load_33 rfl (lv_at hl 0 rfl) ?_
    refine x_get (v := .ref (ac 0)) 0 0 X hw in_X4_load_4 rfl rfl rfl 0 (by decide) (List.mem_of_getElem? (i := 2) rfl) rfl rfl dX4_load_34 ?_
    obtain ⟨g_8, c_9, h⟩ := bd_ok h
    refine x_Vv (As := [.ref (ac 0)]) (w' := fl [xB ax ac af ah at_ ar ad, cB G ac vc, fB G af vf, hB G ah g_8, tB G at_ u_4, cB G ar v_5]) X hw (m_X2_keep (G := G) (l := l) (d := ah) (a := ac) c_9) (Cut.blocks (bs' := [xB ax ac af ah at_ ar ad, cB G ac vc, fB G af vf, hB G ah g_8, tB G at_ u_4, cB G ar v_5]) [3, 1] [0, 2, 4, 5] [2, 1, 3, 0, 4, 5] [hB G ah g_8, cB G ac vc] rfl rfl rfl rfl rfl) 3 0 rfl rfl rfl (cwV 1 hts gX4_load_X2_keep rfl rfl rfl hd_X2_keep ⟨Nat.le_of_ble_eq_true rfl, Nat.le_of_ble_eq_true rfl⟩) rfl hl.1 rfl (Nat.le_of_ble_eq_true rfl) dX4_load_37 ⟨Nat.le_of_ble_eq_true rfl, Nat.le_of_ble_eq_true rfl⟩ (fun H locs hw => ?_)
    refine lv_aload_n hx hb dX4_load_40 rfl (lv_at hl 0 rfl) ?_
    refine x_get (v := .ref (ac 0)) 0 0 X hw in_X4_load_4 rfl rfl rfl 0 (by decide) (List.mem_of_getElem? (i := 2) rfl) rfl rfl dX4_load_41 ?_
    refine lv_aload_n hx hb dX4_load_44 rfl (lv_at hl 0 rfl) ?_
    refine x_get (v := .ref (ar 0)) 0 0 X hw in_X4_load_4 rfl rfl rfl 4 (by decide) (List.mem_of_getElem? (i := 1) rfl) rfl rfl dX4_load_45 ?_
    obtain ⟨v_10, c_11, h⟩ := bd_ok h
    refine x_Vv (As := [.ref (ar 0)]) (w' := fl [xB ax ac af ah at_ ar ad, cB G ac v_10, fB G af vf, hB G ah g_8, tB G at_ u_4, cB G ar v_5]) X hw (m_X0_copyFrom (G := G) (l := l) (a := ac) (a1 := ar) c_11) (Cut.blocks (bs' := [xB ax ac af ah at_ ar ad, cB G ac v_10, fB G af vf, hB G ah g_8, tB G at_ u_4, cB G ar v_5]) [1, 5] [0, 2, 3, 4] [2, 0, 3, 4, 5, 1] [cB G ac v_10, cB G ar v_5] rfl rfl rfl rfl rfl) 1 0 rfl rfl rfl (cwV 1 hts gX4_load_X0_copyFrom rfl rfl rfl hd_X0_copyFrom ⟨Nat.le_of_ble_eq_true rfl, Nat.le_of_ble_eq_true rfl⟩) rfl hl.1 rfl (Nat.le_of_ble_eq_true rfl) dX4_load_48 ⟨Nat.le_of_ble_eq_true rfl, Nat.le_of_ble_eq_true rfl⟩ (fun H locs hw => ?_)
    refine lv_aload_n hx hb dX4_load_51 rfl (lv_at hl 0 rfl) ?_
    refine x_get (v := .ref (af 0)) 0 0 X hw in_X4_load_4 rfl rfl rfl 1 (by decide) (List.mem_of_getElem? (i := 5) rfl) rfl rfl dX4_load_52 ?_
    refine lv_aload_n hx hb dX4_load_55 rfl (lv_at hl 0 rfl) ?_
    refine x_get (v := .ref (ac 0)) 0 0 X hw in_X4_load_4 rfl rfl rfl 0 (by decide) (List.mem_of_getElem? (i := 2) rfl) rfl rfl dX4_load_56 ?_
    obtain ⟨w_12, c_13, h⟩ := bd_ok h
    refine x_Vv (As := [.ref (ac 0)]) (w' := fl [xB ax ac af ah at_ ar ad, cB G ac v_10, fB G af w_12, hB G ah g_8, tB G at_ u_4, cB G ar v_5]) X hw (m_X1_follow (G := G) (l := l) (b := af) (a := ac) c_13) (Cut.blocks (bs' := [xB ax ac af ah at_ ar ad, cB G ac v_10, fB G af w_12, hB G ah g_8, tB G at_ u_4, cB G ar v_5]) [2, 1] [0, 3, 4, 5] [2, 1, 0, 3, 4, 5] [fB G af w_12, cB G ac v_10] rfl rfl rfl rfl rfl) 2 0 rfl rfl rfl (cwV 1 hts gX4_load_X1_follow rfl rfl rfl hd_X1_follow ⟨Nat.le_of_ble_eq_true rfl, Nat.le_of_ble_eq_true rfl⟩) rfl hl.1 rfl (Nat.le_of_ble_eq_true rfl) dX4_load_59 ⟨Nat.le_of_ble_eq_true rfl, Nat.le_of_ble_eq_true rfl⟩ (fun H locs hw => ?_)
    refine lv_aload_n hx hb dX4_load_62 rfl (lv_at hl 0 rfl) ?_
    refine x_get (v := .ref (at_ 0)) 0 0 X hw in_X4_load_4 rfl rfl rfl 3 (by decide) (List.mem_of_getElem? (i := 3) rfl) rfl rfl dX4_load_63 ?_
    refine x_get (v := .int (T_it u_4)) 4 0 X hw in_X4_load_3 rfl rfl rfl 2 (by decide) (List.mem_of_getElem? (i := 6) rfl) rfl rfl dX4_load_66 ?_
    cases h
    exact x_iret X (vp_nar_int _) hw rfl rfl dX4_load_69
  · have h := br_no h k_7
    refine lv_bipush (v := (-4)) hx hb dX4_load_26 (by decide) ?_
    cases h
    exact x_iret X (vp_nar_int _) hw rfl rfl dX4_load_28

def rX4_digest : Room := { frames := 4, cells := 0, slots := 0, locals := 88 }
theorem hd_X4_digest : yX4_digest.cls = RX4 ∧ yX4_digest.cls ≠ "java/lang/invoke/MethodHandle" ∧ yX4_digest.cls ≠ "java/lang/invoke/VarHandle" ∧ (parseMethodDescriptor yX4_digest.desc).map (fun d => d.parameters.length) = some 0 := by decide +kernel
theorem in_X4_digest_0 : ∀ w ∈ u_ws RX0 TX0 10, w ∈ wsX4_digest := fun w h => (List.mem_cons_of_mem _ (List.mem_append_left _ (List.mem_append_right _ h)))
theorem in_X4_digest_4 : ∀ w ∈ u_ws RX4 TX4 6, w ∈ wsX4_digest := fun w h => (List.mem_cons_of_mem _ (List.mem_append_left _ (List.mem_append_left _ (List.mem_append_right _ h))))
noncomputable def f_X4_digest_b83  (vc : CV) (vf : FV) : Nat → Int64 → Int32 → Option (Int64)
  | 0 => fun _ _ => none
  | n + 1 => fun x1 x3 =>
    br ((C_jo vc) ≤ x3)
      (some (x1))
      (bd (f_X4_joint vc x3 0) fun r_2 =>
       nm (((31 * x1) + (r_2).toInt64) : Int64) fun t_4 =>
       bd (f_X4_joint vc x3 1) fun r_5 =>
       nm (((31 * t_4) + (r_5).toInt64) : Int64) fun t_7 =>
       nm (x3 + 1 : Int32) fun t_8 =>
       f_X4_digest_b83 vc vf n t_7 t_8)
set_option maxHeartbeats 4000000 in
set_option maxRecDepth 100000 in
theorem w_X4_digest_b83 {G : GG} {l : Launch} {p : Program} {e : Env} {s : State} {m : MethodId} {args : Array Value} {below : List Frame} {meth : Method} {c : Code} {A : Nat → Prop} {ax : Nat} {ac af ah at_ ar ad : Nat → Nat} {vc : CV} {vf : FV} {r : Int64}    (X : Cx p s m args meth c cX4_digest 5 (some .long) wsX4_digest RX4 G A)  :
    ∀ (n : Nat) (x1 : Int64) (x3 : Int32) (H : Heap) (locs : List Loc) (ls : Array Slot), f_X4_digest_b83 vc vf n x1 x3 = some (r) → Wd G A s H locs (fl [xB ax ac af ah at_ ar ad, cB G ac vc, fB G af vf]) → lv_has ls 5 [(0, .ref ax), (1, .long x1), (3, .int x3)] → W p l e rX4_digest s m args below meth c H locs 0 0 (MQ below (Ql G A r (fl [xB ax ac af ah at_ ar ad, cB G ac vc, fB G af vf])) args s 0 0 A) (F0 m 83 ls []) := by
  obtain ⟨⟨hx, hb, hml, hown, hts⟩, hK, hr, hlk, hA⟩ := id X
  intro n
  induction n with
  | zero =>
    intro x1 x3 H locs ls h
    rw [f_X4_digest_b83] at h
    cases h
  | succ n ih =>
    intro x1 x3 H locs ls h hw hl
    rw [f_X4_digest_b83] at h
    refine lv_iload_n hx hb dX4_digest_83 rfl (lv_at hl 2 rfl) ?_
    refine lv_aload_n hx hb dX4_digest_84 rfl (lv_at hl 0 rfl) ?_
    refine x_get (v := .ref (ac 0)) 0 0 X hw in_X4_digest_4 rfl rfl rfl 0 (by decide) (List.mem_of_getElem? (i := 3) rfl) rfl rfl dX4_digest_85 ?_
    refine x_get (v := .int (C_jo vc)) 1 0 X hw in_X4_digest_0 rfl rfl rfl 1 (by decide) (List.mem_of_getElem? (i := 5) rfl) rfl rfl dX4_digest_88 ?_
    refine lv_icmp_ge (tgt := 128) hx hb dX4_digest_91 (by decide) (fun k_1 => ?_) (fun k_1 => ?_)
    · have h := br_yes h k_1
      refine lv_lload_n hx hb dX4_digest_128 rfl (lv_at hl 1 rfl) ?_
      cases h
      exact x_lret X hw rfl rfl dX4_digest_129
    · have h := br_no h k_1
      refine lv_ldc2 (v := 31) hx hb hown (hts _ (List.mem_of_getElem? (i := 2) rfl)) dX4_digest_94 ?_
      refine lv_lload_n hx hb dX4_digest_97 rfl (lv_at hl 1 rfl) ?_
      refine lv_lmul hx hb dX4_digest_98 ?_
      refine lv_aload_n hx hb dX4_digest_99 rfl (lv_at hl 0 rfl) ?_
      refine lv_iload_n hx hb dX4_digest_100 rfl (lv_at hl 2 rfl) ?_
      refine lv_iconst (v := 0) hx hb dX4_digest_101 (by decide) ?_
      obtain ⟨r_2, c_3, h⟩ := bd_ok h
      refine x_Vi (As := [.int x3, .int 0]) (w' := fl [xB ax ac af ah at_ ar ad, cB G ac vc, fB G af vf]) X hw (m_X4_joint (G := G) (l := l) (ax := ax) (ac := ac) (af := af) (ah := ah) (at_ := at_) (ar := ar) (ad := ad) c_3) (Cut.blocks (bs' := [xB ax ac af ah at_ ar ad, cB G ac vc, fB G af vf]) [0, 1] [2] [0, 1, 2] [xB ax ac af ah at_ ar ad, cB G ac vc] rfl rfl rfl rfl rfl) 0 0 rfl rfl rfl (cwV 2 hts gX4_digest_X4_joint rfl rfl rfl hd_X4_joint ⟨Nat.le_of_ble_eq_true rfl, Nat.le_of_ble_eq_true rfl⟩) rfl hl.1 rfl (Nat.le_of_ble_eq_true rfl) dX4_digest_102 ⟨Nat.le_of_ble_eq_true rfl, Nat.le_of_ble_eq_true rfl⟩ (fun H locs hw => ?_)
      refine lv_i2l hx hb dX4_digest_105 rfl ?_
      refine lv_ladd hx hb dX4_digest_106 ?_
      obtain ⟨t_4, et_4, h⟩ := nm_ok h
      refine lv_lstore_n (lv' := [(1, .long t_4), (0, .ref ax), (3, .int x3)]) hx hb dX4_digest_107 rfl hl (by decide) (by rw [et_4]; rfl) (fun ls hl => ?_)
      refine lv_ldc2 (v := 31) hx hb hown (hts _ (List.mem_of_getElem? (i := 2) rfl)) dX4_digest_108 ?_
      refine lv_lload_n hx hb dX4_digest_111 rfl (lv_at hl 0 rfl) ?_
      refine lv_lmul hx hb dX4_digest_112 ?_
      refine lv_aload_n hx hb dX4_digest_113 rfl (lv_at hl 1 rfl) ?_
      refine lv_iload_n hx hb dX4_digest_114 rfl (lv_at hl 2 rfl) ?_
      refine lv_iconst (v := 1) hx hb dX4_digest_115 (by decide) ?_
      obtain ⟨r_5, c_6, h⟩ := bd_ok h
      refine x_Vi (As := [.int x3, .int 1]) (w' := fl [xB ax ac af ah at_ ar ad, cB G ac vc, fB G af vf]) X hw (m_X4_joint (G := G) (l := l) (ax := ax) (ac := ac) (af := af) (ah := ah) (at_ := at_) (ar := ar) (ad := ad) c_6) (Cut.blocks (bs' := [xB ax ac af ah at_ ar ad, cB G ac vc, fB G af vf]) [0, 1] [2] [0, 1, 2] [xB ax ac af ah at_ ar ad, cB G ac vc] rfl rfl rfl rfl rfl) 0 0 rfl rfl rfl (cwV 2 hts gX4_digest_X4_joint rfl rfl rfl hd_X4_joint ⟨Nat.le_of_ble_eq_true rfl, Nat.le_of_ble_eq_true rfl⟩) rfl hl.1 rfl (Nat.le_of_ble_eq_true rfl) dX4_digest_116 ⟨Nat.le_of_ble_eq_true rfl, Nat.le_of_ble_eq_true rfl⟩ (fun H locs hw => ?_)
      refine lv_i2l hx hb dX4_digest_119 rfl ?_
      refine lv_ladd hx hb dX4_digest_120 ?_
      obtain ⟨t_7, et_7, h⟩ := nm_ok h
      refine lv_lstore_n (lv' := [(1, .long t_7), (0, .ref ax), (3, .int x3)]) hx hb dX4_digest_121 rfl hl (by decide) (by rw [et_7]; rfl) (fun ls hl => ?_)
      obtain ⟨t_8, et_8, h⟩ := nm_ok h
      refine lv_iinc (v := t_8) (lv' := [(3, .int t_8), (1, .long t_7), (0, .ref ax)]) hx hb dX4_digest_122 hl (k := 2) rfl (by rw [et_8]; rfl) (by decide) rfl (fun ls hl => ?_)
      refine lv_goto (tgt := 83) hx hb dX4_digest_125 (by decide) ?_
      exact ih t_7 t_8 _ _ _ h hw (lv_sub hl [2, 1, 0] rfl)
noncomputable def f_X4_digest_b47  (k33 : Int64 → Int32 → Option (Int64)) (vc : CV) (vf : FV) (x3 : Int32) : Nat → Int64 → Int32 → Option (Int64)
  | 0 => fun _ _ => none
  | n + 1 => fun x1 x4 =>
    br (11 ≤ x4)
      (nm (x3 + 1 : Int32) fun t_2 =>
       k33 x1 t_2)
      (bd (f_X4_section vc vf x3 x4) fun r_3 =>
       nm (((31 * x1) + (r_3).toInt64) : Int64) fun t_5 =>
       nm (x4 + 1 : Int32) fun t_6 =>
       f_X4_digest_b47 k33 vc vf x3 n t_5 t_6)
set_option maxHeartbeats 4000000 in
set_option maxRecDepth 100000 in
theorem w_X4_digest_b47 {G : GG} {l : Launch} {p : Program} {e : Env} {s : State} {m : MethodId} {args : Array Value} {below : List Frame} {meth : Method} {c : Code} {A : Nat → Prop} {ax : Nat} {ac af ah at_ ar ad : Nat → Nat} {vc : CV} {vf : FV} {x3 : Int32} {r : Int64}   {k33 : Int64 → Int32 → Option (Int64)} (X : Cx p s m args meth c cX4_digest 5 (some .long) wsX4_digest RX4 G A) (hk33 : ∀ (x1 : Int64) (x3 : Int32) (H : Heap) (locs : List Loc) (ls : Array Slot), k33 x1 x3 = some (r) → Wd G A s H locs (fl [xB ax ac af ah at_ ar ad, cB G ac vc, fB G af vf]) → lv_has ls 5 [(0, .ref ax), (1, .long x1), (3, .int x3)] → W p l e rX4_digest s m args below meth c H locs 0 0 (MQ below (Ql G A r (fl [xB ax ac af ah at_ ar ad, cB G ac vc, fB G af vf])) args s 0 0 A) (F0 m 33 ls [])) :
    ∀ (n : Nat) (x1 : Int64) (x4 : Int32) (H : Heap) (locs : List Loc) (ls : Array Slot), f_X4_digest_b47 k33 vc vf x3 n x1 x4 = some (r) → Wd G A s H locs (fl [xB ax ac af ah at_ ar ad, cB G ac vc, fB G af vf]) → lv_has ls 5 [(0, .ref ax), (1, .long x1), (3, .int x3), (4, .int x4)] → W p l e rX4_digest s m args below meth c H locs 0 0 (MQ below (Ql G A r (fl [xB ax ac af ah at_ ar ad, cB G ac vc, fB G af vf])) args s 0 0 A) (F0 m 47 ls []) := by
  obtain ⟨⟨hx, hb, hml, hown, hts⟩, hK, hr, hlk, hA⟩ := id X
  intro n
  induction n with
  | zero =>
    intro x1 x4 H locs ls h
    rw [f_X4_digest_b47] at h
    cases h
  | succ n ih =>
    intro x1 x4 H locs ls h hw hl
    rw [f_X4_digest_b47] at h
    refine lv_iload hx hb dX4_digest_47 (lv_at hl 3 rfl) ?_
    refine lv_bipush (v := 11) hx hb dX4_digest_49 (by decide) ?_
    refine lv_icmp_ge (tgt := 75) hx hb dX4_digest_51 (by decide) (fun k_1 => ?_) (fun k_1 => ?_)
    · have h := br_yes h k_1
      obtain ⟨t_2, et_2, h⟩ := nm_ok h
      refine lv_iinc (v := t_2) (lv' := [(3, .int t_2), (0, .ref ax), (1, .long x1), (4, .int x4)]) hx hb dX4_digest_75 hl (k := 2) rfl (by rw [et_2]; rfl) (by decide) rfl (fun ls hl => ?_)
      refine lv_goto (tgt := 33) hx hb dX4_digest_78 (by decide) ?_
      exact hk33 x1 t_2 _ _ _ h hw (lv_sub hl [1, 2, 0] rfl)
    · have h := br_no h k_1
      refine lv_ldc2 (v := 31) hx hb hown (hts _ (List.mem_of_getElem? (i := 2) rfl)) dX4_digest_54 ?_
      refine lv_lload_n hx hb dX4_digest_57 rfl (lv_at hl 1 rfl) ?_
      refine lv_lmul hx hb dX4_digest_58 ?_
      refine lv_aload_n hx hb dX4_digest_59 rfl (lv_at hl 0 rfl) ?_
      refine lv_iload_n hx hb dX4_digest_60 rfl (lv_at hl 2 rfl) ?_
      refine lv_iload hx hb dX4_digest_61 (lv_at hl 3 rfl) ?_
      obtain ⟨r_3, c_4, h⟩ := bd_ok h
      refine x_Vi (As := [.int x3, .int x4]) (w' := fl [xB ax ac af ah at_ ar ad, cB G ac vc, fB G af vf]) X hw (m_X4_section (G := G) (l := l) (ax := ax) (ac := ac) (af := af) (ah := ah) (at_ := at_) (ar := ar) (ad := ad) c_4) Cut.all 0 0 rfl rfl rfl (cwV 2 hts gX4_digest_X4_section rfl rfl rfl hd_X4_section ⟨Nat.le_of_ble_eq_true rfl, Nat.le_of_ble_eq_true rfl⟩) rfl hl.1 rfl (Nat.le_of_ble_eq_true rfl) dX4_digest_63 ⟨Nat.le_of_ble_eq_true rfl, Nat.le_of_ble_eq_true rfl⟩ (fun H locs hw => ?_)
      refine lv_i2l hx hb dX4_digest_66 rfl ?_
      refine lv_ladd hx hb dX4_digest_67 ?_
      obtain ⟨t_5, et_5, h⟩ := nm_ok h
      refine lv_lstore_n (lv' := [(1, .long t_5), (0, .ref ax), (3, .int x3), (4, .int x4)]) hx hb dX4_digest_68 rfl hl (by decide) (by rw [et_5]; rfl) (fun ls hl => ?_)
      obtain ⟨t_6, et_6, h⟩ := nm_ok h
      refine lv_iinc (v := t_6) (lv' := [(4, .int t_6), (1, .long t_5), (0, .ref ax), (3, .int x3)]) hx hb dX4_digest_69 hl (k := 3) rfl (by rw [et_6]; rfl) (by decide) rfl (fun ls hl => ?_)
      refine lv_goto (tgt := 47) hx hb dX4_digest_72 (by decide) ?_
      exact ih t_5 t_6 _ _ _ h hw (lv_sub hl [2, 1, 3, 0] rfl)
noncomputable def f_X4_digest_b33  (vc : CV) (vf : FV) : Nat → Int64 → Int32 → Option (Int64)
  | 0 => fun _ _ => none
  | n + 1 => fun x1 x3 =>
    br ((C_se vc) ≤ x3)
      (f_X4_digest_b83 vc vf FU x1 0)
      (f_X4_digest_b47 (f_X4_digest_b33 vc vf n) vc vf x3 FU x1 0)
set_option maxHeartbeats 4000000 in
set_option maxRecDepth 100000 in
theorem w_X4_digest_b33 {G : GG} {l : Launch} {p : Program} {e : Env} {s : State} {m : MethodId} {args : Array Value} {below : List Frame} {meth : Method} {c : Code} {A : Nat → Prop} {ax : Nat} {ac af ah at_ ar ad : Nat → Nat} {vc : CV} {vf : FV} {r : Int64}    (X : Cx p s m args meth c cX4_digest 5 (some .long) wsX4_digest RX4 G A)  :
    ∀ (n : Nat) (x1 : Int64) (x3 : Int32) (H : Heap) (locs : List Loc) (ls : Array Slot), f_X4_digest_b33 vc vf n x1 x3 = some (r) → Wd G A s H locs (fl [xB ax ac af ah at_ ar ad, cB G ac vc, fB G af vf]) → lv_has ls 5 [(0, .ref ax), (1, .long x1), (3, .int x3)] → W p l e rX4_digest s m args below meth c H locs 0 0 (MQ below (Ql G A r (fl [xB ax ac af ah at_ ar ad, cB G ac vc, fB G af vf])) args s 0 0 A) (F0 m 33 ls []) := by
  obtain ⟨⟨hx, hb, hml, hown, hts⟩, hK, hr, hlk, hA⟩ := id X
  intro n
  induction n with
  | zero =>
    intro x1 x3 H locs ls h
    rw [f_X4_digest_b33] at h
    cases h
  | succ n ih =>
    intro x1 x3 H locs ls h hw hl
    rw [f_X4_digest_b33] at h
    refine lv_iload_n hx hb dX4_digest_33 rfl (lv_at hl 2 rfl) ?_
    refine lv_aload_n hx hb dX4_digest_34 rfl (lv_at hl 0 rfl) ?_
    refine x_get (v := .ref (ac 0)) 0 0 X hw in_X4_digest_4 rfl rfl rfl 0 (by decide) (List.mem_of_getElem? (i := 3) rfl) rfl rfl dX4_digest_35 ?_
    refine x_get (v := .int (C_se vc)) 1 0 X hw in_X4_digest_0 rfl rfl rfl 0 (by decide) (List.mem_of_getElem? (i := 4) rfl) rfl rfl dX4_digest_38 ?_
    refine lv_icmp_ge (tgt := 81) hx hb dX4_digest_41 (by decide) (fun k_1 => ?_) (fun k_1 => ?_)
    · have h := br_yes h k_1
      refine lv_iconst (v := 0) hx hb dX4_digest_81 (by decide) ?_
      refine lv_istore_n (lv' := [(3, .int 0), (0, .ref ax), (1, .long x1)]) hx hb dX4_digest_82 rfl hl (by decide) rfl (fun ls hl => ?_)
      exact w_X4_digest_b83 X FU x1 0 _ _ _ h hw (lv_sub hl [1, 2, 0] rfl)
    · have h := br_no h k_1
      refine lv_iconst (v := 0) hx hb dX4_digest_44 (by decide) ?_
      refine lv_istore (lv' := [(4, .int 0), (0, .ref ax), (1, .long x1), (3, .int x3)]) hx hb dX4_digest_45 hl (by decide) rfl (fun ls hl => ?_)
      exact w_X4_digest_b47 X ih FU x1 0 _ _ _ h hw (lv_sub hl [1, 2, 3, 0] rfl)
noncomputable def f_X4_digest_b6  (vc : CV) (vf : FV) : Nat → Int64 → Int32 → Option (Int64)
  | 0 => fun _ _ => none
  | n + 1 => fun x1 x3 =>
    br (10 ≤ x3)
      (f_X4_digest_b33 vc vf FU x1 0)
      (bd (f_X4_count vc vf x3) fun r_2 =>
       nm (((31 * x1) + (r_2).toInt64) : Int64) fun t_4 =>
       nm (x3 + 1 : Int32) fun t_5 =>
       f_X4_digest_b6 vc vf n t_4 t_5)
set_option maxHeartbeats 4000000 in
set_option maxRecDepth 100000 in
theorem w_X4_digest_b6 {G : GG} {l : Launch} {p : Program} {e : Env} {s : State} {m : MethodId} {args : Array Value} {below : List Frame} {meth : Method} {c : Code} {A : Nat → Prop} {ax : Nat} {ac af ah at_ ar ad : Nat → Nat} {vc : CV} {vf : FV} {r : Int64}    (X : Cx p s m args meth c cX4_digest 5 (some .long) wsX4_digest RX4 G A)  :
    ∀ (n : Nat) (x1 : Int64) (x3 : Int32) (H : Heap) (locs : List Loc) (ls : Array Slot), f_X4_digest_b6 vc vf n x1 x3 = some (r) → Wd G A s H locs (fl [xB ax ac af ah at_ ar ad, cB G ac vc, fB G af vf]) → lv_has ls 5 [(0, .ref ax), (1, .long x1), (3, .int x3)] → W p l e rX4_digest s m args below meth c H locs 0 0 (MQ below (Ql G A r (fl [xB ax ac af ah at_ ar ad, cB G ac vc, fB G af vf])) args s 0 0 A) (F0 m 6 ls []) := by
  obtain ⟨⟨hx, hb, hml, hown, hts⟩, hK, hr, hlk, hA⟩ := id X
  intro n
  induction n with
  | zero =>
    intro x1 x3 H locs ls h
    rw [f_X4_digest_b6] at h
    cases h
  | succ n ih =>
    intro x1 x3 H locs ls h hw hl
    rw [f_X4_digest_b6] at h
    refine lv_iload_n hx hb dX4_digest_6 rfl (lv_at hl 2 rfl) ?_
    refine lv_bipush (v := 10) hx hb dX4_digest_7 (by decide) ?_
    refine lv_icmp_ge (tgt := 31) hx hb dX4_digest_9 (by decide) (fun k_1 => ?_) (fun k_1 => ?_)
    · have h := br_yes h k_1
      refine lv_iconst (v := 0) hx hb dX4_digest_31 (by decide) ?_
      refine lv_istore_n (lv' := [(3, .int 0), (0, .ref ax), (1, .long x1)]) hx hb dX4_digest_32 rfl hl (by decide) rfl (fun ls hl => ?_)
      exact w_X4_digest_b33 X FU x1 0 _ _ _ h hw (lv_sub hl [1, 2, 0] rfl)
    · have h := br_no h k_1
      refine lv_ldc2 (v := 31) hx hb hown (hts _ (List.mem_of_getElem? (i := 2) rfl)) dX4_digest_12 ?_
      refine lv_lload_n hx hb dX4_digest_15 rfl (lv_at hl 1 rfl) ?_
      refine lv_lmul hx hb dX4_digest_16 ?_
      refine lv_aload_n hx hb dX4_digest_17 rfl (lv_at hl 0 rfl) ?_
      refine lv_iload_n hx hb dX4_digest_18 rfl (lv_at hl 2 rfl) ?_
      obtain ⟨r_2, c_3, h⟩ := bd_ok h
      refine x_Vi (As := [.int x3]) (w' := fl [xB ax ac af ah at_ ar ad, cB G ac vc, fB G af vf]) X hw (m_X4_count (G := G) (l := l) (ax := ax) (ac := ac) (af := af) (ah := ah) (at_ := at_) (ar := ar) (ad := ad) c_3) Cut.all 0 0 rfl rfl rfl (cwV 1 hts gX4_digest_X4_count rfl rfl rfl hd_X4_count ⟨Nat.le_of_ble_eq_true rfl, Nat.le_of_ble_eq_true rfl⟩) rfl hl.1 rfl (Nat.le_of_ble_eq_true rfl) dX4_digest_19 ⟨Nat.le_of_ble_eq_true rfl, Nat.le_of_ble_eq_true rfl⟩ (fun H locs hw => ?_)
      refine lv_i2l hx hb dX4_digest_22 rfl ?_
      refine lv_ladd hx hb dX4_digest_23 ?_
      obtain ⟨t_4, et_4, h⟩ := nm_ok h
      refine lv_lstore_n (lv' := [(1, .long t_4), (0, .ref ax), (3, .int x3)]) hx hb dX4_digest_24 rfl hl (by decide) (by rw [et_4]; rfl) (fun ls hl => ?_)
      obtain ⟨t_5, et_5, h⟩ := nm_ok h
      refine lv_iinc (v := t_5) (lv' := [(3, .int t_5), (1, .long t_4), (0, .ref ax)]) hx hb dX4_digest_25 hl (k := 2) rfl (by rw [et_5]; rfl) (by decide) rfl (fun ls hl => ?_)
      refine lv_goto (tgt := 6) hx hb dX4_digest_28 (by decide) ?_
      exact ih t_4 t_5 _ _ _ h hw (lv_sub hl [2, 1, 0] rfl)
noncomputable def f_X4_digest  (vc : CV) (vf : FV)  : Option (Int64) :=
  f_X4_digest_b6 vc vf FU 17 0
set_option maxHeartbeats 4000000 in
set_option maxRecDepth 100000 in
theorem m_X4_digest {G : GG} {l : Launch} {ax : Nat} {ac af ah at_ ar ad : Nat → Nat} {vc : CV} {vf : FV}  {r : Int64}  (h : f_X4_digest vc vf = some (r)) : Cl G l yX4_digest wsX4_digest rX4_digest [.ref ax] (fl [xB ax ac af ah at_ ar ad, cB G ac vc, fB G af vf]) r (fl [xB ax ac af ah at_ ar ad, cB G ac vc, fB G af vf]) := by
  refine Cl.intro cX4_digest 5 (some .long) RX4 (by decide) rfl rfl (Nat.le_of_ble_eq_true rfl) ?_
  intro p e s m below meth c A ls X hw hl
  obtain ⟨⟨hx, hb, hml, hown, hts⟩, hK, hr, hlk, hA⟩ := id X
  unfold f_X4_digest at h
  have hl : lv_has ls 5 [(0, .ref ax)] := hl
  refine lv_ldc2 (v := 17) hx hb hown (hts _ (List.mem_of_getElem? (i := 1) rfl)) dX4_digest_0 ?_
  refine lv_lstore_n (lv' := [(1, .long 17), (0, .ref ax)]) hx hb dX4_digest_3 rfl hl (by decide) rfl (fun ls hl => ?_)
  refine lv_iconst (v := 0) hx hb dX4_digest_4 (by decide) ?_
  refine lv_istore_n (lv' := [(3, .int 0), (1, .long 17), (0, .ref ax)]) hx hb dX4_digest_5 rfl hl (by decide) rfl (fun ls hl => ?_)
  exact w_X4_digest_b6 X FU 17 0 _ _ _ h hw (lv_sub hl [2, 1, 0] rfl)
