def rL_isLeast : Room := { frames := 7, cells := 0, slots := 0, locals := 152 }
theorem hd_L_isLeast : yL_isLeast.cls = RL ∧ yL_isLeast.cls ≠ "java/lang/invoke/MethodHandle" ∧ yL_isLeast.cls ≠ "java/lang/invoke/VarHandle" ∧ (parseMethodDescriptor yL_isLeast.desc).map (fun d => d.parameters.length) = some 2 := by decide +kernel
noncomputable def f_L_isLeast_b372  (vc : CV) (vf : FV) (vh : HV) (vr : CV) (vd : FV) (x2 : Int64) : Option (Int32 × CV × FV × HV × CV × FV) :=
  bd (f_X4_digest vc vf) fun r_1 =>
  br ((lg_cmp r_1 x2) = 0)
    (some (1, vc, vf, vh, vr, vd))
    (some (0, vc, vf, vh, vr, vd))
set_option maxHeartbeats 4000000 in
set_option maxRecDepth 100000 in
theorem w_L_isLeast_b372 {G : GG} {l : Launch} {p : Program} {e : Env} {s : State} {m : MethodId} {args : Array Value} {below : List Frame} {meth : Method} {c : Code} {A : Nat → Prop} {ax : Nat} {ac af ah at_ ar ad : Nat → Nat}  {r : Int32} {zvc : CV} {zvf : FV} {zvh : HV} {zvr : CV} {zvd : FV}   (X : Cx p s m args meth c cL_isLeast 10 (some .boolean) wsL_isLeast RL G A)  :
    ∀ (vc : CV) (vf : FV) (vh : HV) (vr : CV) (vd : FV) (x2 : Int64) (H : Heap) (locs : List Loc) (ls : Array Slot), f_L_isLeast_b372 vc vf vh vr vd x2 = some (r, zvc, zvf, zvh, zvr, zvd) → Wd G A s H locs (fl [xB ax ac af ah at_ ar ad, cB G ac vc, fB G af vf, hB G ah vh, cB G ar vr, fB G ad vd]) → lv_has ls 10 [(0, .ref ax), (2, .long x2)] → W p l e rL_isLeast s m args below meth c H locs 0 0 (MQ below (Qi G A r (fl [xB ax ac af ah at_ ar ad, cB G ac zvc, fB G af zvf, hB G ah zvh, cB G ar zvr, fB G ad zvd])) args s 0 0 A) (F0 m 372 ls []) := by
  obtain ⟨⟨hx, hb, hml, hown, hts⟩, hK, hr, hlk, hA⟩ := id X
  intro vc vf vh vr vd x2 H locs ls h hw hl
  unfold f_L_isLeast_b372 at h
  refine lv_aload_n hx hb dL_isLeast_372 rfl (lv_at hl 0 rfl) ?_
  obtain ⟨r_1, c_2, h⟩ := bd_ok h
  refine x_Vl (As := []) (w' := fl [xB ax ac af ah at_ ar ad, cB G ac vc, fB G af vf, hB G ah vh, cB G ar vr, fB G ad vd]) X hw (m_X4_digest (G := G) (l := l) (ax := ax) (ac := ac) (af := af) (ah := ah) (at_ := at_) (ar := ar) (ad := ad) c_2) (cut8 (bs' := [xB ax ac af ah at_ ar ad, cB G ac vc, fB G af vf, hB G ah vh, cB G ar vr, fB G ad vd]) 6 [0, 1, 2] [3, 4, 5] [0, 1, 2, 3, 4, 5] [xB ax ac af ah at_ ar ad, cB G ac vc, fB G af vf] rfl (by decide +kernel) rfl rfl rfl (by decide +kernel) rfl) 0 0 rfl rfl rfl (cwV 0 hts gL_isLeast_X4_digest rfl rfl rfl hd_X4_digest ⟨Nat.le_of_ble_eq_true rfl, Nat.le_of_ble_eq_true rfl⟩) rfl hl.1 rfl (Nat.le_of_ble_eq_true rfl) dL_isLeast_373 ⟨Nat.le_of_ble_eq_true rfl, Nat.le_of_ble_eq_true rfl⟩ (fun H locs hw => ?_)
  refine lv_lload_n hx hb dL_isLeast_376 rfl (lv_at hl 1 rfl) ?_
  refine W.lcmp hx hb dL_isLeast_377 ?_
  refine lv_if_ne (tgt := 385) hx hb dL_isLeast_378 (by decide) (fun k_3 => ?_) (fun k_3 => ?_)
  · have h := br_no h k_3
    refine lv_iconst (v := 0) hx hb dL_isLeast_385 (by decide) ?_
    cases h
    exact x_iret X (narz (Or.inl rfl)) hw rfl rfl dL_isLeast_386
  · have h := br_yes h k_3
    refine lv_iconst (v := 1) hx hb dL_isLeast_381 (by decide) ?_
    refine lv_goto (tgt := 386) hx hb dL_isLeast_382 (by decide) ?_
    cases h
    exact x_iret X (narz (Or.inr rfl)) hw rfl rfl dL_isLeast_386
noncomputable def f_L_isLeast_b336  (vc : CV) (vf : FV) (vh : HV) (vr : CV) (vd : FV) (x1 : Int32) (x2 : Int64) (x6 : Int32) (x7 : Int32) : Option (Int32 × CV × FV × HV × CV × FV) :=
  br (x6 < 0)
    (f_L_isLeast_b372 vc vf vh vr vd x2)
    (bd4 (f_X4_setChill vc vf vh x1 x6) fun r_2 v_3 w_4 g_5 =>
     br (r_2 = x7)
       (bd (f_X4_count v_3 w_4 9) fun r_8 =>
        br (r_8 = 1)
          (bd4 (f_X4_undo v_3 w_4 g_5) fun r_11 v_12 w_13 g_14 =>
           br (0 ≤ r_11)
             (f_L_isLeast_b372 v_12 w_13 g_14 vr vd x2)
             (some (0, v_12, w_13, g_14, vr, vd)))
          (some (0, v_3, w_4, g_5, vr, vd)))
       (some (0, v_3, w_4, g_5, vr, vd)))
set_option maxHeartbeats 4000000 in
set_option maxRecDepth 100000 in
theorem w_L_isLeast_b336 {G : GG} {l : Launch} {p : Program} {e : Env} {s : State} {m : MethodId} {args : Array Value} {below : List Frame} {meth : Method} {c : Code} {A : Nat → Prop} {ax : Nat} {ac af ah at_ ar ad : Nat → Nat}  {r : Int32} {zvc : CV} {zvf : FV} {zvh : HV} {zvr : CV} {zvd : FV}   (X : Cx p s m args meth c cL_isLeast 10 (some .boolean) wsL_isLeast RL G A)  :
    ∀ (vc : CV) (vf : FV) (vh : HV) (vr : CV) (vd : FV) (x1 : Int32) (x2 : Int64) (x6 : Int32) (x7 : Int32) (H : Heap) (locs : List Loc) (ls : Array Slot), f_L_isLeast_b336 vc vf vh vr vd x1 x2 x6 x7 = some (r, zvc, zvf, zvh, zvr, zvd) → Wd G A s H locs (fl [xB ax ac af ah at_ ar ad, cB G ac vc, fB G af vf, hB G ah vh, cB G ar vr, fB G ad vd]) → lv_has ls 10 [(0, .ref ax), (1, .int x1), (2, .long x2), (6, .int x6), (7, .int x7)] → W p l e rL_isLeast s m args below meth c H locs 0 0 (MQ below (Qi G A r (fl [xB ax ac af ah at_ ar ad, cB G ac zvc, fB G af zvf, hB G ah zvh, cB G ar zvr, fB G ad zvd])) args s 0 0 A) (F0 m 336 ls []) := by
  obtain ⟨⟨hx, hb, hml, hown, hts⟩, hK, hr, hlk, hA⟩ := id X
  intro vc vf vh vr vd x1 x2 x6 x7 H locs ls h hw hl
  unfold f_L_isLeast_b336 at h
  refine lv_iload hx hb dL_isLeast_336 (lv_at hl 3 rfl) ?_
  refine lv_if_lt (tgt := 372) hx hb dL_isLeast_338 (by decide) (fun k_1 => ?_) (fun k_1 => ?_)
  · have h := br_yes h k_1
    exact w_L_isLeast_b372 X vc vf vh vr vd x2 _ _ _ h hw (lv_sub hl [0, 2] rfl)
  · have h := br_no h k_1
    refine lv_aload_n hx hb dL_isLeast_341 rfl (lv_at hl 0 rfl) ?_
    refine lv_iload_n hx hb dL_isLeast_342 rfl (lv_at hl 1 rfl) ?_
    refine lv_iload hx hb dL_isLeast_343 (lv_at hl 3 rfl) ?_
    obtain ⟨r_2, v_3, w_4, g_5, c_6, h⟩ := bd4_ok h
    refine x_Vi (As := [.int x1, .int x6]) (w' := fl [xB ax ac af ah at_ ar ad, cB G ac v_3, fB G af w_4, hB G ah g_5, cB G ar vr, fB G ad vd]) X hw (m_X4_setChill (G := G) (l := l) (ax := ax) (ac := ac) (af := af) (ah := ah) (at_ := at_) (ar := ar) (ad := ad) c_6) (cut8 (bs' := [xB ax ac af ah at_ ar ad, cB G ac v_3, fB G af w_4, hB G ah g_5, cB G ar vr, fB G ad vd]) 6 [0, 1, 2, 3] [4, 5] [0, 1, 2, 3, 4, 5] [xB ax ac af ah at_ ar ad, cB G ac v_3, fB G af w_4, hB G ah g_5] rfl (by decide +kernel) rfl rfl rfl (by decide +kernel) rfl) 0 0 rfl rfl rfl (cwV 2 hts gL_isLeast_X4_setChill rfl rfl rfl hd_X4_setChill ⟨Nat.le_of_ble_eq_true rfl, Nat.le_of_ble_eq_true rfl⟩) rfl hl.1 rfl (Nat.le_of_ble_eq_true rfl) dL_isLeast_345 ⟨Nat.le_of_ble_eq_true rfl, Nat.le_of_ble_eq_true rfl⟩ (fun H locs hw => ?_)
    refine lv_iload hx hb dL_isLeast_348 (lv_at hl 4 rfl) ?_
    refine lv_icmp_ne (tgt := 370) hx hb dL_isLeast_350 (by decide) (fun k_7 => ?_) (fun k_7 => ?_)
    · have h := br_no h k_7
      refine lv_iconst (v := 0) hx hb dL_isLeast_370 (by decide) ?_
      cases h
      exact x_iret X (narz (Or.inl rfl)) hw rfl rfl dL_isLeast_371
    · have h := br_yes h k_7
      refine lv_aload_n hx hb dL_isLeast_353 rfl (lv_at hl 0 rfl) ?_
      refine lv_bipush (v := 9) hx hb dL_isLeast_354 (by decide) ?_
      obtain ⟨r_8, c_9, h⟩ := bd_ok h
      refine x_Vi (As := [.int 9]) (w' := fl [xB ax ac af ah at_ ar ad, cB G ac v_3, fB G af w_4, hB G ah g_5, cB G ar vr, fB G ad vd]) X hw (m_X4_count (G := G) (l := l) (ax := ax) (ac := ac) (af := af) (ah := ah) (at_ := at_) (ar := ar) (ad := ad) c_9) (cut8 (bs' := [xB ax ac af ah at_ ar ad, cB G ac v_3, fB G af w_4, hB G ah g_5, cB G ar vr, fB G ad vd]) 6 [0, 1, 2] [3, 4, 5] [0, 1, 2, 3, 4, 5] [xB ax ac af ah at_ ar ad, cB G ac v_3, fB G af w_4] rfl (by decide +kernel) rfl rfl rfl (by decide +kernel) rfl) 0 0 rfl rfl rfl (cwV 1 hts gL_isLeast_X4_count rfl rfl rfl hd_X4_count ⟨Nat.le_of_ble_eq_true rfl, Nat.le_of_ble_eq_true rfl⟩) rfl hl.1 rfl (Nat.le_of_ble_eq_true rfl) dL_isLeast_356 ⟨Nat.le_of_ble_eq_true rfl, Nat.le_of_ble_eq_true rfl⟩ (fun H locs hw => ?_)
      refine lv_iconst (v := 1) hx hb dL_isLeast_359 (by decide) ?_
      refine lv_icmp_ne (tgt := 370) hx hb dL_isLeast_360 (by decide) (fun k_10 => ?_) (fun k_10 => ?_)
      · have h := br_no h k_10
        refine lv_iconst (v := 0) hx hb dL_isLeast_370 (by decide) ?_
        cases h
        exact x_iret X (narz (Or.inl rfl)) hw rfl rfl dL_isLeast_371
      · have h := br_yes h k_10
        refine lv_aload_n hx hb dL_isLeast_363 rfl (lv_at hl 0 rfl) ?_
        obtain ⟨r_11, v_12, w_13, g_14, c_15, h⟩ := bd4_ok h
        refine x_Vi (As := []) (w' := fl [xB ax ac af ah at_ ar ad, cB G ac v_12, fB G af w_13, hB G ah g_14, cB G ar vr, fB G ad vd]) X hw (m_X4_undo (G := G) (l := l) (ax := ax) (ac := ac) (af := af) (ah := ah) (at_ := at_) (ar := ar) (ad := ad) c_15) (cut8 (bs' := [xB ax ac af ah at_ ar ad, cB G ac v_12, fB G af w_13, hB G ah g_14, cB G ar vr, fB G ad vd]) 6 [0, 1, 2, 3] [4, 5] [0, 1, 2, 3, 4, 5] [xB ax ac af ah at_ ar ad, cB G ac v_12, fB G af w_13, hB G ah g_14] rfl (by decide +kernel) rfl rfl rfl (by decide +kernel) rfl) 0 0 rfl rfl rfl (cwV 0 hts gL_isLeast_X4_undo rfl rfl rfl hd_X4_undo ⟨Nat.le_of_ble_eq_true rfl, Nat.le_of_ble_eq_true rfl⟩) rfl hl.1 rfl (Nat.le_of_ble_eq_true rfl) dL_isLeast_364 ⟨Nat.le_of_ble_eq_true rfl, Nat.le_of_ble_eq_true rfl⟩ (fun H locs hw => ?_)
        refine lv_if_ge (tgt := 372) hx hb dL_isLeast_367 (by decide) (fun k_16 => ?_) (fun k_16 => ?_)
        · have h := br_yes h k_16
          exact w_L_isLeast_b372 X v_12 w_13 g_14 vr vd x2 _ _ _ h hw (lv_sub hl [0, 2] rfl)
        · have h := br_no h k_16
          refine lv_iconst (v := 0) hx hb dL_isLeast_370 (by decide) ?_
          cases h
          exact x_iret X (narz (Or.inl rfl)) hw rfl rfl dL_isLeast_371
noncomputable def f_L_isLeast_b312  (vc : CV) (vf : FV) (vh : HV) (vr : CV) (vd : FV) (x1 : Int32) (x2 : Int64) (x6 : Int32) (x7 : Int32) : Option (Int32 × CV × FV × HV × CV × FV) :=
  br (0 ≤ x6)
    (f_L_isLeast_b336 vc vf vh vr vd x1 x2 x6 x7)
    (br (x6 = (-1))
       (bd3 (f_X4_excessWith vc vr vd x1 500) fun r_3 v_4 w_5 =>
        br (r_3 = 0)
          (some (0, vc, vf, vh, v_4, w_5))
          (f_L_isLeast_b336 vc vf vh v_4 w_5 x1 x2 x6 x7))
       (some (0, vc, vf, vh, vr, vd)))
set_option maxHeartbeats 4000000 in
set_option maxRecDepth 100000 in
theorem w_L_isLeast_b312 {G : GG} {l : Launch} {p : Program} {e : Env} {s : State} {m : MethodId} {args : Array Value} {below : List Frame} {meth : Method} {c : Code} {A : Nat → Prop} {ax : Nat} {ac af ah at_ ar ad : Nat → Nat}  {r : Int32} {zvc : CV} {zvf : FV} {zvh : HV} {zvr : CV} {zvd : FV}   (X : Cx p s m args meth c cL_isLeast 10 (some .boolean) wsL_isLeast RL G A)  :
    ∀ (vc : CV) (vf : FV) (vh : HV) (vr : CV) (vd : FV) (x1 : Int32) (x2 : Int64) (x6 : Int32) (x7 : Int32) (H : Heap) (locs : List Loc) (ls : Array Slot), f_L_isLeast_b312 vc vf vh vr vd x1 x2 x6 x7 = some (r, zvc, zvf, zvh, zvr, zvd) → Wd G A s H locs (fl [xB ax ac af ah at_ ar ad, cB G ac vc, fB G af vf, hB G ah vh, cB G ar vr, fB G ad vd]) → lv_has ls 10 [(0, .ref ax), (1, .int x1), (2, .long x2), (6, .int x6), (7, .int x7)] → W p l e rL_isLeast s m args below meth c H locs 0 0 (MQ below (Qi G A r (fl [xB ax ac af ah at_ ar ad, cB G ac zvc, fB G af zvf, hB G ah zvh, cB G ar zvr, fB G ad zvd])) args s 0 0 A) (F0 m 312 ls []) := by
  obtain ⟨⟨hx, hb, hml, hown, hts⟩, hK, hr, hlk, hA⟩ := id X
  intro vc vf vh vr vd x1 x2 x6 x7 H locs ls h hw hl
  unfold f_L_isLeast_b312 at h
  refine lv_iload hx hb dL_isLeast_312 (lv_at hl 3 rfl) ?_
  refine lv_if_ge (tgt := 336) hx hb dL_isLeast_314 (by decide) (fun k_1 => ?_) (fun k_1 => ?_)
  · have h := br_yes h k_1
    exact w_L_isLeast_b336 X vc vf vh vr vd x1 x2 x6 x7 _ _ _ h hw (lv_sub hl [0, 1, 2, 3, 4] rfl)
  · have h := br_no h k_1
    refine lv_iload hx hb dL_isLeast_317 (lv_at hl 3 rfl) ?_
    refine lv_iconst (v := (-1)) hx hb dL_isLeast_319 (by decide) ?_
    refine lv_icmp_ne (tgt := 334) hx hb dL_isLeast_320 (by decide) (fun k_2 => ?_) (fun k_2 => ?_)
    · have h := br_no h k_2
      refine lv_iconst (v := 0) hx hb dL_isLeast_334 (by decide) ?_
      cases h
      exact x_iret X (narz (Or.inl rfl)) hw rfl rfl dL_isLeast_335
    · have h := br_yes h k_2
      refine lv_aload_n hx hb dL_isLeast_323 rfl (lv_at hl 0 rfl) ?_
      refine lv_iload_n hx hb dL_isLeast_324 rfl (lv_at hl 1 rfl) ?_
      refine lv_sipush (v := 500) hx hb dL_isLeast_325 (by decide) ?_
      obtain ⟨r_3, v_4, w_5, c_6, h⟩ := bd3_ok h
      refine x_Vi (As := [.int x1, .int 500]) (w' := fl [xB ax ac af ah at_ ar ad, cB G ac vc, fB G af vf, hB G ah vh, cB G ar v_4, fB G ad w_5]) X hw (m_X4_excessWith (G := G) (l := l) (ax := ax) (ac := ac) (af := af) (ah := ah) (at_ := at_) (ar := ar) (ad := ad) c_6) (cut8 (bs' := [xB ax ac af ah at_ ar ad, cB G ac vc, fB G af vf, hB G ah vh, cB G ar v_4, fB G ad w_5]) 6 [0, 1, 4, 5] [2, 3] [0, 1, 4, 5, 2, 3] [xB ax ac af ah at_ ar ad, cB G ac vc, cB G ar v_4, fB G ad w_5] rfl (by decide +kernel) rfl rfl rfl (by decide +kernel) rfl) 0 0 rfl rfl rfl (cwV 2 hts gL_isLeast_X4_excessWith rfl rfl rfl hd_X4_excessWith ⟨Nat.le_of_ble_eq_true rfl, Nat.le_of_ble_eq_true rfl⟩) rfl hl.1 rfl (Nat.le_of_ble_eq_true rfl) dL_isLeast_328 ⟨Nat.le_of_ble_eq_true rfl, Nat.le_of_ble_eq_true rfl⟩ (fun H locs hw => ?_)
      refine lv_if_ne (tgt := 336) hx hb dL_isLeast_331 (by decide) (fun k_7 => ?_) (fun k_7 => ?_)
      · have h := br_no h k_7
        exact w_L_isLeast_b336 X vc vf vh v_4 w_5 x1 x2 x6 x7 _ _ _ h hw (lv_sub hl [0, 1, 2, 3, 4] rfl)
      · have h := br_yes h k_7
        refine lv_iconst (v := 0) hx hb dL_isLeast_334 (by decide) ?_
        cases h
        exact x_iret X (narz (Or.inl rfl)) hw rfl rfl dL_isLeast_335
noncomputable def f_L_isLeast_b297  (vc : CV) (vf : FV) (vh : HV) (vr : CV) (vd : FV) (x1 : Int32) (x2 : Int64) (x6 : Int32) (x7 : Int32) : Option (Int32 × CV × FV × HV × CV × FV) :=
  br (x6 < 0)
    (f_L_isLeast_b312 vc vf vh vr vd x1 x2 x6 x7)
    (bd3 (f_X4_excessWith vc vr vd x1 x6) fun r_2 v_3 w_4 =>
     br (r_2 = 0)
       (f_L_isLeast_b312 vc vf vh v_3 w_4 x1 x2 x6 x7)
       (some (0, vc, vf, vh, v_3, w_4)))
set_option maxHeartbeats 4000000 in
set_option maxRecDepth 100000 in
theorem w_L_isLeast_b297 {G : GG} {l : Launch} {p : Program} {e : Env} {s : State} {m : MethodId} {args : Array Value} {below : List Frame} {meth : Method} {c : Code} {A : Nat → Prop} {ax : Nat} {ac af ah at_ ar ad : Nat → Nat}  {r : Int32} {zvc : CV} {zvf : FV} {zvh : HV} {zvr : CV} {zvd : FV}   (X : Cx p s m args meth c cL_isLeast 10 (some .boolean) wsL_isLeast RL G A)  :
    ∀ (vc : CV) (vf : FV) (vh : HV) (vr : CV) (vd : FV) (x1 : Int32) (x2 : Int64) (x6 : Int32) (x7 : Int32) (H : Heap) (locs : List Loc) (ls : Array Slot), f_L_isLeast_b297 vc vf vh vr vd x1 x2 x6 x7 = some (r, zvc, zvf, zvh, zvr, zvd) → Wd G A s H locs (fl [xB ax ac af ah at_ ar ad, cB G ac vc, fB G af vf, hB G ah vh, cB G ar vr, fB G ad vd]) → lv_has ls 10 [(0, .ref ax), (1, .int x1), (2, .long x2), (6, .int x6), (7, .int x7)] → W p l e rL_isLeast s m args below meth c H locs 0 0 (MQ below (Qi G A r (fl [xB ax ac af ah at_ ar ad, cB G ac zvc, fB G af zvf, hB G ah zvh, cB G ar zvr, fB G ad zvd])) args s 0 0 A) (F0 m 297 ls []) := by
  obtain ⟨⟨hx, hb, hml, hown, hts⟩, hK, hr, hlk, hA⟩ := id X
  intro vc vf vh vr vd x1 x2 x6 x7 H locs ls h hw hl
  unfold f_L_isLeast_b297 at h
  refine lv_iload hx hb dL_isLeast_297 (lv_at hl 3 rfl) ?_
  refine lv_if_lt (tgt := 312) hx hb dL_isLeast_299 (by decide) (fun k_1 => ?_) (fun k_1 => ?_)
  · have h := br_yes h k_1
    exact w_L_isLeast_b312 X vc vf vh vr vd x1 x2 x6 x7 _ _ _ h hw (lv_sub hl [0, 1, 2, 3, 4] rfl)
  · have h := br_no h k_1
    refine lv_aload_n hx hb dL_isLeast_302 rfl (lv_at hl 0 rfl) ?_
    refine lv_iload_n hx hb dL_isLeast_303 rfl (lv_at hl 1 rfl) ?_
    refine lv_iload hx hb dL_isLeast_304 (lv_at hl 3 rfl) ?_
    obtain ⟨r_2, v_3, w_4, c_5, h⟩ := bd3_ok h
    refine x_Vi (As := [.int x1, .int x6]) (w' := fl [xB ax ac af ah at_ ar ad, cB G ac vc, fB G af vf, hB G ah vh, cB G ar v_3, fB G ad w_4]) X hw (m_X4_excessWith (G := G) (l := l) (ax := ax) (ac := ac) (af := af) (ah := ah) (at_ := at_) (ar := ar) (ad := ad) c_5) (cut8 (bs' := [xB ax ac af ah at_ ar ad, cB G ac vc, fB G af vf, hB G ah vh, cB G ar v_3, fB G ad w_4]) 6 [0, 1, 4, 5] [2, 3] [0, 1, 4, 5, 2, 3] [xB ax ac af ah at_ ar ad, cB G ac vc, cB G ar v_3, fB G ad w_4] rfl (by decide +kernel) rfl rfl rfl (by decide +kernel) rfl) 0 0 rfl rfl rfl (cwV 2 hts gL_isLeast_X4_excessWith rfl rfl rfl hd_X4_excessWith ⟨Nat.le_of_ble_eq_true rfl, Nat.le_of_ble_eq_true rfl⟩) rfl hl.1 rfl (Nat.le_of_ble_eq_true rfl) dL_isLeast_306 ⟨Nat.le_of_ble_eq_true rfl, Nat.le_of_ble_eq_true rfl⟩ (fun H locs hw => ?_)
    refine lv_if_ne (tgt := 334) hx hb dL_isLeast_309 (by decide) (fun k_6 => ?_) (fun k_6 => ?_)
    · have h := br_no h k_6
      refine lv_iconst (v := 0) hx hb dL_isLeast_334 (by decide) ?_
      cases h
      exact x_iret X (narz (Or.inl rfl)) hw rfl rfl dL_isLeast_335
    · have h := br_yes h k_6
      exact w_L_isLeast_b312 X vc vf vh v_3 w_4 x1 x2 x6 x7 _ _ _ h hw (lv_sub hl [0, 1, 2, 3, 4] rfl)
noncomputable def f_L_isLeast_b249  (vc : CV) (vf : FV) (vh : HV) (vr : CV) (vd : FV) (x1 : Int32) (x2 : Int64) : Option (Int32 × CV × FV × HV × CV × FV) :=
  bd3 (f_X4_leastChill vc vr vd x1) fun r_1 v_2 w_3 =>
  bd (f_X4_section vc vf x1 2) fun r_5 =>
  bd3 (f_X4_excessWith vc v_2 w_3 x1 r_5) fun r_7 v_8 w_9 =>
  bd (f_X4_count vc vf 7) fun r_11 =>
  br (r_7 = r_11)
    (br (r_1 ≤ 0)
       (f_L_isLeast_b297 vc vf vh v_8 w_9 x1 x2 r_1 r_5)
       (bd3 (f_X4_excessWith vc v_8 w_9 x1 (r_1 - 1)) fun r_15 v_16 w_17 =>
        br (r_15 = 0)
          (some (0, vc, vf, vh, v_16, w_17))
          (f_L_isLeast_b297 vc vf vh v_16 w_17 x1 x2 r_1 r_5)))
    (some (0, vc, vf, vh, v_8, w_9))
set_option maxHeartbeats 4000000 in
set_option maxRecDepth 100000 in
theorem w_L_isLeast_b249 {G : GG} {l : Launch} {p : Program} {e : Env} {s : State} {m : MethodId} {args : Array Value} {below : List Frame} {meth : Method} {c : Code} {A : Nat → Prop} {ax : Nat} {ac af ah at_ ar ad : Nat → Nat}  {r : Int32} {zvc : CV} {zvf : FV} {zvh : HV} {zvr : CV} {zvd : FV}   (X : Cx p s m args meth c cL_isLeast 10 (some .boolean) wsL_isLeast RL G A)  :
    ∀ (vc : CV) (vf : FV) (vh : HV) (vr : CV) (vd : FV) (x1 : Int32) (x2 : Int64) (H : Heap) (locs : List Loc) (ls : Array Slot), f_L_isLeast_b249 vc vf vh vr vd x1 x2 = some (r, zvc, zvf, zvh, zvr, zvd) → Wd G A s H locs (fl [xB ax ac af ah at_ ar ad, cB G ac vc, fB G af vf, hB G ah vh, cB G ar vr, fB G ad vd]) → lv_has ls 10 [(0, .ref ax), (1, .int x1), (2, .long x2)] → W p l e rL_isLeast s m args below meth c H locs 0 0 (MQ below (Qi G A r (fl [xB ax ac af ah at_ ar ad, cB G ac zvc, fB G af zvf, hB G ah zvh, cB G ar zvr, fB G ad zvd])) args s 0 0 A) (F0 m 249 ls []) := by
  obtain ⟨⟨hx, hb, hml, hown, hts⟩, hK, hr, hlk, hA⟩ := id X
  intro vc vf vh vr vd x1 x2 H locs ls h hw hl
  unfold f_L_isLeast_b249 at h
  refine lv_aload_n hx hb dL_isLeast_249 rfl (lv_at hl 0 rfl) ?_
  refine lv_iload_n hx hb dL_isLeast_250 rfl (lv_at hl 1 rfl) ?_
  obtain ⟨r_1, v_2, w_3, c_4, h⟩ := bd3_ok h
  refine x_Vi (As := [.int x1]) (w' := fl [xB ax ac af ah at_ ar ad, cB G ac vc, fB G af vf, hB G ah vh, cB G ar v_2, fB G ad w_3]) X hw (m_X4_leastChill (G := G) (l := l) (ax := ax) (ac := ac) (af := af) (ah := ah) (at_ := at_) (ar := ar) (ad := ad) c_4) (cut8 (bs' := [xB ax ac af ah at_ ar ad, cB G ac vc, fB G af vf, hB G ah vh, cB G ar v_2, fB G ad w_3]) 6 [0, 1, 4, 5] [2, 3] [0, 1, 4, 5, 2, 3] [xB ax ac af ah at_ ar ad, cB G ac vc, cB G ar v_2, fB G ad w_3] rfl (by decide +kernel) rfl rfl rfl (by decide +kernel) rfl) 0 0 rfl rfl rfl (cwV 1 hts gL_isLeast_X4_leastChill rfl rfl rfl hd_X4_leastChill ⟨Nat.le_of_ble_eq_true rfl, Nat.le_of_ble_eq_true rfl⟩) rfl hl.1 rfl (Nat.le_of_ble_eq_true rfl) dL_isLeast_251 ⟨Nat.le_of_ble_eq_true rfl, Nat.le_of_ble_eq_true rfl⟩ (fun H locs hw => ?_)
  refine lv_istore (lv' := [(6, .int r_1), (0, .ref ax), (1, .int x1), (2, .long x2)]) hx hb dL_isLeast_254 hl (by decide) rfl (fun ls hl => ?_)
  refine lv_aload_n hx hb dL_isLeast_256 rfl (lv_at hl 1 rfl) ?_
  refine lv_iload_n hx hb dL_isLeast_257 rfl (lv_at hl 2 rfl) ?_
  refine lv_iconst (v := 2) hx hb dL_isLeast_258 (by decide) ?_
  obtain ⟨r_5, c_6, h⟩ := bd_ok h
  refine x_Vi (As := [.int x1, .int 2]) (w' := fl [xB ax ac af ah at_ ar ad, cB G ac vc, fB G af vf, hB G ah vh, cB G ar v_2, fB G ad w_3]) X hw (m_X4_section (G := G) (l := l) (ax := ax) (ac := ac) (af := af) (ah := ah) (at_ := at_) (ar := ar) (ad := ad) c_6) (cut8 (bs' := [xB ax ac af ah at_ ar ad, cB G ac vc, fB G af vf, hB G ah vh, cB G ar v_2, fB G ad w_3]) 6 [0, 1, 2] [3, 4, 5] [0, 1, 2, 3, 4, 5] [xB ax ac af ah at_ ar ad, cB G ac vc, fB G af vf] rfl (by decide +kernel) rfl rfl rfl (by decide +kernel) rfl) 0 0 rfl rfl rfl (cwV 2 hts gL_isLeast_X4_section rfl rfl rfl hd_X4_section ⟨Nat.le_of_ble_eq_true rfl, Nat.le_of_ble_eq_true rfl⟩) rfl hl.1 rfl (Nat.le_of_ble_eq_true rfl) dL_isLeast_259 ⟨Nat.le_of_ble_eq_true rfl, Nat.le_of_ble_eq_true rfl⟩ (fun H locs hw => ?_)
  refine lv_istore (lv' := [(7, .int r_5), (6, .int r_1), (0, .ref ax), (1, .int x1), (2, .long x2)]) hx hb dL_isLeast_262 hl (by decide) rfl (fun ls hl => ?_)
  refine lv_aload_n hx hb dL_isLeast_264 rfl (lv_at hl 2 rfl) ?_
  refine lv_iload_n hx hb dL_isLeast_265 rfl (lv_at hl 3 rfl) ?_
  refine lv_iload hx hb dL_isLeast_266 (lv_at hl 0 rfl) ?_
  obtain ⟨r_7, v_8, w_9, c_10, h⟩ := bd3_ok h
  refine x_Vi (As := [.int x1, .int r_5]) (w' := fl [xB ax ac af ah at_ ar ad, cB G ac vc, fB G af vf, hB G ah vh, cB G ar v_8, fB G ad w_9]) X hw (m_X4_excessWith (G := G) (l := l) (ax := ax) (ac := ac) (af := af) (ah := ah) (at_ := at_) (ar := ar) (ad := ad) c_10) (cut8 (bs' := [xB ax ac af ah at_ ar ad, cB G ac vc, fB G af vf, hB G ah vh, cB G ar v_8, fB G ad w_9]) 6 [0, 1, 4, 5] [2, 3] [0, 1, 4, 5, 2, 3] [xB ax ac af ah at_ ar ad, cB G ac vc, cB G ar v_8, fB G ad w_9] rfl (by decide +kernel) rfl rfl rfl (by decide +kernel) rfl) 0 0 rfl rfl rfl (cwV 2 hts gL_isLeast_X4_excessWith rfl rfl rfl hd_X4_excessWith ⟨Nat.le_of_ble_eq_true rfl, Nat.le_of_ble_eq_true rfl⟩) rfl hl.1 rfl (Nat.le_of_ble_eq_true rfl) dL_isLeast_268 ⟨Nat.le_of_ble_eq_true rfl, Nat.le_of_ble_eq_true rfl⟩ (fun H locs hw => ?_)
  refine lv_aload_n hx hb dL_isLeast_271 rfl (lv_at hl 2 rfl) ?_
  refine lv_bipush (v := 7) hx hb dL_isLeast_272 (by decide) ?_
  obtain ⟨r_11, c_12, h⟩ := bd_ok h
  refine x_Vi (As := [.int 7]) (w' := fl [xB ax ac af ah at_ ar ad, cB G ac vc, fB G af vf, hB G ah vh, cB G ar v_8, fB G ad w_9]) X hw (m_X4_count (G := G) (l := l) (ax := ax) (ac := ac) (af := af) (ah := ah) (at_ := at_) (ar := ar) (ad := ad) c_12) (cut8 (bs' := [xB ax ac af ah at_ ar ad, cB G ac vc, fB G af vf, hB G ah vh, cB G ar v_8, fB G ad w_9]) 6 [0, 1, 2] [3, 4, 5] [0, 1, 2, 3, 4, 5] [xB ax ac af ah at_ ar ad, cB G ac vc, fB G af vf] rfl (by decide +kernel) rfl rfl rfl (by decide +kernel) rfl) 0 0 rfl rfl rfl (cwV 1 hts gL_isLeast_X4_count rfl rfl rfl hd_X4_count ⟨Nat.le_of_ble_eq_true rfl, Nat.le_of_ble_eq_true rfl⟩) rfl hl.1 rfl (Nat.le_of_ble_eq_true rfl) dL_isLeast_274 ⟨Nat.le_of_ble_eq_true rfl, Nat.le_of_ble_eq_true rfl⟩ (fun H locs hw => ?_)
  refine lv_icmp_ne (tgt := 334) hx hb dL_isLeast_277 (by decide) (fun k_13 => ?_) (fun k_13 => ?_)
  · have h := br_no h k_13
    refine lv_iconst (v := 0) hx hb dL_isLeast_334 (by decide) ?_
    cases h
    exact x_iret X (narz (Or.inl rfl)) hw rfl rfl dL_isLeast_335
  · have h := br_yes h k_13
    refine lv_iload hx hb dL_isLeast_280 (lv_at hl 1 rfl) ?_
    refine lv_if_le (tgt := 297) hx hb dL_isLeast_282 (by decide) (fun k_14 => ?_) (fun k_14 => ?_)
    · have h := br_yes h k_14
      exact w_L_isLeast_b297 X vc vf vh v_8 w_9 x1 x2 r_1 r_5 _ _ _ h hw (lv_sub hl [2, 3, 4, 1, 0] rfl)
    · have h := br_no h k_14
      refine lv_aload_n hx hb dL_isLeast_285 rfl (lv_at hl 2 rfl) ?_
      refine lv_iload_n hx hb dL_isLeast_286 rfl (lv_at hl 3 rfl) ?_
      refine lv_iload hx hb dL_isLeast_287 (lv_at hl 1 rfl) ?_
      refine lv_iconst (v := 1) hx hb dL_isLeast_289 (by decide) ?_
      refine lv_isub hx hb dL_isLeast_290 ?_
      obtain ⟨r_15, v_16, w_17, c_18, h⟩ := bd3_ok h
      refine x_Vi (As := [.int x1, .int (r_1 - 1)]) (w' := fl [xB ax ac af ah at_ ar ad, cB G ac vc, fB G af vf, hB G ah vh, cB G ar v_16, fB G ad w_17]) X hw (m_X4_excessWith (G := G) (l := l) (ax := ax) (ac := ac) (af := af) (ah := ah) (at_ := at_) (ar := ar) (ad := ad) c_18) (cut8 (bs' := [xB ax ac af ah at_ ar ad, cB G ac vc, fB G af vf, hB G ah vh, cB G ar v_16, fB G ad w_17]) 6 [0, 1, 4, 5] [2, 3] [0, 1, 4, 5, 2, 3] [xB ax ac af ah at_ ar ad, cB G ac vc, cB G ar v_16, fB G ad w_17] rfl (by decide +kernel) rfl rfl rfl (by decide +kernel) rfl) 0 0 rfl rfl rfl (cwV 2 hts gL_isLeast_X4_excessWith rfl rfl rfl hd_X4_excessWith ⟨Nat.le_of_ble_eq_true rfl, Nat.le_of_ble_eq_true rfl⟩) rfl hl.1 rfl (Nat.le_of_ble_eq_true rfl) dL_isLeast_291 ⟨Nat.le_of_ble_eq_true rfl, Nat.le_of_ble_eq_true rfl⟩ (fun H locs hw => ?_)
      refine lv_if_eq (tgt := 334) hx hb dL_isLeast_294 (by decide) (fun k_19 => ?_) (fun k_19 => ?_)
      · have h := br_yes h k_19
        refine lv_iconst (v := 0) hx hb dL_isLeast_334 (by decide) ?_
        cases h
        exact x_iret X (narz (Or.inl rfl)) hw rfl rfl dL_isLeast_335
      · have h := br_no h k_19
        exact w_L_isLeast_b297 X vc vf vh v_16 w_17 x1 x2 r_1 r_5 _ _ _ h hw (lv_sub hl [2, 3, 4, 1, 0] rfl)
noncomputable def f_L_isLeast_b36  (vc : CV) (vf : FV) (vh : HV) (vr : CV) (vd : FV) (x1 : Int32) (x2 : Int64) (x5 : Int32) : Option (Int32 × CV × FV × HV × CV × FV) :=
  br (x5 = (-5))
    (bd3 (f_X4_bestFeeder vc vr vd) fun r_2 v_3 w_4 =>
     br (r_2 = (-5))
       (f_L_isLeast_b249 vc vf vh v_3 w_4 x1 x2)
       (some (0, vc, vf, vh, v_3, w_4)))
    (some (0, vc, vf, vh, vr, vd))
set_option maxHeartbeats 4000000 in
set_option maxRecDepth 100000 in
theorem w_L_isLeast_b36 {G : GG} {l : Launch} {p : Program} {e : Env} {s : State} {m : MethodId} {args : Array Value} {below : List Frame} {meth : Method} {c : Code} {A : Nat → Prop} {ax : Nat} {ac af ah at_ ar ad : Nat → Nat}  {r : Int32} {zvc : CV} {zvf : FV} {zvh : HV} {zvr : CV} {zvd : FV}   (X : Cx p s m args meth c cL_isLeast 10 (some .boolean) wsL_isLeast RL G A)  :
    ∀ (vc : CV) (vf : FV) (vh : HV) (vr : CV) (vd : FV) (x1 : Int32) (x2 : Int64) (x5 : Int32) (H : Heap) (locs : List Loc) (ls : Array Slot), f_L_isLeast_b36 vc vf vh vr vd x1 x2 x5 = some (r, zvc, zvf, zvh, zvr, zvd) → Wd G A s H locs (fl [xB ax ac af ah at_ ar ad, cB G ac vc, fB G af vf, hB G ah vh, cB G ar vr, fB G ad vd]) → lv_has ls 10 [(0, .ref ax), (1, .int x1), (2, .long x2), (5, .int x5)] → W p l e rL_isLeast s m args below meth c H locs 0 0 (MQ below (Qi G A r (fl [xB ax ac af ah at_ ar ad, cB G ac zvc, fB G af zvf, hB G ah zvh, cB G ar zvr, fB G ad zvd])) args s 0 0 A) (F0 m 36 ls []) := by
  obtain ⟨⟨hx, hb, hml, hown, hts⟩, hK, hr, hlk, hA⟩ := id X
  intro vc vf vh vr vd x1 x2 x5 H locs ls h hw hl
  unfold f_L_isLeast_b36 at h
  refine lv_iload hx hb dL_isLeast_36 (lv_at hl 3 rfl) ?_
  refine lv_bipush (v := (-5)) hx hb dL_isLeast_38 (by decide) ?_
  refine lv_icmp_ne (tgt := 52) hx hb dL_isLeast_40 (by decide) (fun k_1 => ?_) (fun k_1 => ?_)
  · have h := br_no h k_1
    refine lv_iconst (v := 0) hx hb dL_isLeast_52 (by decide) ?_
    cases h
    exact x_iret X (narz (Or.inl rfl)) hw rfl rfl dL_isLeast_53
  · have h := br_yes h k_1
    refine lv_aload_n hx hb dL_isLeast_43 rfl (lv_at hl 0 rfl) ?_
    obtain ⟨r_2, v_3, w_4, c_5, h⟩ := bd3_ok h
    refine x_Vi (As := []) (w' := fl [xB ax ac af ah at_ ar ad, cB G ac vc, fB G af vf, hB G ah vh, cB G ar v_3, fB G ad w_4]) X hw (m_X4_bestFeeder (G := G) (l := l) (ax := ax) (ac := ac) (af := af) (ah := ah) (at_ := at_) (ar := ar) (ad := ad) c_5) (cut8 (bs' := [xB ax ac af ah at_ ar ad, cB G ac vc, fB G af vf, hB G ah vh, cB G ar v_3, fB G ad w_4]) 6 [0, 1, 4, 5] [2, 3] [0, 1, 4, 5, 2, 3] [xB ax ac af ah at_ ar ad, cB G ac vc, cB G ar v_3, fB G ad w_4] rfl (by decide +kernel) rfl rfl rfl (by decide +kernel) rfl) 0 0 rfl rfl rfl (cwV 0 hts gL_isLeast_X4_bestFeeder rfl rfl rfl hd_X4_bestFeeder ⟨Nat.le_of_ble_eq_true rfl, Nat.le_of_ble_eq_true rfl⟩) rfl hl.1 rfl (Nat.le_of_ble_eq_true rfl) dL_isLeast_44 ⟨Nat.le_of_ble_eq_true rfl, Nat.le_of_ble_eq_true rfl⟩ (fun H locs hw => ?_)
    refine lv_bipush (v := (-5)) hx hb dL_isLeast_47 (by decide) ?_
    refine lv_icmp_eq (tgt := 249) hx hb dL_isLeast_49 (by decide) (fun k_6 => ?_) (fun k_6 => ?_)
    · have h := br_yes h k_6
      exact w_L_isLeast_b249 X vc vf vh v_3 w_4 x1 x2 _ _ _ h hw (lv_sub hl [0, 1, 2] rfl)
    · have h := br_no h k_6
      refine lv_iconst (v := 0) hx hb dL_isLeast_52 (by decide) ?_
      cases h
      exact x_iret X (narz (Or.inl rfl)) hw rfl rfl dL_isLeast_53
noncomputable def f_L_isLeast_b230  (k181 : CV → FV → HV → CV → FV → Int32 → Int32 → Option (Int32 × CV × FV × HV × CV × FV)) (x1 : Int32) (x2 : Int64) (x4 : Int32) (x6 : Int32) (vc : CV) (vf : FV) (vh : HV) (vr : CV) (vd : FV) (x7 : Int32) (x8 : Int32) : Option (Int32 × CV × FV × HV × CV × FV) :=
  nm (x8 + 1 : Int32) fun t_1 =>
  k181 vc vf vh vr vd x7 t_1
set_option maxHeartbeats 4000000 in
set_option maxRecDepth 100000 in
theorem w_L_isLeast_b230 {G : GG} {l : Launch} {p : Program} {e : Env} {s : State} {m : MethodId} {args : Array Value} {below : List Frame} {meth : Method} {c : Code} {A : Nat → Prop} {ax : Nat} {ac af ah at_ ar ad : Nat → Nat} {x1 : Int32} {x2 : Int64} {x4 : Int32} {x6 : Int32} {r : Int32} {zvc : CV} {zvf : FV} {zvh : HV} {zvr : CV} {zvd : FV}  {k181 : CV → FV → HV → CV → FV → Int32 → Int32 → Option (Int32 × CV × FV × HV × CV × FV)} (X : Cx p s m args meth c cL_isLeast 10 (some .boolean) wsL_isLeast RL G A) (hk181 : ∀ (vc : CV) (vf : FV) (vh : HV) (vr : CV) (vd : FV) (x7 : Int32) (x8 : Int32) (H : Heap) (locs : List Loc) (ls : Array Slot), k181 vc vf vh vr vd x7 x8 = some (r, zvc, zvf, zvh, zvr, zvd) → Wd G A s H locs (fl [xB ax ac af ah at_ ar ad, cB G ac vc, fB G af vf, hB G ah vh, cB G ar vr, fB G ad vd]) → lv_has ls 10 [(0, .ref ax), (1, .int x1), (2, .long x2), (4, .int x4), (6, .int x6), (7, .int x7), (8, .int x8)] → W p l e rL_isLeast s m args below meth c H locs 0 0 (MQ below (Qi G A r (fl [xB ax ac af ah at_ ar ad, cB G ac zvc, fB G af zvf, hB G ah zvh, cB G ar zvr, fB G ad zvd])) args s 0 0 A) (F0 m 181 ls [])) :
    ∀ (vc : CV) (vf : FV) (vh : HV) (vr : CV) (vd : FV) (x7 : Int32) (x8 : Int32) (H : Heap) (locs : List Loc) (ls : Array Slot), f_L_isLeast_b230 k181 x1 x2 x4 x6 vc vf vh vr vd x7 x8 = some (r, zvc, zvf, zvh, zvr, zvd) → Wd G A s H locs (fl [xB ax ac af ah at_ ar ad, cB G ac vc, fB G af vf, hB G ah vh, cB G ar vr, fB G ad vd]) → lv_has ls 10 [(0, .ref ax), (1, .int x1), (2, .long x2), (4, .int x4), (6, .int x6), (7, .int x7), (8, .int x8)] → W p l e rL_isLeast s m args below meth c H locs 0 0 (MQ below (Qi G A r (fl [xB ax ac af ah at_ ar ad, cB G ac zvc, fB G af zvf, hB G ah zvh, cB G ar zvr, fB G ad zvd])) args s 0 0 A) (F0 m 230 ls []) := by
  obtain ⟨⟨hx, hb, hml, hown, hts⟩, hK, hr, hlk, hA⟩ := id X
  intro vc vf vh vr vd x7 x8 H locs ls h hw hl
  unfold f_L_isLeast_b230 at h
  refine lv_iload hx hb dL_isLeast_230 (lv_at hl 5 rfl) ?_
  refine lv_istore (lv' := [(7, .int x7), (0, .ref ax), (1, .int x1), (2, .long x2), (4, .int x4), (6, .int x6), (8, .int x8)]) hx hb dL_isLeast_232 hl (by decide) rfl (fun ls hl => ?_)
  obtain ⟨t_1, et_1, h⟩ := nm_ok h
  refine lv_iinc (v := t_1) (lv' := [(8, .int t_1), (7, .int x7), (0, .ref ax), (1, .int x1), (2, .long x2), (4, .int x4), (6, .int x6)]) hx hb dL_isLeast_234 hl (k := 6) rfl (by rw [et_1]; rfl) (by decide) rfl (fun ls hl => ?_)
  refine lv_goto (tgt := 181) hx hb dL_isLeast_237 (by decide) ?_
  exact hk181 vc vf vh vr vd x7 t_1 _ _ _ h hw (lv_sub hl [2, 3, 4, 5, 6, 1, 0] rfl)
noncomputable def f_L_isLeast_b219  (k181 : CV → FV → HV → CV → FV → Int32 → Int32 → Option (Int32 × CV × FV × HV × CV × FV)) (x1 : Int32) (x2 : Int64) (x4 : Int32) (x6 : Int32) (vc : CV) (vf : FV) (vh : HV) (vr : CV) (vd : FV) (x8 : Int32) (x9 : Int32) : Option (Int32 × CV × FV × HV × CV × FV) :=
  nm (((100 * x9) + x8) : Int32) fun t_1 =>
  nm (x8 + 1 : Int32) fun t_2 =>
  k181 vc vf vh vr vd t_1 t_2
set_option maxHeartbeats 4000000 in
set_option maxRecDepth 100000 in
theorem w_L_isLeast_b219 {G : GG} {l : Launch} {p : Program} {e : Env} {s : State} {m : MethodId} {args : Array Value} {below : List Frame} {meth : Method} {c : Code} {A : Nat → Prop} {ax : Nat} {ac af ah at_ ar ad : Nat → Nat} {x1 : Int32} {x2 : Int64} {x4 : Int32} {x6 : Int32} {r : Int32} {zvc : CV} {zvf : FV} {zvh : HV} {zvr : CV} {zvd : FV}  {k181 : CV → FV → HV → CV → FV → Int32 → Int32 → Option (Int32 × CV × FV × HV × CV × FV)} (X : Cx p s m args meth c cL_isLeast 10 (some .boolean) wsL_isLeast RL G A) (hk181 : ∀ (vc : CV) (vf : FV) (vh : HV) (vr : CV) (vd : FV) (x7 : Int32) (x8 : Int32) (H : Heap) (locs : List Loc) (ls : Array Slot), k181 vc vf vh vr vd x7 x8 = some (r, zvc, zvf, zvh, zvr, zvd) → Wd G A s H locs (fl [xB ax ac af ah at_ ar ad, cB G ac vc, fB G af vf, hB G ah vh, cB G ar vr, fB G ad vd]) → lv_has ls 10 [(0, .ref ax), (1, .int x1), (2, .long x2), (4, .int x4), (6, .int x6), (7, .int x7), (8, .int x8)] → W p l e rL_isLeast s m args below meth c H locs 0 0 (MQ below (Qi G A r (fl [xB ax ac af ah at_ ar ad, cB G ac zvc, fB G af zvf, hB G ah zvh, cB G ar zvr, fB G ad zvd])) args s 0 0 A) (F0 m 181 ls [])) :
    ∀ (vc : CV) (vf : FV) (vh : HV) (vr : CV) (vd : FV) (x8 : Int32) (x9 : Int32) (H : Heap) (locs : List Loc) (ls : Array Slot), f_L_isLeast_b219 k181 x1 x2 x4 x6 vc vf vh vr vd x8 x9 = some (r, zvc, zvf, zvh, zvr, zvd) → Wd G A s H locs (fl [xB ax ac af ah at_ ar ad, cB G ac vc, fB G af vf, hB G ah vh, cB G ar vr, fB G ad vd]) → lv_has ls 10 [(0, .ref ax), (1, .int x1), (2, .long x2), (4, .int x4), (6, .int x6), (8, .int x8), (9, .int x9)] → W p l e rL_isLeast s m args below meth c H locs 0 0 (MQ below (Qi G A r (fl [xB ax ac af ah at_ ar ad, cB G ac zvc, fB G af zvf, hB G ah zvh, cB G ar zvr, fB G ad zvd])) args s 0 0 A) (F0 m 219 ls []) := by
  obtain ⟨⟨hx, hb, hml, hown, hts⟩, hK, hr, hlk, hA⟩ := id X
  intro vc vf vh vr vd x8 x9 H locs ls h hw hl
  unfold f_L_isLeast_b219 at h
  refine lv_bipush (v := 100) hx hb dL_isLeast_219 (by decide) ?_
  refine lv_iload hx hb dL_isLeast_221 (lv_at hl 6 rfl) ?_
  refine lv_imul hx hb dL_isLeast_223 ?_
  refine lv_iload hx hb dL_isLeast_224 (lv_at hl 5 rfl) ?_
  refine lv_iadd hx hb dL_isLeast_226 ?_
  refine lv_goto (tgt := 232) hx hb dL_isLeast_227 (by decide) ?_
  obtain ⟨t_1, et_1, h⟩ := nm_ok h
  refine lv_istore (lv' := [(7, .int t_1), (0, .ref ax), (1, .int x1), (2, .long x2), (4, .int x4), (6, .int x6), (8, .int x8), (9, .int x9)]) hx hb dL_isLeast_232 hl (by decide) (by rw [et_1]; rfl) (fun ls hl => ?_)
  obtain ⟨t_2, et_2, h⟩ := nm_ok h
  refine lv_iinc (v := t_2) (lv' := [(8, .int t_2), (7, .int t_1), (0, .ref ax), (1, .int x1), (2, .long x2), (4, .int x4), (6, .int x6), (9, .int x9)]) hx hb dL_isLeast_234 hl (k := 6) rfl (by rw [et_2]; rfl) (by decide) rfl (fun ls hl => ?_)
  refine lv_goto (tgt := 181) hx hb dL_isLeast_237 (by decide) ?_
  exact hk181 vc vf vh vr vd t_1 t_2 _ _ _ h hw (lv_sub hl [2, 3, 4, 5, 6, 1, 0] rfl)
noncomputable def f_L_isLeast_b181  (x1 : Int32) (x2 : Int64) (x4 : Int32) (x6 : Int32) : Nat → CV → FV → HV → CV → FV → Int32 → Int32 → Option (Int32 × CV × FV × HV × CV × FV)
  | 0 => fun _ _ _ _ _ _ _ => none
  | n + 1 => fun vc vf vh vr vd x7 x8 =>
    br (x4 ≤ x8)
      (br (x6 = x7)
         (f_L_isLeast_b249 vc vf vh vr vd x1 x2)
         (some (0, vc, vf, vh, vr, vd)))
      (bd3 (f_X4_leastFeeder vc vr vd x8) fun r_3 v_4 w_5 =>
       br (r_3 ≤ 0)
         (f_L_isLeast_b230 (f_L_isLeast_b181 x1 x2 x4 x6 n) x1 x2 x4 x6 vc vf vh v_4 w_5 x7 x8)
         (br (x7 < 0)
            (f_L_isLeast_b219 (f_L_isLeast_b181 x1 x2 x4 x6 n) x1 x2 x4 x6 vc vf vh v_4 w_5 x8 r_3)
            (br (x7 ≤ ((100 * r_3) + x8))
               (f_L_isLeast_b230 (f_L_isLeast_b181 x1 x2 x4 x6 n) x1 x2 x4 x6 vc vf vh v_4 w_5 x7 x8)
               (f_L_isLeast_b219 (f_L_isLeast_b181 x1 x2 x4 x6 n) x1 x2 x4 x6 vc vf vh v_4 w_5 x8 r_3))))
set_option maxHeartbeats 4000000 in
set_option maxRecDepth 100000 in
theorem w_L_isLeast_b181 {G : GG} {l : Launch} {p : Program} {e : Env} {s : State} {m : MethodId} {args : Array Value} {below : List Frame} {meth : Method} {c : Code} {A : Nat → Prop} {ax : Nat} {ac af ah at_ ar ad : Nat → Nat} {x1 : Int32} {x2 : Int64} {x4 : Int32} {x6 : Int32} {r : Int32} {zvc : CV} {zvf : FV} {zvh : HV} {zvr : CV} {zvd : FV}   (X : Cx p s m args meth c cL_isLeast 10 (some .boolean) wsL_isLeast RL G A)  :
    ∀ (n : Nat) (vc : CV) (vf : FV) (vh : HV) (vr : CV) (vd : FV) (x7 : Int32) (x8 : Int32) (H : Heap) (locs : List Loc) (ls : Array Slot), f_L_isLeast_b181 x1 x2 x4 x6 n vc vf vh vr vd x7 x8 = some (r, zvc, zvf, zvh, zvr, zvd) → Wd G A s H locs (fl [xB ax ac af ah at_ ar ad, cB G ac vc, fB G af vf, hB G ah vh, cB G ar vr, fB G ad vd]) → lv_has ls 10 [(0, .ref ax), (1, .int x1), (2, .long x2), (4, .int x4), (6, .int x6), (7, .int x7), (8, .int x8)] → W p l e rL_isLeast s m args below meth c H locs 0 0 (MQ below (Qi G A r (fl [xB ax ac af ah at_ ar ad, cB G ac zvc, fB G af zvf, hB G ah zvh, cB G ar zvr, fB G ad zvd])) args s 0 0 A) (F0 m 181 ls []) := by
  obtain ⟨⟨hx, hb, hml, hown, hts⟩, hK, hr, hlk, hA⟩ := id X
  intro n
  induction n with
  | zero =>
    intro vc vf vh vr vd x7 x8 H locs ls h
    rw [f_L_isLeast_b181] at h
    cases h
  | succ n ih =>
    intro vc vf vh vr vd x7 x8 H locs ls h hw hl
    rw [f_L_isLeast_b181] at h
    refine lv_iload hx hb dL_isLeast_181 (lv_at hl 6 rfl) ?_
    refine lv_iload hx hb dL_isLeast_183 (lv_at hl 3 rfl) ?_
    refine lv_icmp_ge (tgt := 240) hx hb dL_isLeast_185 (by decide) (fun k_1 => ?_) (fun k_1 => ?_)
    · have h := br_yes h k_1
      refine lv_iload hx hb dL_isLeast_240 (lv_at hl 4 rfl) ?_
      refine lv_iload hx hb dL_isLeast_242 (lv_at hl 5 rfl) ?_
      refine lv_icmp_eq (tgt := 249) hx hb dL_isLeast_244 (by decide) (fun k_2 => ?_) (fun k_2 => ?_)
      · have h := br_yes h k_2
        exact w_L_isLeast_b249 X vc vf vh vr vd x1 x2 _ _ _ h hw (lv_sub hl [0, 1, 2] rfl)
      · have h := br_no h k_2
        refine lv_iconst (v := 0) hx hb dL_isLeast_247 (by decide) ?_
        cases h
        exact x_iret X (narz (Or.inl rfl)) hw rfl rfl dL_isLeast_248
    · have h := br_no h k_1
      refine lv_aload_n hx hb dL_isLeast_188 rfl (lv_at hl 0 rfl) ?_
      refine lv_iload hx hb dL_isLeast_189 (lv_at hl 6 rfl) ?_
      obtain ⟨r_3, v_4, w_5, c_6, h⟩ := bd3_ok h
      refine x_Vi (As := [.int x8]) (w' := fl [xB ax ac af ah at_ ar ad, cB G ac vc, fB G af vf, hB G ah vh, cB G ar v_4, fB G ad w_5]) X hw (m_X4_leastFeeder (G := G) (l := l) (ax := ax) (ac := ac) (af := af) (ah := ah) (at_ := at_) (ar := ar) (ad := ad) c_6) (cut8 (bs' := [xB ax ac af ah at_ ar ad, cB G ac vc, fB G af vf, hB G ah vh, cB G ar v_4, fB G ad w_5]) 6 [0, 1, 4, 5] [2, 3] [0, 1, 4, 5, 2, 3] [xB ax ac af ah at_ ar ad, cB G ac vc, cB G ar v_4, fB G ad w_5] rfl (by decide +kernel) rfl rfl rfl (by decide +kernel) rfl) 0 0 rfl rfl rfl (cwV 1 hts gL_isLeast_X4_leastFeeder rfl rfl rfl hd_X4_leastFeeder ⟨Nat.le_of_ble_eq_true rfl, Nat.le_of_ble_eq_true rfl⟩) rfl hl.1 rfl (Nat.le_of_ble_eq_true rfl) dL_isLeast_191 ⟨Nat.le_of_ble_eq_true rfl, Nat.le_of_ble_eq_true rfl⟩ (fun H locs hw => ?_)
      refine lv_istore (lv' := [(9, .int r_3), (0, .ref ax), (1, .int x1), (2, .long x2), (4, .int x4), (6, .int x6), (7, .int x7), (8, .int x8)]) hx hb dL_isLeast_194 hl (by decide) rfl (fun ls hl => ?_)
      refine lv_iload hx hb dL_isLeast_196 (lv_at hl 0 rfl) ?_
      refine lv_if_le (tgt := 230) hx hb dL_isLeast_198 (by decide) (fun k_7 => ?_) (fun k_7 => ?_)
      · have h := br_yes h k_7
        exact w_L_isLeast_b230 X ih vc vf vh v_4 w_5 x7 x8 _ _ _ h hw (lv_sub hl [1, 2, 3, 4, 5, 6, 7] rfl)
      · have h := br_no h k_7
        refine lv_iload hx hb dL_isLeast_201 (lv_at hl 6 rfl) ?_
        refine lv_if_lt (tgt := 219) hx hb dL_isLeast_203 (by decide) (fun k_8 => ?_) (fun k_8 => ?_)
        · have h := br_yes h k_8
          exact w_L_isLeast_b219 X ih vc vf vh v_4 w_5 x8 r_3 _ _ _ h hw (lv_sub hl [1, 2, 3, 4, 5, 7, 0] rfl)
        · have h := br_no h k_8
          refine lv_bipush (v := 100) hx hb dL_isLeast_206 (by decide) ?_
          refine lv_iload hx hb dL_isLeast_208 (lv_at hl 0 rfl) ?_
          refine lv_imul hx hb dL_isLeast_210 ?_
          refine lv_iload hx hb dL_isLeast_211 (lv_at hl 7 rfl) ?_
          refine lv_iadd hx hb dL_isLeast_213 ?_
          refine lv_iload hx hb dL_isLeast_214 (lv_at hl 6 rfl) ?_
          refine lv_icmp_ge (tgt := 230) hx hb dL_isLeast_216 (by decide) (fun k_9 => ?_) (fun k_9 => ?_)
          · have h := br_yes h k_9
            exact w_L_isLeast_b230 X ih vc vf vh v_4 w_5 x7 x8 _ _ _ h hw (lv_sub hl [1, 2, 3, 4, 5, 6, 7] rfl)
          · have h := br_no h k_9
            exact w_L_isLeast_b219 X ih vc vf vh v_4 w_5 x8 r_3 _ _ _ h hw (lv_sub hl [1, 2, 3, 4, 5, 7, 0] rfl)
noncomputable def f_L_isLeast_b149  (k57 : CV → FV → HV → CV → FV → Int32 → Option (Int32 × CV × FV × HV × CV × FV)) (x1 : Int32) (x2 : Int64) (x4 : Int32) (x5 : Int32) (vc : CV) (vf : FV) (vh : HV) (vr : CV) (vd : FV) (x6 : Int32) (x7 : Int32) : Option (Int32 × CV × FV × HV × CV × FV) :=
  br (x6 = x5)
    (br (x7 = 0)
       (some (0, vc, vf, vh, vr, vd))
       (nm (x6 + 1 : Int32) fun t_4 =>
        k57 vc vf vh vr vd t_4))
    (nm (x6 + 1 : Int32) fun t_2 =>
     k57 vc vf vh vr vd t_2)
set_option maxHeartbeats 4000000 in
set_option maxRecDepth 100000 in
theorem w_L_isLeast_b149 {G : GG} {l : Launch} {p : Program} {e : Env} {s : State} {m : MethodId} {args : Array Value} {below : List Frame} {meth : Method} {c : Code} {A : Nat → Prop} {ax : Nat} {ac af ah at_ ar ad : Nat → Nat} {x1 : Int32} {x2 : Int64} {x4 : Int32} {x5 : Int32} {r : Int32} {zvc : CV} {zvf : FV} {zvh : HV} {zvr : CV} {zvd : FV}  {k57 : CV → FV → HV → CV → FV → Int32 → Option (Int32 × CV × FV × HV × CV × FV)} (X : Cx p s m args meth c cL_isLeast 10 (some .boolean) wsL_isLeast RL G A) (hk57 : ∀ (vc : CV) (vf : FV) (vh : HV) (vr : CV) (vd : FV) (x6 : Int32) (H : Heap) (locs : List Loc) (ls : Array Slot), k57 vc vf vh vr vd x6 = some (r, zvc, zvf, zvh, zvr, zvd) → Wd G A s H locs (fl [xB ax ac af ah at_ ar ad, cB G ac vc, fB G af vf, hB G ah vh, cB G ar vr, fB G ad vd]) → lv_has ls 10 [(0, .ref ax), (1, .int x1), (2, .long x2), (4, .int x4), (5, .int x5), (6, .int x6)] → W p l e rL_isLeast s m args below meth c H locs 0 0 (MQ below (Qi G A r (fl [xB ax ac af ah at_ ar ad, cB G ac zvc, fB G af zvf, hB G ah zvh, cB G ar zvr, fB G ad zvd])) args s 0 0 A) (F0 m 57 ls [])) :
    ∀ (vc : CV) (vf : FV) (vh : HV) (vr : CV) (vd : FV) (x6 : Int32) (x7 : Int32) (H : Heap) (locs : List Loc) (ls : Array Slot), f_L_isLeast_b149 k57 x1 x2 x4 x5 vc vf vh vr vd x6 x7 = some (r, zvc, zvf, zvh, zvr, zvd) → Wd G A s H locs (fl [xB ax ac af ah at_ ar ad, cB G ac vc, fB G af vf, hB G ah vh, cB G ar vr, fB G ad vd]) → lv_has ls 10 [(0, .ref ax), (1, .int x1), (2, .long x2), (4, .int x4), (5, .int x5), (6, .int x6), (7, .int x7)] → W p l e rL_isLeast s m args below meth c H locs 0 0 (MQ below (Qi G A r (fl [xB ax ac af ah at_ ar ad, cB G ac zvc, fB G af zvf, hB G ah zvh, cB G ar zvr, fB G ad zvd])) args s 0 0 A) (F0 m 149 ls []) := by
  obtain ⟨⟨hx, hb, hml, hown, hts⟩, hK, hr, hlk, hA⟩ := id X
  intro vc vf vh vr vd x6 x7 H locs ls h hw hl
  unfold f_L_isLeast_b149 at h
  refine lv_iload hx hb dL_isLeast_149 (lv_at hl 5 rfl) ?_
  refine lv_iload hx hb dL_isLeast_151 (lv_at hl 4 rfl) ?_
  refine lv_icmp_ne (tgt := 163) hx hb dL_isLeast_153 (by decide) (fun k_1 => ?_) (fun k_1 => ?_)
  · have h := br_no h k_1
    obtain ⟨t_2, et_2, h⟩ := nm_ok h
    refine lv_iinc (v := t_2) (lv' := [(6, .int t_2), (0, .ref ax), (1, .int x1), (2, .long x2), (4, .int x4), (5, .int x5), (7, .int x7)]) hx hb dL_isLeast_163 hl (k := 5) rfl (by rw [et_2]; rfl) (by decide) rfl (fun ls hl => ?_)
    refine lv_goto (tgt := 57) hx hb dL_isLeast_166 (by decide) ?_
    exact hk57 vc vf vh vr vd t_2 _ _ _ h hw (lv_sub hl [1, 2, 3, 4, 5, 0] rfl)
  · have h := br_yes h k_1
    refine lv_iload hx hb dL_isLeast_156 (lv_at hl 6 rfl) ?_
    refine lv_if_ne (tgt := 163) hx hb dL_isLeast_158 (by decide) (fun k_3 => ?_) (fun k_3 => ?_)
    · have h := br_no h k_3
      obtain ⟨t_4, et_4, h⟩ := nm_ok h
      refine lv_iinc (v := t_4) (lv' := [(6, .int t_4), (0, .ref ax), (1, .int x1), (2, .long x2), (4, .int x4), (5, .int x5), (7, .int x7)]) hx hb dL_isLeast_163 hl (k := 5) rfl (by rw [et_4]; rfl) (by decide) rfl (fun ls hl => ?_)
      refine lv_goto (tgt := 57) hx hb dL_isLeast_166 (by decide) ?_
      exact hk57 vc vf vh vr vd t_4 _ _ _ h hw (lv_sub hl [1, 2, 3, 4, 5, 0] rfl)
    · have h := br_yes h k_3
      refine lv_iconst (v := 0) hx hb dL_isLeast_161 (by decide) ?_
      cases h
      exact x_iret X (narz (Or.inl rfl)) hw rfl rfl dL_isLeast_162
noncomputable def f_L_isLeast_b144  (k57 : CV → FV → HV → CV → FV → Int32 → Option (Int32 × CV × FV × HV × CV × FV)) (x1 : Int32) (x2 : Int64) (x4 : Int32) (x5 : Int32) (vc : CV) (vf : FV) (vh : HV) (vr : CV) (vd : FV) (x6 : Int32) (x7 : Int32) : Option (Int32 × CV × FV × HV × CV × FV) :=
  br (x7 = 0)
    (f_L_isLeast_b149 k57 x1 x2 x4 x5 vc vf vh vr vd x6 x7)
    (some (0, vc, vf, vh, vr, vd))
set_option maxHeartbeats 4000000 in
set_option maxRecDepth 100000 in
theorem w_L_isLeast_b144 {G : GG} {l : Launch} {p : Program} {e : Env} {s : State} {m : MethodId} {args : Array Value} {below : List Frame} {meth : Method} {c : Code} {A : Nat → Prop} {ax : Nat} {ac af ah at_ ar ad : Nat → Nat} {x1 : Int32} {x2 : Int64} {x4 : Int32} {x5 : Int32} {r : Int32} {zvc : CV} {zvf : FV} {zvh : HV} {zvr : CV} {zvd : FV}  {k57 : CV → FV → HV → CV → FV → Int32 → Option (Int32 × CV × FV × HV × CV × FV)} (X : Cx p s m args meth c cL_isLeast 10 (some .boolean) wsL_isLeast RL G A) (hk57 : ∀ (vc : CV) (vf : FV) (vh : HV) (vr : CV) (vd : FV) (x6 : Int32) (H : Heap) (locs : List Loc) (ls : Array Slot), k57 vc vf vh vr vd x6 = some (r, zvc, zvf, zvh, zvr, zvd) → Wd G A s H locs (fl [xB ax ac af ah at_ ar ad, cB G ac vc, fB G af vf, hB G ah vh, cB G ar vr, fB G ad vd]) → lv_has ls 10 [(0, .ref ax), (1, .int x1), (2, .long x2), (4, .int x4), (5, .int x5), (6, .int x6)] → W p l e rL_isLeast s m args below meth c H locs 0 0 (MQ below (Qi G A r (fl [xB ax ac af ah at_ ar ad, cB G ac zvc, fB G af zvf, hB G ah zvh, cB G ar zvr, fB G ad zvd])) args s 0 0 A) (F0 m 57 ls [])) :
    ∀ (vc : CV) (vf : FV) (vh : HV) (vr : CV) (vd : FV) (x6 : Int32) (x7 : Int32) (H : Heap) (locs : List Loc) (ls : Array Slot), f_L_isLeast_b144 k57 x1 x2 x4 x5 vc vf vh vr vd x6 x7 = some (r, zvc, zvf, zvh, zvr, zvd) → Wd G A s H locs (fl [xB ax ac af ah at_ ar ad, cB G ac vc, fB G af vf, hB G ah vh, cB G ar vr, fB G ad vd]) → lv_has ls 10 [(0, .ref ax), (1, .int x1), (2, .long x2), (4, .int x4), (5, .int x5), (6, .int x6), (7, .int x7)] → W p l e rL_isLeast s m args below meth c H locs 0 0 (MQ below (Qi G A r (fl [xB ax ac af ah at_ ar ad, cB G ac zvc, fB G af zvf, hB G ah zvh, cB G ar zvr, fB G ad zvd])) args s 0 0 A) (F0 m 144 ls []) := by
  obtain ⟨⟨hx, hb, hml, hown, hts⟩, hK, hr, hlk, hA⟩ := id X
  intro vc vf vh vr vd x6 x7 H locs ls h hw hl
  unfold f_L_isLeast_b144 at h
  refine lv_iload hx hb dL_isLeast_144 (lv_at hl 6 rfl) ?_
  refine lv_if_ne (tgt := 161) hx hb dL_isLeast_146 (by decide) (fun k_1 => ?_) (fun k_1 => ?_)
  · have h := br_no h k_1
    refine lv_iconst (v := 0) hx hb dL_isLeast_161 (by decide) ?_
    cases h
    exact x_iret X (narz (Or.inl rfl)) hw rfl rfl dL_isLeast_162
  · have h := br_yes h k_1
    exact w_L_isLeast_b149 X hk57 vc vf vh vr vd x6 x7 _ _ _ h hw (lv_sub hl [0, 1, 2, 3, 4, 5, 6] rfl)
noncomputable def f_L_isLeast_b116  (k57 : CV → FV → HV → CV → FV → Int32 → Option (Int32 × CV × FV × HV × CV × FV)) (x1 : Int32) (x2 : Int64) (x4 : Int32) (x5 : Int32) (vc : CV) (vf : FV) (vh : HV) (vr : CV) (vd : FV) (x6 : Int32) (y0 : Int32) : Option (Int32 × CV × FV × HV × CV × FV) :=
  bd4 (f_X4_undo vc vf vh) fun r_1 v_2 w_3 g_4 =>
  br (r_1 < 0)
    (some (0, v_2, w_3, g_4, vr, vd))
    (bd4 (f_X4_undo v_2 w_3 g_4) fun r_7 v_8 w_9 g_10 =>
     br (r_7 < 0)
       (some (0, v_8, w_9, g_10, vr, vd))
       (br (x5 < 0)
          (f_L_isLeast_b144 k57 x1 x2 x4 x5 v_8 w_9 g_10 vr vd x6 y0)
          (br (x5 ≤ x6)
             (f_L_isLeast_b149 k57 x1 x2 x4 x5 v_8 w_9 g_10 vr vd x6 y0)
             (f_L_isLeast_b144 k57 x1 x2 x4 x5 v_8 w_9 g_10 vr vd x6 y0))))
set_option maxHeartbeats 4000000 in
set_option maxRecDepth 100000 in
theorem w_L_isLeast_b116 {G : GG} {l : Launch} {p : Program} {e : Env} {s : State} {m : MethodId} {args : Array Value} {below : List Frame} {meth : Method} {c : Code} {A : Nat → Prop} {ax : Nat} {ac af ah at_ ar ad : Nat → Nat} {x1 : Int32} {x2 : Int64} {x4 : Int32} {x5 : Int32} {r : Int32} {zvc : CV} {zvf : FV} {zvh : HV} {zvr : CV} {zvd : FV}  {k57 : CV → FV → HV → CV → FV → Int32 → Option (Int32 × CV × FV × HV × CV × FV)} (X : Cx p s m args meth c cL_isLeast 10 (some .boolean) wsL_isLeast RL G A) (hk57 : ∀ (vc : CV) (vf : FV) (vh : HV) (vr : CV) (vd : FV) (x6 : Int32) (H : Heap) (locs : List Loc) (ls : Array Slot), k57 vc vf vh vr vd x6 = some (r, zvc, zvf, zvh, zvr, zvd) → Wd G A s H locs (fl [xB ax ac af ah at_ ar ad, cB G ac vc, fB G af vf, hB G ah vh, cB G ar vr, fB G ad vd]) → lv_has ls 10 [(0, .ref ax), (1, .int x1), (2, .long x2), (4, .int x4), (5, .int x5), (6, .int x6)] → W p l e rL_isLeast s m args below meth c H locs 0 0 (MQ below (Qi G A r (fl [xB ax ac af ah at_ ar ad, cB G ac zvc, fB G af zvf, hB G ah zvh, cB G ar zvr, fB G ad zvd])) args s 0 0 A) (F0 m 57 ls [])) :
    ∀ (vc : CV) (vf : FV) (vh : HV) (vr : CV) (vd : FV) (x6 : Int32) (y0 : Int32) (H : Heap) (locs : List Loc) (ls : Array Slot), f_L_isLeast_b116 k57 x1 x2 x4 x5 vc vf vh vr vd x6 y0 = some (r, zvc, zvf, zvh, zvr, zvd) → Wd G A s H locs (fl [xB ax ac af ah at_ ar ad, cB G ac vc, fB G af vf, hB G ah vh, cB G ar vr, fB G ad vd]) → lv_has ls 10 [(0, .ref ax), (1, .int x1), (2, .long x2), (4, .int x4), (5, .int x5), (6, .int x6)] → W p l e rL_isLeast s m args below meth c H locs 0 0 (MQ below (Qi G A r (fl [xB ax ac af ah at_ ar ad, cB G ac zvc, fB G af zvf, hB G ah zvh, cB G ar zvr, fB G ad zvd])) args s 0 0 A) (F0 m 116 ls [.int y0]) := by
  obtain ⟨⟨hx, hb, hml, hown, hts⟩, hK, hr, hlk, hA⟩ := id X
  intro vc vf vh vr vd x6 y0 H locs ls h hw hl
  unfold f_L_isLeast_b116 at h
  refine lv_istore (lv' := [(7, .int y0), (0, .ref ax), (1, .int x1), (2, .long x2), (4, .int x4), (5, .int x5), (6, .int x6)]) hx hb dL_isLeast_116 hl (by decide) rfl (fun ls hl => ?_)
  refine lv_aload_n hx hb dL_isLeast_118 rfl (lv_at hl 1 rfl) ?_
  obtain ⟨r_1, v_2, w_3, g_4, c_5, h⟩ := bd4_ok h
  refine x_Vi (As := []) (w' := fl [xB ax ac af ah at_ ar ad, cB G ac v_2, fB G af w_3, hB G ah g_4, cB G ar vr, fB G ad vd]) X hw (m_X4_undo (G := G) (l := l) (ax := ax) (ac := ac) (af := af) (ah := ah) (at_ := at_) (ar := ar) (ad := ad) c_5) (cut8 (bs' := [xB ax ac af ah at_ ar ad, cB G ac v_2, fB G af w_3, hB G ah g_4, cB G ar vr, fB G ad vd]) 6 [0, 1, 2, 3] [4, 5] [0, 1, 2, 3, 4, 5] [xB ax ac af ah at_ ar ad, cB G ac v_2, fB G af w_3, hB G ah g_4] rfl (by decide +kernel) rfl rfl rfl (by decide +kernel) rfl) 0 0 rfl rfl rfl (cwV 0 hts gL_isLeast_X4_undo rfl rfl rfl hd_X4_undo ⟨Nat.le_of_ble_eq_true rfl, Nat.le_of_ble_eq_true rfl⟩) rfl hl.1 rfl (Nat.le_of_ble_eq_true rfl) dL_isLeast_119 ⟨Nat.le_of_ble_eq_true rfl, Nat.le_of_ble_eq_true rfl⟩ (fun H locs hw => ?_)
  refine lv_if_lt (tgt := 161) hx hb dL_isLeast_122 (by decide) (fun k_6 => ?_) (fun k_6 => ?_)
  · have h := br_yes h k_6
    refine lv_iconst (v := 0) hx hb dL_isLeast_161 (by decide) ?_
    cases h
    exact x_iret X (narz (Or.inl rfl)) hw rfl rfl dL_isLeast_162
  · have h := br_no h k_6
    refine lv_aload_n hx hb dL_isLeast_125 rfl (lv_at hl 1 rfl) ?_
    obtain ⟨r_7, v_8, w_9, g_10, c_11, h⟩ := bd4_ok h
    refine x_Vi (As := []) (w' := fl [xB ax ac af ah at_ ar ad, cB G ac v_8, fB G af w_9, hB G ah g_10, cB G ar vr, fB G ad vd]) X hw (m_X4_undo (G := G) (l := l) (ax := ax) (ac := ac) (af := af) (ah := ah) (at_ := at_) (ar := ar) (ad := ad) c_11) (cut8 (bs' := [xB ax ac af ah at_ ar ad, cB G ac v_8, fB G af w_9, hB G ah g_10, cB G ar vr, fB G ad vd]) 6 [0, 1, 2, 3] [4, 5] [0, 1, 2, 3, 4, 5] [xB ax ac af ah at_ ar ad, cB G ac v_8, fB G af w_9, hB G ah g_10] rfl (by decide +kernel) rfl rfl rfl (by decide +kernel) rfl) 0 0 rfl rfl rfl (cwV 0 hts gL_isLeast_X4_undo rfl rfl rfl hd_X4_undo ⟨Nat.le_of_ble_eq_true rfl, Nat.le_of_ble_eq_true rfl⟩) rfl hl.1 rfl (Nat.le_of_ble_eq_true rfl) dL_isLeast_126 ⟨Nat.le_of_ble_eq_true rfl, Nat.le_of_ble_eq_true rfl⟩ (fun H locs hw => ?_)
    refine lv_if_lt (tgt := 161) hx hb dL_isLeast_129 (by decide) (fun k_12 => ?_) (fun k_12 => ?_)
    · have h := br_yes h k_12
      refine lv_iconst (v := 0) hx hb dL_isLeast_161 (by decide) ?_
      cases h
      exact x_iret X (narz (Or.inl rfl)) hw rfl rfl dL_isLeast_162
    · have h := br_no h k_12
      refine lv_iload hx hb dL_isLeast_132 (lv_at hl 5 rfl) ?_
      refine lv_if_lt (tgt := 144) hx hb dL_isLeast_134 (by decide) (fun k_13 => ?_) (fun k_13 => ?_)
      · have h := br_yes h k_13
        exact w_L_isLeast_b144 X hk57 v_8 w_9 g_10 vr vd x6 y0 _ _ _ h hw (lv_sub hl [1, 2, 3, 4, 5, 6, 0] rfl)
      · have h := br_no h k_13
        refine lv_iload hx hb dL_isLeast_137 (lv_at hl 6 rfl) ?_
        refine lv_iload hx hb dL_isLeast_139 (lv_at hl 5 rfl) ?_
        refine lv_icmp_ge (tgt := 149) hx hb dL_isLeast_141 (by decide) (fun k_14 => ?_) (fun k_14 => ?_)
        · have h := br_yes h k_14
          exact w_L_isLeast_b149 X hk57 v_8 w_9 g_10 vr vd x6 y0 _ _ _ h hw (lv_sub hl [1, 2, 3, 4, 5, 6, 0] rfl)
        · have h := br_no h k_14
          exact w_L_isLeast_b144 X hk57 v_8 w_9 g_10 vr vd x6 y0 _ _ _ h hw (lv_sub hl [1, 2, 3, 4, 5, 6, 0] rfl)
noncomputable def f_L_isLeast_b57  (x1 : Int32) (x2 : Int64) (x4 : Int32) (x5 : Int32) : Nat → CV → FV → HV → CV → FV → Int32 → Option (Int32 × CV × FV × HV × CV × FV)
  | 0 => fun _ _ _ _ _ _ => none
  | n + 1 => fun vc vf vh vr vd x6 =>
    br (15 < x6)
      (bd3 (f_X4_bestFeeder vc vr vd) fun r_2 v_3 w_4 =>
       f_L_isLeast_b181 x1 x2 x4 r_2 FU vc vf vh v_3 w_4 (-1) 0)
      (bd4 (f_X4_addSection vc vf vh ((x6 * x6) * x6) ((5 * x6) * x6) 1) fun r_6 v_7 w_8 g_9 =>
       br (r_6 = x4)
         (bd4 (f_X4_join v_7 w_8 g_9 x1 x4) fun r_12 v_13 w_14 g_15 =>
          br (0 ≤ r_12)
            (bd (f_X4_count v_13 w_14 9) fun r_18 =>
             br (r_18 = 1)
               (f_L_isLeast_b116 (f_L_isLeast_b57 x1 x2 x4 x5 n) x1 x2 x4 x5 v_13 w_14 g_15 vr vd x6 1)
               (f_L_isLeast_b116 (f_L_isLeast_b57 x1 x2 x4 x5 n) x1 x2 x4 x5 v_13 w_14 g_15 vr vd x6 0))
            (some (0, v_13, w_14, g_15, vr, vd)))
         (some (0, v_7, w_8, g_9, vr, vd)))
set_option maxHeartbeats 4000000 in
set_option maxRecDepth 100000 in
theorem w_L_isLeast_b57 {G : GG} {l : Launch} {p : Program} {e : Env} {s : State} {m : MethodId} {args : Array Value} {below : List Frame} {meth : Method} {c : Code} {A : Nat → Prop} {ax : Nat} {ac af ah at_ ar ad : Nat → Nat} {x1 : Int32} {x2 : Int64} {x4 : Int32} {x5 : Int32} {r : Int32} {zvc : CV} {zvf : FV} {zvh : HV} {zvr : CV} {zvd : FV}   (X : Cx p s m args meth c cL_isLeast 10 (some .boolean) wsL_isLeast RL G A)  :
    ∀ (n : Nat) (vc : CV) (vf : FV) (vh : HV) (vr : CV) (vd : FV) (x6 : Int32) (H : Heap) (locs : List Loc) (ls : Array Slot), f_L_isLeast_b57 x1 x2 x4 x5 n vc vf vh vr vd x6 = some (r, zvc, zvf, zvh, zvr, zvd) → Wd G A s H locs (fl [xB ax ac af ah at_ ar ad, cB G ac vc, fB G af vf, hB G ah vh, cB G ar vr, fB G ad vd]) → lv_has ls 10 [(0, .ref ax), (1, .int x1), (2, .long x2), (4, .int x4), (5, .int x5), (6, .int x6)] → W p l e rL_isLeast s m args below meth c H locs 0 0 (MQ below (Qi G A r (fl [xB ax ac af ah at_ ar ad, cB G ac zvc, fB G af zvf, hB G ah zvh, cB G ar zvr, fB G ad zvd])) args s 0 0 A) (F0 m 57 ls []) := by
  obtain ⟨⟨hx, hb, hml, hown, hts⟩, hK, hr, hlk, hA⟩ := id X
  intro n
  induction n with
  | zero =>
    intro vc vf vh vr vd x6 H locs ls h
    rw [f_L_isLeast_b57] at h
    cases h
  | succ n ih =>
    intro vc vf vh vr vd x6 H locs ls h hw hl
    rw [f_L_isLeast_b57] at h
    refine lv_iload hx hb dL_isLeast_57 (lv_at hl 5 rfl) ?_
    refine lv_bipush (v := 15) hx hb dL_isLeast_59 (by decide) ?_
    refine lv_icmp_gt (tgt := 169) hx hb dL_isLeast_61 (by decide) (fun k_1 => ?_) (fun k_1 => ?_)
    · have h := br_yes h k_1
      refine lv_aload_n hx hb dL_isLeast_169 rfl (lv_at hl 0 rfl) ?_
      obtain ⟨r_2, v_3, w_4, c_5, h⟩ := bd3_ok h
      refine x_Vi (As := []) (w' := fl [xB ax ac af ah at_ ar ad, cB G ac vc, fB G af vf, hB G ah vh, cB G ar v_3, fB G ad w_4]) X hw (m_X4_bestFeeder (G := G) (l := l) (ax := ax) (ac := ac) (af := af) (ah := ah) (at_ := at_) (ar := ar) (ad := ad) c_5) (cut8 (bs' := [xB ax ac af ah at_ ar ad, cB G ac vc, fB G af vf, hB G ah vh, cB G ar v_3, fB G ad w_4]) 6 [0, 1, 4, 5] [2, 3] [0, 1, 4, 5, 2, 3] [xB ax ac af ah at_ ar ad, cB G ac vc, cB G ar v_3, fB G ad w_4] rfl (by decide +kernel) rfl rfl rfl (by decide +kernel) rfl) 0 0 rfl rfl rfl (cwV 0 hts gL_isLeast_X4_bestFeeder rfl rfl rfl hd_X4_bestFeeder ⟨Nat.le_of_ble_eq_true rfl, Nat.le_of_ble_eq_true rfl⟩) rfl hl.1 rfl (Nat.le_of_ble_eq_true rfl) dL_isLeast_170 ⟨Nat.le_of_ble_eq_true rfl, Nat.le_of_ble_eq_true rfl⟩ (fun H locs hw => ?_)
      refine lv_istore (lv' := [(6, .int r_2), (0, .ref ax), (1, .int x1), (2, .long x2), (4, .int x4), (5, .int x5)]) hx hb dL_isLeast_173 hl (by decide) rfl (fun ls hl => ?_)
      refine lv_iconst (v := (-1)) hx hb dL_isLeast_175 (by decide) ?_
      refine lv_istore (lv' := [(7, .int (-1)), (6, .int r_2), (0, .ref ax), (1, .int x1), (2, .long x2), (4, .int x4), (5, .int x5)]) hx hb dL_isLeast_176 hl (by decide) rfl (fun ls hl => ?_)
      refine lv_iconst (v := 0) hx hb dL_isLeast_178 (by decide) ?_
      refine lv_istore (lv' := [(8, .int 0), (7, .int (-1)), (6, .int r_2), (0, .ref ax), (1, .int x1), (2, .long x2), (4, .int x4), (5, .int x5)]) hx hb dL_isLeast_179 hl (by decide) rfl (fun ls hl => ?_)
      exact w_L_isLeast_b181 X FU vc vf vh v_3 w_4 (-1) 0 _ _ _ h hw (lv_sub hl [3, 4, 5, 6, 2, 1, 0] rfl)
    · have h := br_no h k_1
      refine lv_aload_n hx hb dL_isLeast_64 rfl (lv_at hl 0 rfl) ?_
      refine lv_iload hx hb dL_isLeast_65 (lv_at hl 5 rfl) ?_
      refine lv_iload hx hb dL_isLeast_67 (lv_at hl 5 rfl) ?_
      refine lv_imul hx hb dL_isLeast_69 ?_
      refine lv_iload hx hb dL_isLeast_70 (lv_at hl 5 rfl) ?_
      refine lv_imul hx hb dL_isLeast_72 ?_
      refine lv_iconst (v := 5) hx hb dL_isLeast_73 (by decide) ?_
      refine lv_iload hx hb dL_isLeast_74 (lv_at hl 5 rfl) ?_
      refine lv_imul hx hb dL_isLeast_76 ?_
      refine lv_iload hx hb dL_isLeast_77 (lv_at hl 5 rfl) ?_
      refine lv_imul hx hb dL_isLeast_79 ?_
      refine lv_iconst (v := 1) hx hb dL_isLeast_80 (by decide) ?_
      obtain ⟨r_6, v_7, w_8, g_9, c_10, h⟩ := bd4_ok h
      refine x_Vi (As := [.int ((x6 * x6) * x6), .int ((5 * x6) * x6), .int 1]) (w' := fl [xB ax ac af ah at_ ar ad, cB G ac v_7, fB G af w_8, hB G ah g_9, cB G ar vr, fB G ad vd]) X hw (m_X4_addSection (G := G) (l := l) (ax := ax) (ac := ac) (af := af) (ah := ah) (at_ := at_) (ar := ar) (ad := ad) c_10) (cut8 (bs' := [xB ax ac af ah at_ ar ad, cB G ac v_7, fB G af w_8, hB G ah g_9, cB G ar vr, fB G ad vd]) 6 [0, 1, 2, 3] [4, 5] [0, 1, 2, 3, 4, 5] [xB ax ac af ah at_ ar ad, cB G ac v_7, fB G af w_8, hB G ah g_9] rfl (by decide +kernel) rfl rfl rfl (by decide +kernel) rfl) 0 0 rfl rfl rfl (cwV 3 hts gL_isLeast_X4_addSection rfl rfl rfl hd_X4_addSection ⟨Nat.le_of_ble_eq_true rfl, Nat.le_of_ble_eq_true rfl⟩) rfl hl.1 rfl (Nat.le_of_ble_eq_true rfl) dL_isLeast_81 ⟨Nat.le_of_ble_eq_true rfl, Nat.le_of_ble_eq_true rfl⟩ (fun H locs hw => ?_)
      refine lv_iload hx hb dL_isLeast_84 (lv_at hl 3 rfl) ?_
      refine lv_icmp_ne (tgt := 99) hx hb dL_isLeast_86 (by decide) (fun k_11 => ?_) (fun k_11 => ?_)
      · have h := br_no h k_11
        refine lv_iconst (v := 0) hx hb dL_isLeast_99 (by decide) ?_
        cases h
        exact x_iret X (narz (Or.inl rfl)) hw rfl rfl dL_isLeast_100
      · have h := br_yes h k_11
        refine lv_aload_n hx hb dL_isLeast_89 rfl (lv_at hl 0 rfl) ?_
        refine lv_iload_n hx hb dL_isLeast_90 rfl (lv_at hl 1 rfl) ?_
        refine lv_iload hx hb dL_isLeast_91 (lv_at hl 3 rfl) ?_
        obtain ⟨r_12, v_13, w_14, g_15, c_16, h⟩ := bd4_ok h
        refine x_Vi (As := [.int x1, .int x4]) (w' := fl [xB ax ac af ah at_ ar ad, cB G ac v_13, fB G af w_14, hB G ah g_15, cB G ar vr, fB G ad vd]) X hw (m_X4_join (G := G) (l := l) (ax := ax) (ac := ac) (af := af) (ah := ah) (at_ := at_) (ar := ar) (ad := ad) c_16) (cut8 (bs' := [xB ax ac af ah at_ ar ad, cB G ac v_13, fB G af w_14, hB G ah g_15, cB G ar vr, fB G ad vd]) 6 [0, 1, 2, 3] [4, 5] [0, 1, 2, 3, 4, 5] [xB ax ac af ah at_ ar ad, cB G ac v_13, fB G af w_14, hB G ah g_15] rfl (by decide +kernel) rfl rfl rfl (by decide +kernel) rfl) 0 0 rfl rfl rfl (cwV 2 hts gL_isLeast_X4_join rfl rfl rfl hd_X4_join ⟨Nat.le_of_ble_eq_true rfl, Nat.le_of_ble_eq_true rfl⟩) rfl hl.1 rfl (Nat.le_of_ble_eq_true rfl) dL_isLeast_93 ⟨Nat.le_of_ble_eq_true rfl, Nat.le_of_ble_eq_true rfl⟩ (fun H locs hw => ?_)
        refine lv_if_ge (tgt := 101) hx hb dL_isLeast_96 (by decide) (fun k_17 => ?_) (fun k_17 => ?_)
        · have h := br_yes h k_17
          refine lv_aload_n hx hb dL_isLeast_101 rfl (lv_at hl 0 rfl) ?_
          refine lv_bipush (v := 9) hx hb dL_isLeast_102 (by decide) ?_
          obtain ⟨r_18, c_19, h⟩ := bd_ok h
          refine x_Vi (As := [.int 9]) (w' := fl [xB ax ac af ah at_ ar ad, cB G ac v_13, fB G af w_14, hB G ah g_15, cB G ar vr, fB G ad vd]) X hw (m_X4_count (G := G) (l := l) (ax := ax) (ac := ac) (af := af) (ah := ah) (at_ := at_) (ar := ar) (ad := ad) c_19) (cut8 (bs' := [xB ax ac af ah at_ ar ad, cB G ac v_13, fB G af w_14, hB G ah g_15, cB G ar vr, fB G ad vd]) 6 [0, 1, 2] [3, 4, 5] [0, 1, 2, 3, 4, 5] [xB ax ac af ah at_ ar ad, cB G ac v_13, fB G af w_14] rfl (by decide +kernel) rfl rfl rfl (by decide +kernel) rfl) 0 0 rfl rfl rfl (cwV 1 hts gL_isLeast_X4_count rfl rfl rfl hd_X4_count ⟨Nat.le_of_ble_eq_true rfl, Nat.le_of_ble_eq_true rfl⟩) rfl hl.1 rfl (Nat.le_of_ble_eq_true rfl) dL_isLeast_104 ⟨Nat.le_of_ble_eq_true rfl, Nat.le_of_ble_eq_true rfl⟩ (fun H locs hw => ?_)
          refine lv_iconst (v := 1) hx hb dL_isLeast_107 (by decide) ?_
          refine lv_icmp_ne (tgt := 115) hx hb dL_isLeast_108 (by decide) (fun k_20 => ?_) (fun k_20 => ?_)
          · have h := br_no h k_20
            refine lv_iconst (v := 0) hx hb dL_isLeast_115 (by decide) ?_
            exact w_L_isLeast_b116 X ih v_13 w_14 g_15 vr vd x6 0 _ _ _ h hw (lv_sub hl [0, 1, 2, 3, 4, 5] rfl)
          · have h := br_yes h k_20
            refine lv_iconst (v := 1) hx hb dL_isLeast_111 (by decide) ?_
            refine lv_goto (tgt := 116) hx hb dL_isLeast_112 (by decide) ?_
            exact w_L_isLeast_b116 X ih v_13 w_14 g_15 vr vd x6 1 _ _ _ h hw (lv_sub hl [0, 1, 2, 3, 4, 5] rfl)
        · have h := br_no h k_17
          refine lv_iconst (v := 0) hx hb dL_isLeast_99 (by decide) ?_
          cases h
          exact x_iret X (narz (Or.inl rfl)) hw rfl rfl dL_isLeast_100
noncomputable def f_L_isLeast  (vc : CV) (vf : FV) (vh : HV) (vr : CV) (vd : FV) (x1 : Int32) : Option (Int32 × CV × FV × HV × CV × FV) :=
  bd (f_X4_digest vc vf) fun r_1 =>
  bd (f_X4_count vc vf 0) fun r_3 =>
  bd3 (f_X4_leastFeeder vc vr vd x1) fun r_5 v_6 w_7 =>
  br (r_3 = 12)
    (f_L_isLeast_b36 vc vf vh v_6 w_7 x1 r_1 r_5)
    (bd (f_X4_count vc vf 1) fun r_10 =>
     br (r_10 = 20)
       (f_L_isLeast_b36 vc vf vh v_6 w_7 x1 r_1 r_5)
       (f_L_isLeast_b57 x1 r_1 r_3 r_5 FU vc vf vh v_6 w_7 1))
set_option maxHeartbeats 4000000 in
set_option maxRecDepth 100000 in
theorem m_L_isLeast {G : GG} {l : Launch} {ax : Nat} {ac af ah at_ ar ad : Nat → Nat} {vc : CV} {vf : FV} {vh : HV} {vr : CV} {vd : FV} {x1 : Int32} {r : Int32} {zvc : CV} {zvf : FV} {zvh : HV} {zvr : CV} {zvd : FV} (h : f_L_isLeast vc vf vh vr vd x1 = some (r, zvc, zvf, zvh, zvr, zvd)) : Ci G l yL_isLeast wsL_isLeast rL_isLeast [.ref ax, .int x1] (fl [xB ax ac af ah at_ ar ad, cB G ac vc, fB G af vf, hB G ah vh, cB G ar vr, fB G ad vd]) r (fl [xB ax ac af ah at_ ar ad, cB G ac zvc, fB G af zvf, hB G ah zvh, cB G ar zvr, fB G ad zvd]) := by
  refine Ci.intro cL_isLeast 10 (some .boolean) RL (by decide) rfl rfl (Nat.le_of_ble_eq_true rfl) ?_
  intro p e s m below meth c A ls X hw hl
  obtain ⟨⟨hx, hb, hml, hown, hts⟩, hK, hr, hlk, hA⟩ := id X
  unfold f_L_isLeast at h
  have hl : lv_has ls 10 [(0, .ref ax), (1, .int x1)] := hl
  refine lv_aload_n hx hb dL_isLeast_0 rfl (lv_at hl 0 rfl) ?_
  obtain ⟨r_1, c_2, h⟩ := bd_ok h
  refine x_Vl (As := []) (w' := fl [xB ax ac af ah at_ ar ad, cB G ac vc, fB G af vf, hB G ah vh, cB G ar vr, fB G ad vd]) X hw (m_X4_digest (G := G) (l := l) (ax := ax) (ac := ac) (af := af) (ah := ah) (at_ := at_) (ar := ar) (ad := ad) c_2) (cut8 (bs' := [xB ax ac af ah at_ ar ad, cB G ac vc, fB G af vf, hB G ah vh, cB G ar vr, fB G ad vd]) 6 [0, 1, 2] [3, 4, 5] [0, 1, 2, 3, 4, 5] [xB ax ac af ah at_ ar ad, cB G ac vc, fB G af vf] rfl (by decide +kernel) rfl rfl rfl (by decide +kernel) rfl) 0 0 rfl rfl rfl (cwV 0 hts gL_isLeast_X4_digest rfl rfl rfl hd_X4_digest ⟨Nat.le_of_ble_eq_true rfl, Nat.le_of_ble_eq_true rfl⟩) rfl hl.1 rfl (Nat.le_of_ble_eq_true rfl) dL_isLeast_1 ⟨Nat.le_of_ble_eq_true rfl, Nat.le_of_ble_eq_true rfl⟩ (fun H locs hw => ?_)
  refine lv_lstore_n (lv' := [(2, .long r_1), (0, .ref ax), (1, .int x1)]) hx hb dL_isLeast_4 rfl hl (by decide) rfl (fun ls hl => ?_)
  refine lv_aload_n hx hb dL_isLeast_5 rfl (lv_at hl 1 rfl) ?_
  refine lv_iconst (v := 0) hx hb dL_isLeast_6 (by decide) ?_
  obtain ⟨r_3, c_4, h⟩ := bd_ok h
  refine x_Vi (As := [.int 0]) (w' := fl [xB ax ac af ah at_ ar ad, cB G ac vc, fB G af vf, hB G ah vh, cB G ar vr, fB G ad vd]) X hw (m_X4_count (G := G) (l := l) (ax := ax) (ac := ac) (af := af) (ah := ah) (at_ := at_) (ar := ar) (ad := ad) c_4) (cut8 (bs' := [xB ax ac af ah at_ ar ad, cB G ac vc, fB G af vf, hB G ah vh, cB G ar vr, fB G ad vd]) 6 [0, 1, 2] [3, 4, 5] [0, 1, 2, 3, 4, 5] [xB ax ac af ah at_ ar ad, cB G ac vc, fB G af vf] rfl (by decide +kernel) rfl rfl rfl (by decide +kernel) rfl) 0 0 rfl rfl rfl (cwV 1 hts gL_isLeast_X4_count rfl rfl rfl hd_X4_count ⟨Nat.le_of_ble_eq_true rfl, Nat.le_of_ble_eq_true rfl⟩) rfl hl.1 rfl (Nat.le_of_ble_eq_true rfl) dL_isLeast_7 ⟨Nat.le_of_ble_eq_true rfl, Nat.le_of_ble_eq_true rfl⟩ (fun H locs hw => ?_)
  refine lv_istore (lv' := [(4, .int r_3), (2, .long r_1), (0, .ref ax), (1, .int x1)]) hx hb dL_isLeast_10 hl (by decide) rfl (fun ls hl => ?_)
  refine lv_aload_n hx hb dL_isLeast_12 rfl (lv_at hl 2 rfl) ?_
  refine lv_iload_n hx hb dL_isLeast_13 rfl (lv_at hl 3 rfl) ?_
  obtain ⟨r_5, v_6, w_7, c_8, h⟩ := bd3_ok h
  refine x_Vi (As := [.int x1]) (w' := fl [xB ax ac af ah at_ ar ad, cB G ac vc, fB G af vf, hB G ah vh, cB G ar v_6, fB G ad w_7]) X hw (m_X4_leastFeeder (G := G) (l := l) (ax := ax) (ac := ac) (af := af) (ah := ah) (at_ := at_) (ar := ar) (ad := ad) c_8) (cut8 (bs' := [xB ax ac af ah at_ ar ad, cB G ac vc, fB G af vf, hB G ah vh, cB G ar v_6, fB G ad w_7]) 6 [0, 1, 4, 5] [2, 3] [0, 1, 4, 5, 2, 3] [xB ax ac af ah at_ ar ad, cB G ac vc, cB G ar v_6, fB G ad w_7] rfl (by decide +kernel) rfl rfl rfl (by decide +kernel) rfl) 0 0 rfl rfl rfl (cwV 1 hts gL_isLeast_X4_leastFeeder rfl rfl rfl hd_X4_leastFeeder ⟨Nat.le_of_ble_eq_true rfl, Nat.le_of_ble_eq_true rfl⟩) rfl hl.1 rfl (Nat.le_of_ble_eq_true rfl) dL_isLeast_14 ⟨Nat.le_of_ble_eq_true rfl, Nat.le_of_ble_eq_true rfl⟩ (fun H locs hw => ?_)
  refine lv_istore (lv' := [(5, .int r_5), (4, .int r_3), (2, .long r_1), (0, .ref ax), (1, .int x1)]) hx hb dL_isLeast_17 hl (by decide) rfl (fun ls hl => ?_)
  refine lv_iload hx hb dL_isLeast_19 (lv_at hl 1 rfl) ?_
  refine lv_bipush (v := 12) hx hb dL_isLeast_21 (by decide) ?_
  refine lv_icmp_eq (tgt := 36) hx hb dL_isLeast_23 (by decide) (fun k_9 => ?_) (fun k_9 => ?_)
  · have h := br_yes h k_9
    exact w_L_isLeast_b36 X vc vf vh v_6 w_7 x1 r_1 r_5 _ _ _ h hw (lv_sub hl [3, 4, 2, 0] rfl)
  · have h := br_no h k_9
    refine lv_aload_n hx hb dL_isLeast_26 rfl (lv_at hl 3 rfl) ?_
    refine lv_iconst (v := 1) hx hb dL_isLeast_27 (by decide) ?_
    obtain ⟨r_10, c_11, h⟩ := bd_ok h
    refine x_Vi (As := [.int 1]) (w' := fl [xB ax ac af ah at_ ar ad, cB G ac vc, fB G af vf, hB G ah vh, cB G ar v_6, fB G ad w_7]) X hw (m_X4_count (G := G) (l := l) (ax := ax) (ac := ac) (af := af) (ah := ah) (at_ := at_) (ar := ar) (ad := ad) c_11) (cut8 (bs' := [xB ax ac af ah at_ ar ad, cB G ac vc, fB G af vf, hB G ah vh, cB G ar v_6, fB G ad w_7]) 6 [0, 1, 2] [3, 4, 5] [0, 1, 2, 3, 4, 5] [xB ax ac af ah at_ ar ad, cB G ac vc, fB G af vf] rfl (by decide +kernel) rfl rfl rfl (by decide +kernel) rfl) 0 0 rfl rfl rfl (cwV 1 hts gL_isLeast_X4_count rfl rfl rfl hd_X4_count ⟨Nat.le_of_ble_eq_true rfl, Nat.le_of_ble_eq_true rfl⟩) rfl hl.1 rfl (Nat.le_of_ble_eq_true rfl) dL_isLeast_28 ⟨Nat.le_of_ble_eq_true rfl, Nat.le_of_ble_eq_true rfl⟩ (fun H locs hw => ?_)
    refine lv_bipush (v := 20) hx hb dL_isLeast_31 (by decide) ?_
    refine lv_icmp_ne (tgt := 54) hx hb dL_isLeast_33 (by decide) (fun k_12 => ?_) (fun k_12 => ?_)
    · have h := br_no h k_12
      refine lv_iconst (v := 1) hx hb dL_isLeast_54 (by decide) ?_
      refine lv_istore (lv' := [(6, .int 1), (5, .int r_5), (4, .int r_3), (2, .long r_1), (0, .ref ax), (1, .int x1)]) hx hb dL_isLeast_55 hl (by decide) rfl (fun ls hl => ?_)
      exact w_L_isLeast_b57 X FU vc vf vh v_6 w_7 1 _ _ _ h hw (lv_sub hl [4, 5, 3, 2, 1, 0] rfl)
    · have h := br_yes h k_12
      exact w_L_isLeast_b36 X vc vf vh v_6 w_7 x1 r_1 r_5 _ _ _ h hw (lv_sub hl [3, 4, 2, 0] rfl)
