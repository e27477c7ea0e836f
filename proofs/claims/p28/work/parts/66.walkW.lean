noncomputable def f_L_law_b384 (L : Nat) (xs : Nat → Int32) (vc : CV) (vf : FV) (vh : HV) (vt : TV) (vr : CV) (vd : FV) (x4 : Int64) (y0 : Int32) (y1 : Int32) : Option (Int32 × CV × FV × HV × TV × CV × FV) :=
  br (y1 = y0)
    (bd4 (f_X4_join vc vf vh 12 0) fun r_2 v_3 w_4 g_5 =>
     br (r_2 = (-2))
       (bd4 (f_X4_part v_3 w_4 g_5 20) fun r_8 v_9 w_10 g_11 =>
        br (r_8 = (-2))
          (bd4 (f_X4_setMetal v_9 w_10 g_11 201 0) fun r_14 v_15 w_16 g_17 =>
           br (r_14 = (-3))
             (bd (f_X4_count v_15 w_16 10) fun r_20 =>
              br (r_20 = (-3))
                (bd (f_X4_count v_15 w_16 0) fun r_23 =>
                 bd (f_X4_section v_15 w_16 r_23 0) fun r_25 =>
                 br (r_25 = (-2))
                   (bd (f_X4_count v_15 w_16 1) fun r_28 =>
                    bd (f_X4_joint v_15 r_28 0) fun r_30 =>
                    br (r_30 = (-2))
                      (bd (f_X4_atStep v_15 w_16 (-1)) fun r_33 =>
                       br (r_33 = (-3))
                         (bd (f_X4_end v_15 w_16 (-1)) fun r_36 =>
                          br (r_36 = (-2))
                            (bd (f_X4_digest v_15 w_16) fun r_39 =>
                             br ((lg_cmp r_39 x4) = 0)
                               (some (1, v_15, w_16, g_17, vt, vr, vd))
                               (some (0, v_15, w_16, g_17, vt, vr, vd)))
                            (some (0, v_15, w_16, g_17, vt, vr, vd)))
                         (some (0, v_15, w_16, g_17, vt, vr, vd)))
                      (some (0, v_15, w_16, g_17, vt, vr, vd)))
                   (some (0, v_15, w_16, g_17, vt, vr, vd)))
                (some (0, v_15, w_16, g_17, vt, vr, vd)))
             (some (0, v_15, w_16, g_17, vt, vr, vd)))
          (some (0, v_9, w_10, g_11, vt, vr, vd)))
       (some (0, v_3, w_4, g_5, vt, vr, vd)))
    (some (0, vc, vf, vh, vt, vr, vd))
set_option maxHeartbeats 4000000 in
set_option maxRecDepth 100000 in
theorem w_L_law_b384 {G : GG} {l : Launch} {p : Program} {e : Env} {s : State} {m : MethodId} {b L : Nat} {xs : Nat → Int32} {Q : State → Prop} {below : List Frame} {meth : Method} {c : Code} {A : Nat → Prop} {ax : Nat} {ac af ah at_ ar ad : Nat → Nat}  {zvc : CV} {zvf : FV} {zvh : HV} {zvt : TV} {zvr : CV} {zvd : FV}   (X : Cx p s m #[Value.ref b] meth c cL_law 9 ret wsL_law RL G A) (hX : va_X b L xs s s.heap) (hbl : b < s.heap.size) (hbA : ¬ A b) (hL : L < 2 ^ 31) (KE : ∀ (H : Heap) (locs : List Loc) (ls : Array Slot), Wd G A s H locs (fl [xB ax ac af ah at_ ar ad, cB G ac zvc, fB G af zvf, hB G ah zvh, tB G at_ zvt, cB G ar zvr, fB G ad zvd]) → W p l e room_1 s m #[Value.ref b] below meth c H locs 600000 7302250 Q (F0 m 499 ls [.int 1]))  :
    ∀ (vc : CV) (vf : FV) (vh : HV) (vt : TV) (vr : CV) (vd : FV) (x4 : Int64) (y0 : Int32) (y1 : Int32) (H : Heap) (locs : List Loc) (ls : Array Slot), f_L_law_b384 L xs vc vf vh vt vr vd x4 y0 y1 = some (1, zvc, zvf, zvh, zvt, zvr, zvd) → Wd G A s H locs (fl [xB ax ac af ah at_ ar ad, cB G ac vc, fB G af vf, hB G ah vh, tB G at_ vt, cB G ar vr, fB G ad vd]) → lv_has ls 9 [(1, .ref ax), (4, .long x4)] → W p l e room_1 s m #[Value.ref b] below meth c H locs 600000 7302250 Q (F0 m 384 ls [.int y0, .int y1]) := by
  obtain ⟨⟨hx, hb, hml, hown, hts⟩, hK, hr, hlk, hA⟩ := id X
  intro vc vf vh vt vr vd x4 y0 y1 H locs ls h hw hl
  unfold f_L_law_b384 at h
  refine lv_icmp_ne (tgt := 498) hx hb dL_law_384 (by decide) (fun k_1 => ?_) (fun k_1 => ?_)
  · have h := br_no h k_1
    refine lv_iconst (v := 0) hx hb dL_law_498 (by decide) ?_
    exact absurd (show (0 : Int32) = 1 from congrArg (fun q => q.1) (Option.some.inj h)) (by decide)
  · have h := br_yes h k_1
    refine lv_aload_n hx hb dL_law_387 rfl (lv_at hl 0 rfl) ?_
    refine lv_bipush (v := 12) hx hb dL_law_388 (by decide) ?_
    refine lv_iconst (v := 0) hx hb dL_law_390 (by decide) ?_
    obtain ⟨r_2, v_3, w_4, g_5, c_6, h⟩ := bd4_ok h
    refine x_Vi (As := [.int 12, .int 0]) (w' := fl [xB ax ac af ah at_ ar ad, cB G ac v_3, fB G af w_4, hB G ah g_5, tB G at_ vt, cB G ar vr, fB G ad vd]) X hw (m_X4_join (G := G) (l := l) (ax := ax) (ac := ac) (af := af) (ah := ah) (at_ := at_) (ar := ar) (ad := ad) c_6) (cut8 (bs' := [xB ax ac af ah at_ ar ad, cB G ac v_3, fB G af w_4, hB G ah g_5, tB G at_ vt, cB G ar vr, fB G ad vd]) 7 [0, 1, 2, 3] [4, 5, 6] [0, 1, 2, 3, 4, 5, 6] [xB ax ac af ah at_ ar ad, cB G ac v_3, fB G af w_4, hB G ah g_5] rfl (by decide +kernel) rfl rfl rfl (by decide +kernel) rfl) 0 0 rfl rfl rfl (cwV 2 hts gL_law_X4_join rfl rfl rfl hd_X4_join ⟨Nat.le_of_ble_eq_true rfl, Nat.le_of_ble_eq_true rfl⟩) rfl hl.1 rfl (Nat.le_of_ble_eq_true rfl) dL_law_391 ⟨Nat.le_of_ble_eq_true rfl, Nat.le_of_ble_eq_true rfl⟩ (fun H locs hw => ?_)
    refine lv_bipush (v := (-2)) hx hb dL_law_394 (by decide) ?_
    refine lv_icmp_ne (tgt := 498) hx hb dL_law_396 (by decide) (fun k_7 => ?_) (fun k_7 => ?_)
    · have h := br_no h k_7
      refine lv_iconst (v := 0) hx hb dL_law_498 (by decide) ?_
      exact absurd (show (0 : Int32) = 1 from congrArg (fun q => q.1) (Option.some.inj h)) (by decide)
    · have h := br_yes h k_7
      refine lv_aload_n hx hb dL_law_399 rfl (lv_at hl 0 rfl) ?_
      refine lv_bipush (v := 20) hx hb dL_law_400 (by decide) ?_
      obtain ⟨r_8, v_9, w_10, g_11, c_12, h⟩ := bd4_ok h
      refine x_Vi (As := [.int 20]) (w' := fl [xB ax ac af ah at_ ar ad, cB G ac v_9, fB G af w_10, hB G ah g_11, tB G at_ vt, cB G ar vr, fB G ad vd]) X hw (m_X4_part (G := G) (l := l) (ax := ax) (ac := ac) (af := af) (ah := ah) (at_ := at_) (ar := ar) (ad := ad) c_12) (cut8 (bs' := [xB ax ac af ah at_ ar ad, cB G ac v_9, fB G af w_10, hB G ah g_11, tB G at_ vt, cB G ar vr, fB G ad vd]) 7 [0, 1, 2, 3] [4, 5, 6] [0, 1, 2, 3, 4, 5, 6] [xB ax ac af ah at_ ar ad, cB G ac v_9, fB G af w_10, hB G ah g_11] rfl (by decide +kernel) rfl rfl rfl (by decide +kernel) rfl) 0 0 rfl rfl rfl (cwV 1 hts gL_law_X4_part rfl rfl rfl hd_X4_part ⟨Nat.le_of_ble_eq_true rfl, Nat.le_of_ble_eq_true rfl⟩) rfl hl.1 rfl (Nat.le_of_ble_eq_true rfl) dL_law_402 ⟨Nat.le_of_ble_eq_true rfl, Nat.le_of_ble_eq_true rfl⟩ (fun H locs hw => ?_)
      refine lv_bipush (v := (-2)) hx hb dL_law_405 (by decide) ?_
      refine lv_icmp_ne (tgt := 498) hx hb dL_law_407 (by decide) (fun k_13 => ?_) (fun k_13 => ?_)
      · have h := br_no h k_13
        refine lv_iconst (v := 0) hx hb dL_law_498 (by decide) ?_
        exact absurd (show (0 : Int32) = 1 from congrArg (fun q => q.1) (Option.some.inj h)) (by decide)
      · have h := br_yes h k_13
        refine lv_aload_n hx hb dL_law_410 rfl (lv_at hl 0 rfl) ?_
        refine lv_sipush (v := 201) hx hb dL_law_411 (by decide) ?_
        refine lv_iconst (v := 0) hx hb dL_law_414 (by decide) ?_
        obtain ⟨r_14, v_15, w_16, g_17, c_18, h⟩ := bd4_ok h
        refine x_Vi (As := [.int 201, .int 0]) (w' := fl [xB ax ac af ah at_ ar ad, cB G ac v_15, fB G af w_16, hB G ah g_17, tB G at_ vt, cB G ar vr, fB G ad vd]) X hw (m_X4_setMetal (G := G) (l := l) (ax := ax) (ac := ac) (af := af) (ah := ah) (at_ := at_) (ar := ar) (ad := ad) c_18) (cut8 (bs' := [xB ax ac af ah at_ ar ad, cB G ac v_15, fB G af w_16, hB G ah g_17, tB G at_ vt, cB G ar vr, fB G ad vd]) 7 [0, 1, 2, 3] [4, 5, 6] [0, 1, 2, 3, 4, 5, 6] [xB ax ac af ah at_ ar ad, cB G ac v_15, fB G af w_16, hB G ah g_17] rfl (by decide +kernel) rfl rfl rfl (by decide +kernel) rfl) 0 0 rfl rfl rfl (cwV 2 hts gL_law_X4_setMetal rfl rfl rfl hd_X4_setMetal ⟨Nat.le_of_ble_eq_true rfl, Nat.le_of_ble_eq_true rfl⟩) rfl hl.1 rfl (Nat.le_of_ble_eq_true rfl) dL_law_415 ⟨Nat.le_of_ble_eq_true rfl, Nat.le_of_ble_eq_true rfl⟩ (fun H locs hw => ?_)
        refine lv_bipush (v := (-3)) hx hb dL_law_418 (by decide) ?_
        refine lv_icmp_ne (tgt := 498) hx hb dL_law_420 (by decide) (fun k_19 => ?_) (fun k_19 => ?_)
        · have h := br_no h k_19
          refine lv_iconst (v := 0) hx hb dL_law_498 (by decide) ?_
          exact absurd (show (0 : Int32) = 1 from congrArg (fun q => q.1) (Option.some.inj h)) (by decide)
        · have h := br_yes h k_19
          refine lv_aload_n hx hb dL_law_423 rfl (lv_at hl 0 rfl) ?_
          refine lv_bipush (v := 10) hx hb dL_law_424 (by decide) ?_
          obtain ⟨r_20, c_21, h⟩ := bd_ok h
          refine x_Vi (As := [.int 10]) (w' := fl [xB ax ac af ah at_ ar ad, cB G ac v_15, fB G af w_16, hB G ah g_17, tB G at_ vt, cB G ar vr, fB G ad vd]) X hw (m_X4_count (G := G) (l := l) (ax := ax) (ac := ac) (af := af) (ah := ah) (at_ := at_) (ar := ar) (ad := ad) c_21) (cut8 (bs' := [xB ax ac af ah at_ ar ad, cB G ac v_15, fB G af w_16, hB G ah g_17, tB G at_ vt, cB G ar vr, fB G ad vd]) 7 [0, 1, 2] [3, 4, 5, 6] [0, 1, 2, 3, 4, 5, 6] [xB ax ac af ah at_ ar ad, cB G ac v_15, fB G af w_16] rfl (by decide +kernel) rfl rfl rfl (by decide +kernel) rfl) 0 0 rfl rfl rfl (cwV 1 hts gL_law_X4_count rfl rfl rfl hd_X4_count ⟨Nat.le_of_ble_eq_true rfl, Nat.le_of_ble_eq_true rfl⟩) rfl hl.1 rfl (Nat.le_of_ble_eq_true rfl) dL_law_426 ⟨Nat.le_of_ble_eq_true rfl, Nat.le_of_ble_eq_true rfl⟩ (fun H locs hw => ?_)
          refine lv_bipush (v := (-3)) hx hb dL_law_429 (by decide) ?_
          refine lv_icmp_ne (tgt := 498) hx hb dL_law_431 (by decide) (fun k_22 => ?_) (fun k_22 => ?_)
          · have h := br_no h k_22
            refine lv_iconst (v := 0) hx hb dL_law_498 (by decide) ?_
            exact absurd (show (0 : Int32) = 1 from congrArg (fun q => q.1) (Option.some.inj h)) (by decide)
          · have h := br_yes h k_22
            refine lv_aload_n hx hb dL_law_434 rfl (lv_at hl 0 rfl) ?_
            refine lv_aload_n hx hb dL_law_435 rfl (lv_at hl 0 rfl) ?_
            refine lv_iconst (v := 0) hx hb dL_law_436 (by decide) ?_
            obtain ⟨r_23, c_24, h⟩ := bd_ok h
            refine x_Vi (As := [.int 0]) (w' := fl [xB ax ac af ah at_ ar ad, cB G ac v_15, fB G af w_16, hB G ah g_17, tB G at_ vt, cB G ar vr, fB G ad vd]) X hw (m_X4_count (G := G) (l := l) (ax := ax) (ac := ac) (af := af) (ah := ah) (at_ := at_) (ar := ar) (ad := ad) c_24) (cut8 (bs' := [xB ax ac af ah at_ ar ad, cB G ac v_15, fB G af w_16, hB G ah g_17, tB G at_ vt, cB G ar vr, fB G ad vd]) 7 [0, 1, 2] [3, 4, 5, 6] [0, 1, 2, 3, 4, 5, 6] [xB ax ac af ah at_ ar ad, cB G ac v_15, fB G af w_16] rfl (by decide +kernel) rfl rfl rfl (by decide +kernel) rfl) 0 0 rfl rfl rfl (cwV 1 hts gL_law_X4_count rfl rfl rfl hd_X4_count ⟨Nat.le_of_ble_eq_true rfl, Nat.le_of_ble_eq_true rfl⟩) rfl hl.1 rfl (Nat.le_of_ble_eq_true rfl) dL_law_437 ⟨Nat.le_of_ble_eq_true rfl, Nat.le_of_ble_eq_true rfl⟩ (fun H locs hw => ?_)
            refine lv_iconst (v := 0) hx hb dL_law_440 (by decide) ?_
            obtain ⟨r_25, c_26, h⟩ := bd_ok h
            refine x_Vi (As := [.int r_23, .int 0]) (w' := fl [xB ax ac af ah at_ ar ad, cB G ac v_15, fB G af w_16, hB G ah g_17, tB G at_ vt, cB G ar vr, fB G ad vd]) X hw (m_X4_section (G := G) (l := l) (ax := ax) (ac := ac) (af := af) (ah := ah) (at_ := at_) (ar := ar) (ad := ad) c_26) (cut8 (bs' := [xB ax ac af ah at_ ar ad, cB G ac v_15, fB G af w_16, hB G ah g_17, tB G at_ vt, cB G ar vr, fB G ad vd]) 7 [0, 1, 2] [3, 4, 5, 6] [0, 1, 2, 3, 4, 5, 6] [xB ax ac af ah at_ ar ad, cB G ac v_15, fB G af w_16] rfl (by decide +kernel) rfl rfl rfl (by decide +kernel) rfl) 0 0 rfl rfl rfl (cwV 2 hts gL_law_X4_section rfl rfl rfl hd_X4_section ⟨Nat.le_of_ble_eq_true rfl, Nat.le_of_ble_eq_true rfl⟩) rfl hl.1 rfl (Nat.le_of_ble_eq_true rfl) dL_law_441 ⟨Nat.le_of_ble_eq_true rfl, Nat.le_of_ble_eq_true rfl⟩ (fun H locs hw => ?_)
            refine lv_bipush (v := (-2)) hx hb dL_law_444 (by decide) ?_
            refine lv_icmp_ne (tgt := 498) hx hb dL_law_446 (by decide) (fun k_27 => ?_) (fun k_27 => ?_)
            · have h := br_no h k_27
              refine lv_iconst (v := 0) hx hb dL_law_498 (by decide) ?_
              exact absurd (show (0 : Int32) = 1 from congrArg (fun q => q.1) (Option.some.inj h)) (by decide)
            · have h := br_yes h k_27
              refine lv_aload_n hx hb dL_law_449 rfl (lv_at hl 0 rfl) ?_
              refine lv_aload_n hx hb dL_law_450 rfl (lv_at hl 0 rfl) ?_
              refine lv_iconst (v := 1) hx hb dL_law_451 (by decide) ?_
              obtain ⟨r_28, c_29, h⟩ := bd_ok h
              refine x_Vi (As := [.int 1]) (w' := fl [xB ax ac af ah at_ ar ad, cB G ac v_15, fB G af w_16, hB G ah g_17, tB G at_ vt, cB G ar vr, fB G ad vd]) X hw (m_X4_count (G := G) (l := l) (ax := ax) (ac := ac) (af := af) (ah := ah) (at_ := at_) (ar := ar) (ad := ad) c_29) (cut8 (bs' := [xB ax ac af ah at_ ar ad, cB G ac v_15, fB G af w_16, hB G ah g_17, tB G at_ vt, cB G ar vr, fB G ad vd]) 7 [0, 1, 2] [3, 4, 5, 6] [0, 1, 2, 3, 4, 5, 6] [xB ax ac af ah at_ ar ad, cB G ac v_15, fB G af w_16] rfl (by decide +kernel) rfl rfl rfl (by decide +kernel) rfl) 0 0 rfl rfl rfl (cwV 1 hts gL_law_X4_count rfl rfl rfl hd_X4_count ⟨Nat.le_of_ble_eq_true rfl, Nat.le_of_ble_eq_true rfl⟩) rfl hl.1 rfl (Nat.le_of_ble_eq_true rfl) dL_law_452 ⟨Nat.le_of_ble_eq_true rfl, Nat.le_of_ble_eq_true rfl⟩ (fun H locs hw => ?_)
              refine lv_iconst (v := 0) hx hb dL_law_455 (by decide) ?_
              obtain ⟨r_30, c_31, h⟩ := bd_ok h
              refine x_Vi (As := [.int r_28, .int 0]) (w' := fl [xB ax ac af ah at_ ar ad, cB G ac v_15, fB G af w_16, hB G ah g_17, tB G at_ vt, cB G ar vr, fB G ad vd]) X hw (m_X4_joint (G := G) (l := l) (ax := ax) (ac := ac) (af := af) (ah := ah) (at_ := at_) (ar := ar) (ad := ad) c_31) (cut8 (bs' := [xB ax ac af ah at_ ar ad, cB G ac v_15, fB G af w_16, hB G ah g_17, tB G at_ vt, cB G ar vr, fB G ad vd]) 7 [0, 1] [2, 3, 4, 5, 6] [0, 1, 2, 3, 4, 5, 6] [xB ax ac af ah at_ ar ad, cB G ac v_15] rfl (by decide +kernel) rfl rfl rfl (by decide +kernel) rfl) 0 0 rfl rfl rfl (cwV 2 hts gL_law_X4_joint rfl rfl rfl hd_X4_joint ⟨Nat.le_of_ble_eq_true rfl, Nat.le_of_ble_eq_true rfl⟩) rfl hl.1 rfl (Nat.le_of_ble_eq_true rfl) dL_law_456 ⟨Nat.le_of_ble_eq_true rfl, Nat.le_of_ble_eq_true rfl⟩ (fun H locs hw => ?_)
              refine lv_bipush (v := (-2)) hx hb dL_law_459 (by decide) ?_
              refine lv_icmp_ne (tgt := 498) hx hb dL_law_461 (by decide) (fun k_32 => ?_) (fun k_32 => ?_)
              · have h := br_no h k_32
                refine lv_iconst (v := 0) hx hb dL_law_498 (by decide) ?_
                exact absurd (show (0 : Int32) = 1 from congrArg (fun q => q.1) (Option.some.inj h)) (by decide)
              · have h := br_yes h k_32
                refine lv_aload_n hx hb dL_law_464 rfl (lv_at hl 0 rfl) ?_
                refine lv_iconst (v := (-1)) hx hb dL_law_465 (by decide) ?_
                obtain ⟨r_33, c_34, h⟩ := bd_ok h
                refine x_Vi (As := [.int (-1)]) (w' := fl [xB ax ac af ah at_ ar ad, cB G ac v_15, fB G af w_16, hB G ah g_17, tB G at_ vt, cB G ar vr, fB G ad vd]) X hw (m_X4_atStep (G := G) (l := l) (ax := ax) (ac := ac) (af := af) (ah := ah) (at_ := at_) (ar := ar) (ad := ad) c_34) (cut8 (bs' := [xB ax ac af ah at_ ar ad, cB G ac v_15, fB G af w_16, hB G ah g_17, tB G at_ vt, cB G ar vr, fB G ad vd]) 7 [0, 1, 2] [3, 4, 5, 6] [0, 1, 2, 3, 4, 5, 6] [xB ax ac af ah at_ ar ad, cB G ac v_15, fB G af w_16] rfl (by decide +kernel) rfl rfl rfl (by decide +kernel) rfl) 0 0 rfl rfl rfl (cwV 1 hts gL_law_X4_atStep rfl rfl rfl hd_X4_atStep ⟨Nat.le_of_ble_eq_true rfl, Nat.le_of_ble_eq_true rfl⟩) rfl hl.1 rfl (Nat.le_of_ble_eq_true rfl) dL_law_466 ⟨Nat.le_of_ble_eq_true rfl, Nat.le_of_ble_eq_true rfl⟩ (fun H locs hw => ?_)
                refine lv_bipush (v := (-3)) hx hb dL_law_469 (by decide) ?_
                refine lv_icmp_ne (tgt := 498) hx hb dL_law_471 (by decide) (fun k_35 => ?_) (fun k_35 => ?_)
                · have h := br_no h k_35
                  refine lv_iconst (v := 0) hx hb dL_law_498 (by decide) ?_
                  exact absurd (show (0 : Int32) = 1 from congrArg (fun q => q.1) (Option.some.inj h)) (by decide)
                · have h := br_yes h k_35
                  refine lv_aload_n hx hb dL_law_474 rfl (lv_at hl 0 rfl) ?_
                  refine lv_iconst (v := (-1)) hx hb dL_law_475 (by decide) ?_
                  obtain ⟨r_36, c_37, h⟩ := bd_ok h
                  refine x_Vi (As := [.int (-1)]) (w' := fl [xB ax ac af ah at_ ar ad, cB G ac v_15, fB G af w_16, hB G ah g_17, tB G at_ vt, cB G ar vr, fB G ad vd]) X hw (m_X4_end (G := G) (l := l) (ax := ax) (ac := ac) (af := af) (ah := ah) (at_ := at_) (ar := ar) (ad := ad) c_37) (cut8 (bs' := [xB ax ac af ah at_ ar ad, cB G ac v_15, fB G af w_16, hB G ah g_17, tB G at_ vt, cB G ar vr, fB G ad vd]) 7 [0, 1, 2] [3, 4, 5, 6] [0, 1, 2, 3, 4, 5, 6] [xB ax ac af ah at_ ar ad, cB G ac v_15, fB G af w_16] rfl (by decide +kernel) rfl rfl rfl (by decide +kernel) rfl) 0 0 rfl rfl rfl (cwV 1 hts gL_law_X4_end rfl rfl rfl hd_X4_end ⟨Nat.le_of_ble_eq_true rfl, Nat.le_of_ble_eq_true rfl⟩) rfl hl.1 rfl (Nat.le_of_ble_eq_true rfl) dL_law_476 ⟨Nat.le_of_ble_eq_true rfl, Nat.le_of_ble_eq_true rfl⟩ (fun H locs hw => ?_)
                  refine lv_bipush (v := (-2)) hx hb dL_law_479 (by decide) ?_
                  refine lv_icmp_ne (tgt := 498) hx hb dL_law_481 (by decide) (fun k_38 => ?_) (fun k_38 => ?_)
                  · have h := br_no h k_38
                    refine lv_iconst (v := 0) hx hb dL_law_498 (by decide) ?_
                    exact absurd (show (0 : Int32) = 1 from congrArg (fun q => q.1) (Option.some.inj h)) (by decide)
                  · have h := br_yes h k_38
                    refine lv_aload_n hx hb dL_law_484 rfl (lv_at hl 0 rfl) ?_
                    obtain ⟨r_39, c_40, h⟩ := bd_ok h
                    refine x_Vl (As := []) (w' := fl [xB ax ac af ah at_ ar ad, cB G ac v_15, fB G af w_16, hB G ah g_17, tB G at_ vt, cB G ar vr, fB G ad vd]) X hw (m_X4_digest (G := G) (l := l) (ax := ax) (ac := ac) (af := af) (ah := ah) (at_ := at_) (ar := ar) (ad := ad) c_40) (cut8 (bs' := [xB ax ac af ah at_ ar ad, cB G ac v_15, fB G af w_16, hB G ah g_17, tB G at_ vt, cB G ar vr, fB G ad vd]) 7 [0, 1, 2] [3, 4, 5, 6] [0, 1, 2, 3, 4, 5, 6] [xB ax ac af ah at_ ar ad, cB G ac v_15, fB G af w_16] rfl (by decide +kernel) rfl rfl rfl (by decide +kernel) rfl) 0 0 rfl rfl rfl (cwV 0 hts gL_law_X4_digest rfl rfl rfl hd_X4_digest ⟨Nat.le_of_ble_eq_true rfl, Nat.le_of_ble_eq_true rfl⟩) rfl hl.1 rfl (Nat.le_of_ble_eq_true rfl) dL_law_485 ⟨Nat.le_of_ble_eq_true rfl, Nat.le_of_ble_eq_true rfl⟩ (fun H locs hw => ?_)
                    refine lv_lload hx hb dL_law_488 (lv_at hl 1 rfl) ?_
                    refine W.lcmp hx hb dL_law_490 ?_
                    refine lv_if_ne (tgt := 498) hx hb dL_law_491 (by decide) (fun k_41 => ?_) (fun k_41 => ?_)
                    · have h := br_no h k_41
                      refine lv_iconst (v := 0) hx hb dL_law_498 (by decide) ?_
                      exact absurd (show (0 : Int32) = 1 from congrArg (fun q => q.1) (Option.some.inj h)) (by decide)
                    · have h := br_yes h k_41
                      refine lv_iconst (v := 1) hx hb dL_law_494 (by decide) ?_
                      refine lv_goto (tgt := 499) hx hb dL_law_495 (by decide) ?_
                      cases h
                      exact KE _ _ _ hw
noncomputable def f_L_law_b279 (L : Nat) (xs : Nat → Int32) (k196 : CV → FV → HV → TV → CV → FV → Int32 → Option (Int32 × CV × FV × HV × TV × CV × FV)) (vc : CV) (vf : FV) (vh : HV) (vt : TV) (vr : CV) (vd : FV) (x4 : Int32) (x5 : Int32) : Option (Int32 × CV × FV × HV × TV × CV × FV) :=
  bd (f_L_isSound vc vf) fun r_1 =>
  br (r_1 = 0)
    (some (0, vc, vf, vh, vt, vr, vd))
    (ck (¬ (6 : Int32) = 0) <|
     br ((x4 - x4 / 6 * 6) = 5)
       (bd (f_X4_count vc vf 0) fun r_7 =>
        br (r_7 ≤ 0)
          (nm (x4 + 1 : Int32) fun t_10 =>
           k196 vc vf vh vt vr vd t_10)
          (bd (f_X4_count vc vf 0) fun r_11 =>
           bd (f_L_low (x5 >>> (5 &&& 31)) r_11) fun r_13 =>
           bd6 (f_L_isLeast vc vf vh vr vd r_13) fun r_15 v_16 w_17 g_18 v_19 w_20 =>
           br (r_15 = 0)
             (some (0, v_16, w_17, g_18, vt, v_19, w_20))
             (nm (x4 + 1 : Int32) fun t_23 =>
              k196 v_16 w_17 g_18 vt v_19 w_20 t_23)))
       (nm (x4 + 1 : Int32) fun t_6 =>
        k196 vc vf vh vt vr vd t_6))
set_option maxHeartbeats 4000000 in
set_option maxRecDepth 100000 in
theorem w_L_law_b279 {G : GG} {l : Launch} {p : Program} {e : Env} {s : State} {m : MethodId} {b L : Nat} {xs : Nat → Int32} {Q : State → Prop} {below : List Frame} {meth : Method} {c : Code} {A : Nat → Prop} {ax : Nat} {ac af ah at_ ar ad : Nat → Nat}  {zvc : CV} {zvf : FV} {zvh : HV} {zvt : TV} {zvr : CV} {zvd : FV}  {k196 : CV → FV → HV → TV → CV → FV → Int32 → Option (Int32 × CV × FV × HV × TV × CV × FV)} (X : Cx p s m #[Value.ref b] meth c cL_law 9 ret wsL_law RL G A) (hX : va_X b L xs s s.heap) (hbl : b < s.heap.size) (hbA : ¬ A b) (hL : L < 2 ^ 31) (KE : ∀ (H : Heap) (locs : List Loc) (ls : Array Slot), Wd G A s H locs (fl [xB ax ac af ah at_ ar ad, cB G ac zvc, fB G af zvf, hB G ah zvh, tB G at_ zvt, cB G ar zvr, fB G ad zvd]) → W p l e room_1 s m #[Value.ref b] below meth c H locs 600000 7302250 Q (F0 m 499 ls [.int 1])) (hk196 : ∀ (vc : CV) (vf : FV) (vh : HV) (vt : TV) (vr : CV) (vd : FV) (x4 : Int32) (H : Heap) (locs : List Loc) (ls : Array Slot), k196 vc vf vh vt vr vd x4 = some (1, zvc, zvf, zvh, zvt, zvr, zvd) → Wd G A s H locs (fl [xB ax ac af ah at_ ar ad, cB G ac vc, fB G af vf, hB G ah vh, tB G at_ vt, cB G ar vr, fB G ad vd]) → lv_has ls 9 [(0, .ref b), (1, .ref ax), (4, .int x4)] → W p l e room_1 s m #[Value.ref b] below meth c H locs 600000 7302250 Q (F0 m 196 ls [])) :
    ∀ (vc : CV) (vf : FV) (vh : HV) (vt : TV) (vr : CV) (vd : FV) (x4 : Int32) (x5 : Int32) (H : Heap) (locs : List Loc) (ls : Array Slot), f_L_law_b279 L xs k196 vc vf vh vt vr vd x4 x5 = some (1, zvc, zvf, zvh, zvt, zvr, zvd) → Wd G A s H locs (fl [xB ax ac af ah at_ ar ad, cB G ac vc, fB G af vf, hB G ah vh, tB G at_ vt, cB G ar vr, fB G ad vd]) → lv_has ls 9 [(0, .ref b), (1, .ref ax), (4, .int x4), (5, .int x5)] → W p l e room_1 s m #[Value.ref b] below meth c H locs 600000 7302250 Q (F0 m 279 ls []) := by
  obtain ⟨⟨hx, hb, hml, hown, hts⟩, hK, hr, hlk, hA⟩ := id X
  intro vc vf vh vt vr vd x4 x5 H locs ls h hw hl
  unfold f_L_law_b279 at h
  refine lv_aload_n hx hb dL_law_279 rfl (lv_at hl 1 rfl) ?_
  obtain ⟨r_1, c_2, h⟩ := bd_ok h
  refine x_Si (As := [.ref ax]) (w' := fl [xB ax ac af ah at_ ar ad, cB G ac vc, fB G af vf, hB G ah vh, tB G at_ vt, cB G ar vr, fB G ad vd]) X hw (m_L_isSound (G := G) (l := l) (ax := ax) (ac := ac) (af := af) (ah := ah) (at_ := at_) (ar := ar) (ad := ad) c_2) (cut8 (bs' := [xB ax ac af ah at_ ar ad, cB G ac vc, fB G af vf, hB G ah vh, tB G at_ vt, cB G ar vr, fB G ad vd]) 7 [0, 1, 2] [3, 4, 5, 6] [0, 1, 2, 3, 4, 5, 6] [xB ax ac af ah at_ ar ad, cB G ac vc, fB G af vf] rfl (by decide +kernel) rfl rfl rfl (by decide +kernel) rfl) (va_cwS 1 hts gL_law_L_isSound rfl rfl rfl hd_L_isSound.2 ⟨Nat.le_of_ble_eq_true rfl, Nat.le_of_ble_eq_true rfl⟩) rfl hl.1 rfl (Nat.le_of_ble_eq_true rfl) dL_law_280 ⟨Nat.le_of_ble_eq_true rfl, Nat.le_of_ble_eq_true rfl⟩ (fun H locs hw => ?_)
  refine lv_if_eq (tgt := 322) hx hb dL_law_283 (by decide) (fun k_3 => ?_) (fun k_3 => ?_)
  · have h := br_yes h k_3
    refine lv_iconst (v := 0) hx hb dL_law_322 (by decide) ?_
    exact absurd (show (0 : Int32) = 1 from congrArg (fun q => q.1) (Option.some.inj h)) (by decide)
  · have h := br_no h k_3
    refine lv_iload hx hb dL_law_286 (lv_at hl 2 rfl) ?_
    refine lv_bipush (v := 6) hx hb dL_law_288 (by decide) ?_
    obtain ⟨k_4, h⟩ := ck_ok h
    refine lv_irem hx hb dL_law_290 k_4 ?_
    refine lv_iconst (v := 5) hx hb dL_law_291 (by decide) ?_
    refine lv_icmp_ne (tgt := 324) hx hb dL_law_292 (by decide) (fun k_5 => ?_) (fun k_5 => ?_)
    · have h := br_no h k_5
      obtain ⟨t_6, et_6, h⟩ := nm_ok h
      refine lv_iinc (v := t_6) (lv' := [(4, .int t_6), (0, .ref b), (1, .ref ax), (5, .int x5)]) hx hb dL_law_324 hl (k := 2) rfl (by rw [et_6]; rfl) (by decide) rfl (fun ls hl => ?_)
      refine lv_goto (tgt := 196) hx hb dL_law_327 (by decide) ?_
      exact hk196 vc vf vh vt vr vd t_6 _ _ _ h hw (lv_sub hl [1, 2, 0] rfl)
    · have h := br_yes h k_5
      refine lv_aload_n hx hb dL_law_295 rfl (lv_at hl 1 rfl) ?_
      refine lv_iconst (v := 0) hx hb dL_law_296 (by decide) ?_
      obtain ⟨r_7, c_8, h⟩ := bd_ok h
      refine x_Vi (As := [.int 0]) (w' := fl [xB ax ac af ah at_ ar ad, cB G ac vc, fB G af vf, hB G ah vh, tB G at_ vt, cB G ar vr, fB G ad vd]) X hw (m_X4_count (G := G) (l := l) (ax := ax) (ac := ac) (af := af) (ah := ah) (at_ := at_) (ar := ar) (ad := ad) c_8) (cut8 (bs' := [xB ax ac af ah at_ ar ad, cB G ac vc, fB G af vf, hB G ah vh, tB G at_ vt, cB G ar vr, fB G ad vd]) 7 [0, 1, 2] [3, 4, 5, 6] [0, 1, 2, 3, 4, 5, 6] [xB ax ac af ah at_ ar ad, cB G ac vc, fB G af vf] rfl (by decide +kernel) rfl rfl rfl (by decide +kernel) rfl) 0 0 rfl rfl rfl (cwV 1 hts gL_law_X4_count rfl rfl rfl hd_X4_count ⟨Nat.le_of_ble_eq_true rfl, Nat.le_of_ble_eq_true rfl⟩) rfl hl.1 rfl (Nat.le_of_ble_eq_true rfl) dL_law_297 ⟨Nat.le_of_ble_eq_true rfl, Nat.le_of_ble_eq_true rfl⟩ (fun H locs hw => ?_)
      refine lv_if_le (tgt := 324) hx hb dL_law_300 (by decide) (fun k_9 => ?_) (fun k_9 => ?_)
      · have h := br_yes h k_9
        obtain ⟨t_10, et_10, h⟩ := nm_ok h
        refine lv_iinc (v := t_10) (lv' := [(4, .int t_10), (0, .ref b), (1, .ref ax), (5, .int x5)]) hx hb dL_law_324 hl (k := 2) rfl (by rw [et_10]; rfl) (by decide) rfl (fun ls hl => ?_)
        refine lv_goto (tgt := 196) hx hb dL_law_327 (by decide) ?_
        exact hk196 vc vf vh vt vr vd t_10 _ _ _ h hw (lv_sub hl [1, 2, 0] rfl)
      · have h := br_no h k_9
        refine lv_aload_n hx hb dL_law_303 rfl (lv_at hl 1 rfl) ?_
        refine lv_iload hx hb dL_law_304 (lv_at hl 3 rfl) ?_
        refine lv_iconst (v := 5) hx hb dL_law_306 (by decide) ?_
        refine lv_ishr hx hb dL_law_307 ?_
        refine lv_aload_n hx hb dL_law_308 rfl (lv_at hl 1 rfl) ?_
        refine lv_iconst (v := 0) hx hb dL_law_309 (by decide) ?_
        obtain ⟨r_11, c_12, h⟩ := bd_ok h
        refine x_Vi (As := [.int 0]) (w' := fl [xB ax ac af ah at_ ar ad, cB G ac vc, fB G af vf, hB G ah vh, tB G at_ vt, cB G ar vr, fB G ad vd]) X hw (m_X4_count (G := G) (l := l) (ax := ax) (ac := ac) (af := af) (ah := ah) (at_ := at_) (ar := ar) (ad := ad) c_12) (cut8 (bs' := [xB ax ac af ah at_ ar ad, cB G ac vc, fB G af vf, hB G ah vh, tB G at_ vt, cB G ar vr, fB G ad vd]) 7 [0, 1, 2] [3, 4, 5, 6] [0, 1, 2, 3, 4, 5, 6] [xB ax ac af ah at_ ar ad, cB G ac vc, fB G af vf] rfl (by decide +kernel) rfl rfl rfl (by decide +kernel) rfl) 0 0 rfl rfl rfl (cwV 1 hts gL_law_X4_count rfl rfl rfl hd_X4_count ⟨Nat.le_of_ble_eq_true rfl, Nat.le_of_ble_eq_true rfl⟩) rfl hl.1 rfl (Nat.le_of_ble_eq_true rfl) dL_law_310 ⟨Nat.le_of_ble_eq_true rfl, Nat.le_of_ble_eq_true rfl⟩ (fun H locs hw => ?_)
        obtain ⟨r_13, c_14, h⟩ := bd_ok h
        refine x_Si (As := [.int (x5 >>> (5 &&& 31)), .int r_11]) (w' := fl [xB ax ac af ah at_ ar ad, cB G ac vc, fB G af vf, hB G ah vh, tB G at_ vt, cB G ar vr, fB G ad vd]) X hw (m_L_low (G := G) (l := l) c_14) Cut.nil (va_cwS 2 hts gL_law_L_low rfl rfl rfl hd_L_low.2 ⟨Nat.le_of_ble_eq_true rfl, Nat.le_of_ble_eq_true rfl⟩) rfl hl.1 rfl (Nat.le_of_ble_eq_true rfl) dL_law_313 ⟨Nat.le_of_ble_eq_true rfl, Nat.le_of_ble_eq_true rfl⟩ (fun H locs hw => ?_)
        obtain ⟨r_15, v_16, w_17, g_18, v_19, w_20, c_21, h⟩ := bd6_ok h
        refine x_Si (As := [.ref ax, .int r_13]) (w' := fl [xB ax ac af ah at_ ar ad, cB G ac v_16, fB G af w_17, hB G ah g_18, tB G at_ vt, cB G ar v_19, fB G ad w_20]) X hw (m_L_isLeast (G := G) (l := l) (ax := ax) (ac := ac) (af := af) (ah := ah) (at_ := at_) (ar := ar) (ad := ad) c_21) (cut8 (bs' := [xB ax ac af ah at_ ar ad, cB G ac v_16, fB G af w_17, hB G ah g_18, tB G at_ vt, cB G ar v_19, fB G ad w_20]) 7 [0, 1, 2, 3, 5, 6] [4] [0, 1, 2, 3, 6, 4, 5] [xB ax ac af ah at_ ar ad, cB G ac v_16, fB G af w_17, hB G ah g_18, cB G ar v_19, fB G ad w_20] rfl (by decide +kernel) rfl rfl rfl (by decide +kernel) rfl) (va_cwS 2 hts gL_law_L_isLeast rfl rfl rfl hd_L_isLeast.2 ⟨Nat.le_of_ble_eq_true rfl, Nat.le_of_ble_eq_true rfl⟩) rfl hl.1 rfl (Nat.le_of_ble_eq_true rfl) dL_law_316 ⟨Nat.le_of_ble_eq_true rfl, Nat.le_of_ble_eq_true rfl⟩ (fun H locs hw => ?_)
        refine lv_if_ne (tgt := 324) hx hb dL_law_319 (by decide) (fun k_22 => ?_) (fun k_22 => ?_)
        · have h := br_no h k_22
          obtain ⟨t_23, et_23, h⟩ := nm_ok h
          refine lv_iinc (v := t_23) (lv' := [(4, .int t_23), (0, .ref b), (1, .ref ax), (5, .int x5)]) hx hb dL_law_324 hl (k := 2) rfl (by rw [et_23]; rfl) (by decide) rfl (fun ls hl => ?_)
          refine lv_goto (tgt := 196) hx hb dL_law_327 (by decide) ?_
          exact hk196 v_16 w_17 g_18 vt v_19 w_20 t_23 _ _ _ h hw (lv_sub hl [1, 2, 0] rfl)
        · have h := br_yes h k_22
          refine lv_iconst (v := 0) hx hb dL_law_322 (by decide) ?_
          exact absurd (show (0 : Int32) = 1 from congrArg (fun q => q.1) (Option.some.inj h)) (by decide)
noncomputable def f_L_law_b245 (L : Nat) (xs : Nat → Int32) (k196 : CV → FV → HV → TV → CV → FV → Int32 → Option (Int32 × CV × FV × HV × TV × CV × FV)) (vc : CV) (vf : FV) (vh : HV) (vt : TV) (vr : CV) (vd : FV) (x4 : Int32) (x5 : Int32) (x6 : Int64) (x8 : Int32) : Option (Int32 × CV × FV × HV × TV × CV × FV) :=
  br (x8 < 0)
    (f_L_law_b279 L xs k196 vc vf vh vt vr vd x4 x5)
    (br (((x5 >>> (27 &&& 31)) &&& 3) = 0)
       (bd4 (f_X4_undo vc vf vh) fun r_3 v_4 w_5 g_6 =>
        br (r_3 < 0)
          (some (0, v_4, w_5, g_6, vt, vr, vd))
          (bd (f_X4_digest v_4 w_5) fun r_9 =>
           br ((lg_cmp r_9 x6) = 0)
             (f_L_law_b279 L xs k196 v_4 w_5 g_6 vt vr vd x4 x5)
             (some (0, v_4, w_5, g_6, vt, vr, vd))))
       (f_L_law_b279 L xs k196 vc vf vh vt vr vd x4 x5))
set_option maxHeartbeats 4000000 in
set_option maxRecDepth 100000 in
theorem w_L_law_b245 {G : GG} {l : Launch} {p : Program} {e : Env} {s : State} {m : MethodId} {b L : Nat} {xs : Nat → Int32} {Q : State → Prop} {below : List Frame} {meth : Method} {c : Code} {A : Nat → Prop} {ax : Nat} {ac af ah at_ ar ad : Nat → Nat}  {zvc : CV} {zvf : FV} {zvh : HV} {zvt : TV} {zvr : CV} {zvd : FV}  {k196 : CV → FV → HV → TV → CV → FV → Int32 → Option (Int32 × CV × FV × HV × TV × CV × FV)} (X : Cx p s m #[Value.ref b] meth c cL_law 9 ret wsL_law RL G A) (hX : va_X b L xs s s.heap) (hbl : b < s.heap.size) (hbA : ¬ A b) (hL : L < 2 ^ 31) (KE : ∀ (H : Heap) (locs : List Loc) (ls : Array Slot), Wd G A s H locs (fl [xB ax ac af ah at_ ar ad, cB G ac zvc, fB G af zvf, hB G ah zvh, tB G at_ zvt, cB G ar zvr, fB G ad zvd]) → W p l e room_1 s m #[Value.ref b] below meth c H locs 600000 7302250 Q (F0 m 499 ls [.int 1])) (hk196 : ∀ (vc : CV) (vf : FV) (vh : HV) (vt : TV) (vr : CV) (vd : FV) (x4 : Int32) (H : Heap) (locs : List Loc) (ls : Array Slot), k196 vc vf vh vt vr vd x4 = some (1, zvc, zvf, zvh, zvt, zvr, zvd) → Wd G A s H locs (fl [xB ax ac af ah at_ ar ad, cB G ac vc, fB G af vf, hB G ah vh, tB G at_ vt, cB G ar vr, fB G ad vd]) → lv_has ls 9 [(0, .ref b), (1, .ref ax), (4, .int x4)] → W p l e room_1 s m #[Value.ref b] below meth c H locs 600000 7302250 Q (F0 m 196 ls [])) :
    ∀ (vc : CV) (vf : FV) (vh : HV) (vt : TV) (vr : CV) (vd : FV) (x4 : Int32) (x5 : Int32) (x6 : Int64) (x8 : Int32) (H : Heap) (locs : List Loc) (ls : Array Slot), f_L_law_b245 L xs k196 vc vf vh vt vr vd x4 x5 x6 x8 = some (1, zvc, zvf, zvh, zvt, zvr, zvd) → Wd G A s H locs (fl [xB ax ac af ah at_ ar ad, cB G ac vc, fB G af vf, hB G ah vh, tB G at_ vt, cB G ar vr, fB G ad vd]) → lv_has ls 9 [(0, .ref b), (1, .ref ax), (4, .int x4), (5, .int x5), (6, .long x6), (8, .int x8)] → W p l e room_1 s m #[Value.ref b] below meth c H locs 600000 7302250 Q (F0 m 245 ls []) := by
  obtain ⟨⟨hx, hb, hml, hown, hts⟩, hK, hr, hlk, hA⟩ := id X
  intro vc vf vh vt vr vd x4 x5 x6 x8 H locs ls h hw hl
  unfold f_L_law_b245 at h
  refine lv_iload hx hb dL_law_245 (lv_at hl 5 rfl) ?_
  refine lv_if_lt (tgt := 279) hx hb dL_law_247 (by decide) (fun k_1 => ?_) (fun k_1 => ?_)
  · have h := br_yes h k_1
    exact w_L_law_b279 X hX hbl hbA hL KE hk196 vc vf vh vt vr vd x4 x5 _ _ _ h hw (lv_sub hl [0, 1, 2, 3] rfl)
  · have h := br_no h k_1
    refine lv_iload hx hb dL_law_250 (lv_at hl 3 rfl) ?_
    refine lv_bipush (v := 27) hx hb dL_law_252 (by decide) ?_
    refine lv_ishr hx hb dL_law_254 ?_
    refine lv_iconst (v := 3) hx hb dL_law_255 (by decide) ?_
    refine lv_iand hx hb dL_law_256 ?_
    refine lv_if_ne (tgt := 279) hx hb dL_law_257 (by decide) (fun k_2 => ?_) (fun k_2 => ?_)
    · have h := br_no h k_2
      exact w_L_law_b279 X hX hbl hbA hL KE hk196 vc vf vh vt vr vd x4 x5 _ _ _ h hw (lv_sub hl [0, 1, 2, 3] rfl)
    · have h := br_yes h k_2
      refine lv_aload_n hx hb dL_law_260 rfl (lv_at hl 1 rfl) ?_
      obtain ⟨r_3, v_4, w_5, g_6, c_7, h⟩ := bd4_ok h
      refine x_Vi (As := []) (w' := fl [xB ax ac af ah at_ ar ad, cB G ac v_4, fB G af w_5, hB G ah g_6, tB G at_ vt, cB G ar vr, fB G ad vd]) X hw (m_X4_undo (G := G) (l := l) (ax := ax) (ac := ac) (af := af) (ah := ah) (at_ := at_) (ar := ar) (ad := ad) c_7) (cut8 (bs' := [xB ax ac af ah at_ ar ad, cB G ac v_4, fB G af w_5, hB G ah g_6, tB G at_ vt, cB G ar vr, fB G ad vd]) 7 [0, 1, 2, 3] [4, 5, 6] [0, 1, 2, 3, 4, 5, 6] [xB ax ac af ah at_ ar ad, cB G ac v_4, fB G af w_5, hB G ah g_6] rfl (by decide +kernel) rfl rfl rfl (by decide +kernel) rfl) 0 0 rfl rfl rfl (cwV 0 hts gL_law_X4_undo rfl rfl rfl hd_X4_undo ⟨Nat.le_of_ble_eq_true rfl, Nat.le_of_ble_eq_true rfl⟩) rfl hl.1 rfl (Nat.le_of_ble_eq_true rfl) dL_law_261 ⟨Nat.le_of_ble_eq_true rfl, Nat.le_of_ble_eq_true rfl⟩ (fun H locs hw => ?_)
      refine lv_if_lt (tgt := 277) hx hb dL_law_264 (by decide) (fun k_8 => ?_) (fun k_8 => ?_)
      · have h := br_yes h k_8
        refine lv_iconst (v := 0) hx hb dL_law_277 (by decide) ?_
        exact absurd (show (0 : Int32) = 1 from congrArg (fun q => q.1) (Option.some.inj h)) (by decide)
      · have h := br_no h k_8
        refine lv_aload_n hx hb dL_law_267 rfl (lv_at hl 1 rfl) ?_
        obtain ⟨r_9, c_10, h⟩ := bd_ok h
        refine x_Vl (As := []) (w' := fl [xB ax ac af ah at_ ar ad, cB G ac v_4, fB G af w_5, hB G ah g_6, tB G at_ vt, cB G ar vr, fB G ad vd]) X hw (m_X4_digest (G := G) (l := l) (ax := ax) (ac := ac) (af := af) (ah := ah) (at_ := at_) (ar := ar) (ad := ad) c_10) (cut8 (bs' := [xB ax ac af ah at_ ar ad, cB G ac v_4, fB G af w_5, hB G ah g_6, tB G at_ vt, cB G ar vr, fB G ad vd]) 7 [0, 1, 2] [3, 4, 5, 6] [0, 1, 2, 3, 4, 5, 6] [xB ax ac af ah at_ ar ad, cB G ac v_4, fB G af w_5] rfl (by decide +kernel) rfl rfl rfl (by decide +kernel) rfl) 0 0 rfl rfl rfl (cwV 0 hts gL_law_X4_digest rfl rfl rfl hd_X4_digest ⟨Nat.le_of_ble_eq_true rfl, Nat.le_of_ble_eq_true rfl⟩) rfl hl.1 rfl (Nat.le_of_ble_eq_true rfl) dL_law_268 ⟨Nat.le_of_ble_eq_true rfl, Nat.le_of_ble_eq_true rfl⟩ (fun H locs hw => ?_)
        refine lv_lload hx hb dL_law_271 (lv_at hl 4 rfl) ?_
        refine W.lcmp hx hb dL_law_273 ?_
        refine lv_if_eq (tgt := 279) hx hb dL_law_274 (by decide) (fun k_11 => ?_) (fun k_11 => ?_)
        · have h := br_yes h k_11
          exact w_L_law_b279 X hX hbl hbA hL KE hk196 v_4 w_5 g_6 vt vr vd x4 x5 _ _ _ h hw (lv_sub hl [0, 1, 2, 3] rfl)
        · have h := br_no h k_11
          refine lv_iconst (v := 0) hx hb dL_law_277 (by decide) ?_
          exact absurd (show (0 : Int32) = 1 from congrArg (fun q => q.1) (Option.some.inj h)) (by decide)
noncomputable def f_L_law_b196 (L : Nat) (xs : Nat → Int32)  : Nat → CV → FV → HV → TV → CV → FV → Int32 → Option (Int32 × CV × FV × HV × TV × CV × FV)
  | 0 => fun _ _ _ _ _ _ _ => none
  | n + 1 => fun vc vf vh vt vr vd x4 =>
    br (18 ≤ x4)
      (bd (f_X4_digest vc vf) fun r_2 =>
       bd4 (f_X4_addSection vc vf vh 0 1 1) fun r_4 v_5 w_6 g_7 =>
       br (r_4 = (-3))
         (bd4 (f_X4_resize v_5 w_6 g_7 12 1 1) fun r_10 v_11 w_12 g_13 =>
          br (r_10 = (-2))
            (bd4 (f_X4_setChill v_11 w_12 g_13 0 501) fun r_16 v_17 w_18 g_19 =>
             bd (f_X4_count v_17 w_18 0) fun r_21 =>
             br (r_21 ≤ 0)
               (f_L_law_b384 L xs v_17 w_18 g_19 vt vr vd r_2 (-2) r_16)
               (f_L_law_b384 L xs v_17 w_18 g_19 vt vr vd r_2 (-3) r_16))
            (some (0, v_11, w_12, g_13, vt, vr, vd)))
         (some (0, v_5, w_6, g_7, vt, vr, vd)))
      (ck (¬ ((9 + x4) : Int32) < 0) <|
       nm ((cellV L xs (9 + x4)) : Int32) fun t_25 =>
       bd (f_X4_digest vc vf) fun r_26 =>
       bd4 (f_L_changes vc vf vh t_25) fun r_28 v_29 w_30 g_31 =>
       br (0 ≤ r_28)
         (f_L_law_b245 L xs (f_L_law_b196 L xs n) v_29 w_30 g_31 vt vr vd x4 t_25 r_26 r_28)
         (bd (f_X4_digest v_29 w_30) fun r_34 =>
          br ((lg_cmp r_34 r_26) = 0)
            (f_L_law_b245 L xs (f_L_law_b196 L xs n) v_29 w_30 g_31 vt vr vd x4 t_25 r_26 r_28)
            (some (0, v_29, w_30, g_31, vt, vr, vd))))
set_option maxHeartbeats 4000000 in
set_option maxRecDepth 100000 in
theorem w_L_law_b196 {G : GG} {l : Launch} {p : Program} {e : Env} {s : State} {m : MethodId} {b L : Nat} {xs : Nat → Int32} {Q : State → Prop} {below : List Frame} {meth : Method} {c : Code} {A : Nat → Prop} {ax : Nat} {ac af ah at_ ar ad : Nat → Nat}  {zvc : CV} {zvf : FV} {zvh : HV} {zvt : TV} {zvr : CV} {zvd : FV}   (X : Cx p s m #[Value.ref b] meth c cL_law 9 ret wsL_law RL G A) (hX : va_X b L xs s s.heap) (hbl : b < s.heap.size) (hbA : ¬ A b) (hL : L < 2 ^ 31) (KE : ∀ (H : Heap) (locs : List Loc) (ls : Array Slot), Wd G A s H locs (fl [xB ax ac af ah at_ ar ad, cB G ac zvc, fB G af zvf, hB G ah zvh, tB G at_ zvt, cB G ar zvr, fB G ad zvd]) → W p l e room_1 s m #[Value.ref b] below meth c H locs 600000 7302250 Q (F0 m 499 ls [.int 1]))  :
    ∀ (n : Nat) (vc : CV) (vf : FV) (vh : HV) (vt : TV) (vr : CV) (vd : FV) (x4 : Int32) (H : Heap) (locs : List Loc) (ls : Array Slot), f_L_law_b196 L xs n vc vf vh vt vr vd x4 = some (1, zvc, zvf, zvh, zvt, zvr, zvd) → Wd G A s H locs (fl [xB ax ac af ah at_ ar ad, cB G ac vc, fB G af vf, hB G ah vh, tB G at_ vt, cB G ar vr, fB G ad vd]) → lv_has ls 9 [(0, .ref b), (1, .ref ax), (4, .int x4)] → W p l e room_1 s m #[Value.ref b] below meth c H locs 600000 7302250 Q (F0 m 196 ls []) := by
  obtain ⟨⟨hx, hb, hml, hown, hts⟩, hK, hr, hlk, hA⟩ := id X
  intro n
  induction n with
  | zero =>
    intro vc vf vh vt vr vd x4 H locs ls h
    rw [f_L_law_b196] at h
    cases h
  | succ n ih =>
    intro vc vf vh vt vr vd x4 H locs ls h hw hl
    rw [f_L_law_b196] at h
    refine lv_iload hx hb dL_law_196 (lv_at hl 2 rfl) ?_
    refine lv_bipush (v := 18) hx hb dL_law_198 (by decide) ?_
    refine lv_icmp_ge (tgt := 330) hx hb dL_law_200 (by decide) (fun k_1 => ?_) (fun k_1 => ?_)
    · have h := br_yes h k_1
      refine lv_aload_n hx hb dL_law_330 rfl (lv_at hl 1 rfl) ?_
      obtain ⟨r_2, c_3, h⟩ := bd_ok h
      refine x_Vl (As := []) (w' := fl [xB ax ac af ah at_ ar ad, cB G ac vc, fB G af vf, hB G ah vh, tB G at_ vt, cB G ar vr, fB G ad vd]) X hw (m_X4_digest (G := G) (l := l) (ax := ax) (ac := ac) (af := af) (ah := ah) (at_ := at_) (ar := ar) (ad := ad) c_3) (cut8 (bs' := [xB ax ac af ah at_ ar ad, cB G ac vc, fB G af vf, hB G ah vh, tB G at_ vt, cB G ar vr, fB G ad vd]) 7 [0, 1, 2] [3, 4, 5, 6] [0, 1, 2, 3, 4, 5, 6] [xB ax ac af ah at_ ar ad, cB G ac vc, fB G af vf] rfl (by decide +kernel) rfl rfl rfl (by decide +kernel) rfl) 0 0 rfl rfl rfl (cwV 0 hts gL_law_X4_digest rfl rfl rfl hd_X4_digest ⟨Nat.le_of_ble_eq_true rfl, Nat.le_of_ble_eq_true rfl⟩) rfl hl.1 rfl (Nat.le_of_ble_eq_true rfl) dL_law_331 ⟨Nat.le_of_ble_eq_true rfl, Nat.le_of_ble_eq_true rfl⟩ (fun H locs hw => ?_)
      refine lv_lstore (lv' := [(4, .long r_2), (0, .ref b), (1, .ref ax)]) hx hb dL_law_334 hl (by decide) rfl (fun ls hl => ?_)
      refine lv_aload_n hx hb dL_law_336 rfl (lv_at hl 2 rfl) ?_
      refine lv_iconst (v := 0) hx hb dL_law_337 (by decide) ?_
      refine lv_iconst (v := 1) hx hb dL_law_338 (by decide) ?_
      refine lv_iconst (v := 1) hx hb dL_law_339 (by decide) ?_
      obtain ⟨r_4, v_5, w_6, g_7, c_8, h⟩ := bd4_ok h
      refine x_Vi (As := [.int 0, .int 1, .int 1]) (w' := fl [xB ax ac af ah at_ ar ad, cB G ac v_5, fB G af w_6, hB G ah g_7, tB G at_ vt, cB G ar vr, fB G ad vd]) X hw (m_X4_addSection (G := G) (l := l) (ax := ax) (ac := ac) (af := af) (ah := ah) (at_ := at_) (ar := ar) (ad := ad) c_8) (cut8 (bs' := [xB ax ac af ah at_ ar ad, cB G ac v_5, fB G af w_6, hB G ah g_7, tB G at_ vt, cB G ar vr, fB G ad vd]) 7 [0, 1, 2, 3] [4, 5, 6] [0, 1, 2, 3, 4, 5, 6] [xB ax ac af ah at_ ar ad, cB G ac v_5, fB G af w_6, hB G ah g_7] rfl (by decide +kernel) rfl rfl rfl (by decide +kernel) rfl) 0 0 rfl rfl rfl (cwV 3 hts gL_law_X4_addSection rfl rfl rfl hd_X4_addSection ⟨Nat.le_of_ble_eq_true rfl, Nat.le_of_ble_eq_true rfl⟩) rfl hl.1 rfl (Nat.le_of_ble_eq_true rfl) dL_law_340 ⟨Nat.le_of_ble_eq_true rfl, Nat.le_of_ble_eq_true rfl⟩ (fun H locs hw => ?_)
      refine lv_bipush (v := (-3)) hx hb dL_law_343 (by decide) ?_
      refine lv_icmp_ne (tgt := 498) hx hb dL_law_345 (by decide) (fun k_9 => ?_) (fun k_9 => ?_)
      · have h := br_no h k_9
        refine lv_iconst (v := 0) hx hb dL_law_498 (by decide) ?_
        exact absurd (show (0 : Int32) = 1 from congrArg (fun q => q.1) (Option.some.inj h)) (by decide)
      · have h := br_yes h k_9
        refine lv_aload_n hx hb dL_law_348 rfl (lv_at hl 2 rfl) ?_
        refine lv_bipush (v := 12) hx hb dL_law_349 (by decide) ?_
        refine lv_iconst (v := 1) hx hb dL_law_351 (by decide) ?_
        refine lv_iconst (v := 1) hx hb dL_law_352 (by decide) ?_
        obtain ⟨r_10, v_11, w_12, g_13, c_14, h⟩ := bd4_ok h
        refine x_Vi (As := [.int 12, .int 1, .int 1]) (w' := fl [xB ax ac af ah at_ ar ad, cB G ac v_11, fB G af w_12, hB G ah g_13, tB G at_ vt, cB G ar vr, fB G ad vd]) X hw (m_X4_resize (G := G) (l := l) (ax := ax) (ac := ac) (af := af) (ah := ah) (at_ := at_) (ar := ar) (ad := ad) c_14) (cut8 (bs' := [xB ax ac af ah at_ ar ad, cB G ac v_11, fB G af w_12, hB G ah g_13, tB G at_ vt, cB G ar vr, fB G ad vd]) 7 [0, 1, 2, 3] [4, 5, 6] [0, 1, 2, 3, 4, 5, 6] [xB ax ac af ah at_ ar ad, cB G ac v_11, fB G af w_12, hB G ah g_13] rfl (by decide +kernel) rfl rfl rfl (by decide +kernel) rfl) 0 0 rfl rfl rfl (cwV 3 hts gL_law_X4_resize rfl rfl rfl hd_X4_resize ⟨Nat.le_of_ble_eq_true rfl, Nat.le_of_ble_eq_true rfl⟩) rfl hl.1 rfl (Nat.le_of_ble_eq_true rfl) dL_law_353 ⟨Nat.le_of_ble_eq_true rfl, Nat.le_of_ble_eq_true rfl⟩ (fun H locs hw => ?_)
        refine lv_bipush (v := (-2)) hx hb dL_law_356 (by decide) ?_
        refine lv_icmp_ne (tgt := 498) hx hb dL_law_358 (by decide) (fun k_15 => ?_) (fun k_15 => ?_)
        · have h := br_no h k_15
          refine lv_iconst (v := 0) hx hb dL_law_498 (by decide) ?_
          exact absurd (show (0 : Int32) = 1 from congrArg (fun q => q.1) (Option.some.inj h)) (by decide)
        · have h := br_yes h k_15
          refine lv_aload_n hx hb dL_law_361 rfl (lv_at hl 2 rfl) ?_
          refine lv_iconst (v := 0) hx hb dL_law_362 (by decide) ?_
          refine lv_sipush (v := 501) hx hb dL_law_363 (by decide) ?_
          obtain ⟨r_16, v_17, w_18, g_19, c_20, h⟩ := bd4_ok h
          refine x_Vi (As := [.int 0, .int 501]) (w' := fl [xB ax ac af ah at_ ar ad, cB G ac v_17, fB G af w_18, hB G ah g_19, tB G at_ vt, cB G ar vr, fB G ad vd]) X hw (m_X4_setChill (G := G) (l := l) (ax := ax) (ac := ac) (af := af) (ah := ah) (at_ := at_) (ar := ar) (ad := ad) c_20) (cut8 (bs' := [xB ax ac af ah at_ ar ad, cB G ac v_17, fB G af w_18, hB G ah g_19, tB G at_ vt, cB G ar vr, fB G ad vd]) 7 [0, 1, 2, 3] [4, 5, 6] [0, 1, 2, 3, 4, 5, 6] [xB ax ac af ah at_ ar ad, cB G ac v_17, fB G af w_18, hB G ah g_19] rfl (by decide +kernel) rfl rfl rfl (by decide +kernel) rfl) 0 0 rfl rfl rfl (cwV 2 hts gL_law_X4_setChill rfl rfl rfl hd_X4_setChill ⟨Nat.le_of_ble_eq_true rfl, Nat.le_of_ble_eq_true rfl⟩) rfl hl.1 rfl (Nat.le_of_ble_eq_true rfl) dL_law_366 ⟨Nat.le_of_ble_eq_true rfl, Nat.le_of_ble_eq_true rfl⟩ (fun H locs hw => ?_)
          refine lv_aload_n hx hb dL_law_369 rfl (lv_at hl 2 rfl) ?_
          refine lv_iconst (v := 0) hx hb dL_law_370 (by decide) ?_
          obtain ⟨r_21, c_22, h⟩ := bd_ok h
          refine x_Vi (As := [.int 0]) (w' := fl [xB ax ac af ah at_ ar ad, cB G ac v_17, fB G af w_18, hB G ah g_19, tB G at_ vt, cB G ar vr, fB G ad vd]) X hw (m_X4_count (G := G) (l := l) (ax := ax) (ac := ac) (af := af) (ah := ah) (at_ := at_) (ar := ar) (ad := ad) c_22) (cut8 (bs' := [xB ax ac af ah at_ ar ad, cB G ac v_17, fB G af w_18, hB G ah g_19, tB G at_ vt, cB G ar vr, fB G ad vd]) 7 [0, 1, 2] [3, 4, 5, 6] [0, 1, 2, 3, 4, 5, 6] [xB ax ac af ah at_ ar ad, cB G ac v_17, fB G af w_18] rfl (by decide +kernel) rfl rfl rfl (by decide +kernel) rfl) 0 0 rfl rfl rfl (cwV 1 hts gL_law_X4_count rfl rfl rfl hd_X4_count ⟨Nat.le_of_ble_eq_true rfl, Nat.le_of_ble_eq_true rfl⟩) rfl hl.1 rfl (Nat.le_of_ble_eq_true rfl) dL_law_371 ⟨Nat.le_of_ble_eq_true rfl, Nat.le_of_ble_eq_true rfl⟩ (fun H locs hw => ?_)
          refine lv_if_le (tgt := 382) hx hb dL_law_374 (by decide) (fun k_23 => ?_) (fun k_23 => ?_)
          · have h := br_yes h k_23
            refine lv_bipush (v := (-2)) hx hb dL_law_382 (by decide) ?_
            exact w_L_law_b384 X hX hbl hbA hL KE v_17 w_18 g_19 vt vr vd r_2 (-2) r_16 _ _ _ h hw (lv_sub hl [2, 0] rfl)
          · have h := br_no h k_23
            refine lv_bipush (v := (-3)) hx hb dL_law_377 (by decide) ?_
            refine lv_goto (tgt := 384) hx hb dL_law_379 (by decide) ?_
            exact w_L_law_b384 X hX hbl hbA hL KE v_17 w_18 g_19 vt vr vd r_2 (-3) r_16 _ _ _ h hw (lv_sub hl [2, 0] rfl)
    · have h := br_no h k_1
      refine lv_aload_n hx hb dL_law_203 rfl (lv_at hl 0 rfl) ?_
      refine lv_bipush (v := 9) hx hb dL_law_204 (by decide) ?_
      refine lv_iload hx hb dL_law_206 (lv_at hl 2 rfl) ?_
      refine lv_iadd hx hb dL_law_208 ?_
      obtain ⟨k_24, h⟩ := ck_ok h
      refine x_cell (k := (9 + x4)) X hX hbl hbA hL hw k_24 hl.1 (Nat.le_of_ble_eq_true rfl) dL_law_209 (fun H locs hw => ?_)
      obtain ⟨t_25, et_25, h⟩ := nm_ok h
      refine lv_istore (lv' := [(5, .int t_25), (0, .ref b), (1, .ref ax), (4, .int x4)]) hx hb dL_law_212 hl (by decide) (by rw [et_25]; rfl) (fun ls hl => ?_)
      refine lv_aload_n hx hb dL_law_214 rfl (lv_at hl 2 rfl) ?_
      obtain ⟨r_26, c_27, h⟩ := bd_ok h
      refine x_Vl (As := []) (w' := fl [xB ax ac af ah at_ ar ad, cB G ac vc, fB G af vf, hB G ah vh, tB G at_ vt, cB G ar vr, fB G ad vd]) X hw (m_X4_digest (G := G) (l := l) (ax := ax) (ac := ac) (af := af) (ah := ah) (at_ := at_) (ar := ar) (ad := ad) c_27) (cut8 (bs' := [xB ax ac af ah at_ ar ad, cB G ac vc, fB G af vf, hB G ah vh, tB G at_ vt, cB G ar vr, fB G ad vd]) 7 [0, 1, 2] [3, 4, 5, 6] [0, 1, 2, 3, 4, 5, 6] [xB ax ac af ah at_ ar ad, cB G ac vc, fB G af vf] rfl (by decide +kernel) rfl rfl rfl (by decide +kernel) rfl) 0 0 rfl rfl rfl (cwV 0 hts gL_law_X4_digest rfl rfl rfl hd_X4_digest ⟨Nat.le_of_ble_eq_true rfl, Nat.le_of_ble_eq_true rfl⟩) rfl hl.1 rfl (Nat.le_of_ble_eq_true rfl) dL_law_215 ⟨Nat.le_of_ble_eq_true rfl, Nat.le_of_ble_eq_true rfl⟩ (fun H locs hw => ?_)
      refine lv_lstore (lv' := [(6, .long r_26), (5, .int t_25), (0, .ref b), (1, .ref ax), (4, .int x4)]) hx hb dL_law_218 hl (by decide) rfl (fun ls hl => ?_)
      refine lv_aload_n hx hb dL_law_220 rfl (lv_at hl 3 rfl) ?_
      refine lv_iload hx hb dL_law_221 (lv_at hl 1 rfl) ?_
      obtain ⟨r_28, v_29, w_30, g_31, c_32, h⟩ := bd4_ok h
      refine x_Si (As := [.ref ax, .int t_25]) (w' := fl [xB ax ac af ah at_ ar ad, cB G ac v_29, fB G af w_30, hB G ah g_31, tB G at_ vt, cB G ar vr, fB G ad vd]) X hw (m_L_changes (G := G) (l := l) (ax := ax) (ac := ac) (af := af) (ah := ah) (at_ := at_) (ar := ar) (ad := ad) c_32) (cut8 (bs' := [xB ax ac af ah at_ ar ad, cB G ac v_29, fB G af w_30, hB G ah g_31, tB G at_ vt, cB G ar vr, fB G ad vd]) 7 [0, 1, 2, 3] [4, 5, 6] [0, 1, 2, 3, 4, 5, 6] [xB ax ac af ah at_ ar ad, cB G ac v_29, fB G af w_30, hB G ah g_31] rfl (by decide +kernel) rfl rfl rfl (by decide +kernel) rfl) (va_cwS 2 hts gL_law_L_changes rfl rfl rfl hd_L_changes.2 ⟨Nat.le_of_ble_eq_true rfl, Nat.le_of_ble_eq_true rfl⟩) rfl hl.1 rfl (Nat.le_of_ble_eq_true rfl) dL_law_223 ⟨Nat.le_of_ble_eq_true rfl, Nat.le_of_ble_eq_true rfl⟩ (fun H locs hw => ?_)
      refine lv_istore (lv' := [(8, .int r_28), (6, .long r_26), (5, .int t_25), (0, .ref b), (1, .ref ax), (4, .int x4)]) hx hb dL_law_226 hl (by decide) rfl (fun ls hl => ?_)
      refine lv_iload hx hb dL_law_228 (lv_at hl 0 rfl) ?_
      refine lv_if_ge (tgt := 245) hx hb dL_law_230 (by decide) (fun k_33 => ?_) (fun k_33 => ?_)
      · have h := br_yes h k_33
        exact w_L_law_b245 X hX hbl hbA hL KE ih v_29 w_30 g_31 vt vr vd x4 t_25 r_26 r_28 _ _ _ h hw (lv_sub hl [3, 4, 5, 2, 1, 0] rfl)
      · have h := br_no h k_33
        refine lv_aload_n hx hb dL_law_233 rfl (lv_at hl 4 rfl) ?_
        obtain ⟨r_34, c_35, h⟩ := bd_ok h
        refine x_Vl (As := []) (w' := fl [xB ax ac af ah at_ ar ad, cB G ac v_29, fB G af w_30, hB G ah g_31, tB G at_ vt, cB G ar vr, fB G ad vd]) X hw (m_X4_digest (G := G) (l := l) (ax := ax) (ac := ac) (af := af) (ah := ah) (at_ := at_) (ar := ar) (ad := ad) c_35) (cut8 (bs' := [xB ax ac af ah at_ ar ad, cB G ac v_29, fB G af w_30, hB G ah g_31, tB G at_ vt, cB G ar vr, fB G ad vd]) 7 [0, 1, 2] [3, 4, 5, 6] [0, 1, 2, 3, 4, 5, 6] [xB ax ac af ah at_ ar ad, cB G ac v_29, fB G af w_30] rfl (by decide +kernel) rfl rfl rfl (by decide +kernel) rfl) 0 0 rfl rfl rfl (cwV 0 hts gL_law_X4_digest rfl rfl rfl hd_X4_digest ⟨Nat.le_of_ble_eq_true rfl, Nat.le_of_ble_eq_true rfl⟩) rfl hl.1 rfl (Nat.le_of_ble_eq_true rfl) dL_law_234 ⟨Nat.le_of_ble_eq_true rfl, Nat.le_of_ble_eq_true rfl⟩ (fun H locs hw => ?_)
        refine lv_lload hx hb dL_law_237 (lv_at hl 1 rfl) ?_
        refine W.lcmp hx hb dL_law_239 ?_
        refine lv_if_eq (tgt := 245) hx hb dL_law_240 (by decide) (fun k_36 => ?_) (fun k_36 => ?_)
        · have h := br_yes h k_36
          exact w_L_law_b245 X hX hbl hbA hL KE ih v_29 w_30 g_31 vt vr vd x4 t_25 r_26 r_28 _ _ _ h hw (lv_sub hl [3, 4, 5, 2, 1, 0] rfl)
        · have h := br_no h k_36
          refine lv_iconst (v := 0) hx hb dL_law_243 (by decide) ?_
          exact absurd (show (0 : Int32) = 1 from congrArg (fun q => q.1) (Option.some.inj h)) (by decide)
noncomputable def f_L_law_b92 (L : Nat) (xs : Nat → Int32) (x3 : Int32) : Nat → CV → FV → HV → TV → CV → FV → Int32 → Option (Int32 × CV × FV × HV × TV × CV × FV)
  | 0 => fun _ _ _ _ _ _ _ => none
  | n + 1 => fun vc vf vh vt vr vd x4 =>
    br (x3 ≤ x4)
      (f_L_law_b196 L xs FU vc vf vh vt vr vd 0)
      (ck (¬ ((1 + x4) : Int32) < 0) <|
       nm ((cellV L xs (1 + x4)) : Int32) fun t_3 =>
       bd (f_L_low t_3 900) fun r_4 =>
       bd (f_L_low (t_3 >>> (10 &&& 31)) 600) fun r_6 =>
       br (((t_3 >>> (20 &&& 31)) &&& 3) = 0)
         (bd4 (f_X4_addSection vc vf vh (1 + r_4) (1 + r_6) 1) fun r_26 v_27 w_28 g_29 =>
          br (r_26 = x4)
            (br (x4 ≤ 0)
               (nm (x4 + 1 : Int32) fun t_33 =>
                f_L_law_b92 L xs x3 n v_27 w_28 g_29 vt vr vd t_33)
               (bd (f_L_low (t_3 >>> (22 &&& 31)) x4) fun r_34 =>
                bd4 (f_X4_join v_27 w_28 g_29 x4 r_34) fun r_36 v_37 w_38 g_39 =>
                br (r_36 = (x4 - 1))
                  (nm (x4 + 1 : Int32) fun t_42 =>
                   f_L_law_b92 L xs x3 n v_37 w_38 g_39 vt vr vd t_42)
                  (some (0, v_37, w_38, g_39, vt, vr, vd))))
            (some (0, v_27, w_28, g_29, vt, vr, vd)))
         (bd4 (f_X4_addSection vc vf vh (1 + r_4) (1 + r_6) 0) fun r_9 v_10 w_11 g_12 =>
          br (r_9 = x4)
            (br (x4 ≤ 0)
               (nm (x4 + 1 : Int32) fun t_16 =>
                f_L_law_b92 L xs x3 n v_10 w_11 g_12 vt vr vd t_16)
               (bd (f_L_low (t_3 >>> (22 &&& 31)) x4) fun r_17 =>
                bd4 (f_X4_join v_10 w_11 g_12 x4 r_17) fun r_19 v_20 w_21 g_22 =>
                br (r_19 = (x4 - 1))
                  (nm (x4 + 1 : Int32) fun t_25 =>
                   f_L_law_b92 L xs x3 n v_20 w_21 g_22 vt vr vd t_25)
                  (some (0, v_20, w_21, g_22, vt, vr, vd))))
            (some (0, v_10, w_11, g_12, vt, vr, vd))))
set_option maxHeartbeats 4000000 in
set_option maxRecDepth 100000 in
theorem w_L_law_b92 {G : GG} {l : Launch} {p : Program} {e : Env} {s : State} {m : MethodId} {b L : Nat} {xs : Nat → Int32} {Q : State → Prop} {below : List Frame} {meth : Method} {c : Code} {A : Nat → Prop} {ax : Nat} {ac af ah at_ ar ad : Nat → Nat} {x3 : Int32} {zvc : CV} {zvf : FV} {zvh : HV} {zvt : TV} {zvr : CV} {zvd : FV}   (X : Cx p s m #[Value.ref b] meth c cL_law 9 ret wsL_law RL G A) (hX : va_X b L xs s s.heap) (hbl : b < s.heap.size) (hbA : ¬ A b) (hL : L < 2 ^ 31) (KE : ∀ (H : Heap) (locs : List Loc) (ls : Array Slot), Wd G A s H locs (fl [xB ax ac af ah at_ ar ad, cB G ac zvc, fB G af zvf, hB G ah zvh, tB G at_ zvt, cB G ar zvr, fB G ad zvd]) → W p l e room_1 s m #[Value.ref b] below meth c H locs 600000 7302250 Q (F0 m 499 ls [.int 1]))  :
    ∀ (n : Nat) (vc : CV) (vf : FV) (vh : HV) (vt : TV) (vr : CV) (vd : FV) (x4 : Int32) (H : Heap) (locs : List Loc) (ls : Array Slot), f_L_law_b92 L xs x3 n vc vf vh vt vr vd x4 = some (1, zvc, zvf, zvh, zvt, zvr, zvd) → Wd G A s H locs (fl [xB ax ac af ah at_ ar ad, cB G ac vc, fB G af vf, hB G ah vh, tB G at_ vt, cB G ar vr, fB G ad vd]) → lv_has ls 9 [(0, .ref b), (1, .ref ax), (3, .int x3), (4, .int x4)] → W p l e room_1 s m #[Value.ref b] below meth c H locs 600000 7302250 Q (F0 m 92 ls []) := by
  obtain ⟨⟨hx, hb, hml, hown, hts⟩, hK, hr, hlk, hA⟩ := id X
  intro n
  induction n with
  | zero =>
    intro vc vf vh vt vr vd x4 H locs ls h
    rw [f_L_law_b92] at h
    cases h
  | succ n ih =>
    intro vc vf vh vt vr vd x4 H locs ls h hw hl
    rw [f_L_law_b92] at h
    refine lv_iload hx hb dL_law_92 (lv_at hl 3 rfl) ?_
    refine lv_iload_n hx hb dL_law_94 rfl (lv_at hl 2 rfl) ?_
    refine lv_icmp_ge (tgt := 193) hx hb dL_law_95 (by decide) (fun k_1 => ?_) (fun k_1 => ?_)
    · have h := br_yes h k_1
      refine lv_iconst (v := 0) hx hb dL_law_193 (by decide) ?_
      refine lv_istore (lv' := [(4, .int 0), (0, .ref b), (1, .ref ax), (3, .int x3)]) hx hb dL_law_194 hl (by decide) rfl (fun ls hl => ?_)
      exact w_L_law_b196 X hX hbl hbA hL KE FU vc vf vh vt vr vd 0 _ _ _ h hw (lv_sub hl [1, 2, 0] rfl)
    · have h := br_no h k_1
      refine lv_aload_n hx hb dL_law_98 rfl (lv_at hl 0 rfl) ?_
      refine lv_iconst (v := 1) hx hb dL_law_99 (by decide) ?_
      refine lv_iload hx hb dL_law_100 (lv_at hl 3 rfl) ?_
      refine lv_iadd hx hb dL_law_102 ?_
      obtain ⟨k_2, h⟩ := ck_ok h
      refine x_cell (k := (1 + x4)) X hX hbl hbA hL hw k_2 hl.1 (Nat.le_of_ble_eq_true rfl) dL_law_103 (fun H locs hw => ?_)
      obtain ⟨t_3, et_3, h⟩ := nm_ok h
      refine lv_istore (lv' := [(5, .int t_3), (0, .ref b), (1, .ref ax), (3, .int x3), (4, .int x4)]) hx hb dL_law_106 hl (by decide) (by rw [et_3]; rfl) (fun ls hl => ?_)
      refine lv_aload_n hx hb dL_law_108 rfl (lv_at hl 2 rfl) ?_
      refine lv_iconst (v := 1) hx hb dL_law_109 (by decide) ?_
      refine lv_iload hx hb dL_law_110 (lv_at hl 0 rfl) ?_
      refine lv_sipush (v := 900) hx hb dL_law_112 (by decide) ?_
      obtain ⟨r_4, c_5, h⟩ := bd_ok h
      refine x_Si (As := [.int t_3, .int 900]) (w' := fl [xB ax ac af ah at_ ar ad, cB G ac vc, fB G af vf, hB G ah vh, tB G at_ vt, cB G ar vr, fB G ad vd]) X hw (m_L_low (G := G) (l := l) c_5) Cut.nil (va_cwS 2 hts gL_law_L_low rfl rfl rfl hd_L_low.2 ⟨Nat.le_of_ble_eq_true rfl, Nat.le_of_ble_eq_true rfl⟩) rfl hl.1 rfl (Nat.le_of_ble_eq_true rfl) dL_law_115 ⟨Nat.le_of_ble_eq_true rfl, Nat.le_of_ble_eq_true rfl⟩ (fun H locs hw => ?_)
      refine lv_iadd hx hb dL_law_118 ?_
      refine lv_iconst (v := 1) hx hb dL_law_119 (by decide) ?_
      refine lv_iload hx hb dL_law_120 (lv_at hl 0 rfl) ?_
      refine lv_bipush (v := 10) hx hb dL_law_122 (by decide) ?_
      refine lv_ishr hx hb dL_law_124 ?_
      refine lv_sipush (v := 600) hx hb dL_law_125 (by decide) ?_
      obtain ⟨r_6, c_7, h⟩ := bd_ok h
      refine x_Si (As := [.int (t_3 >>> (10 &&& 31)), .int 600]) (w' := fl [xB ax ac af ah at_ ar ad, cB G ac vc, fB G af vf, hB G ah vh, tB G at_ vt, cB G ar vr, fB G ad vd]) X hw (m_L_low (G := G) (l := l) c_7) Cut.nil (va_cwS 2 hts gL_law_L_low rfl rfl rfl hd_L_low.2 ⟨Nat.le_of_ble_eq_true rfl, Nat.le_of_ble_eq_true rfl⟩) rfl hl.1 rfl (Nat.le_of_ble_eq_true rfl) dL_law_128 ⟨Nat.le_of_ble_eq_true rfl, Nat.le_of_ble_eq_true rfl⟩ (fun H locs hw => ?_)
      refine lv_iadd hx hb dL_law_131 ?_
      refine lv_iload hx hb dL_law_132 (lv_at hl 0 rfl) ?_
      refine lv_bipush (v := 20) hx hb dL_law_134 (by decide) ?_
      refine lv_ishr hx hb dL_law_136 ?_
      refine lv_iconst (v := 3) hx hb dL_law_137 (by decide) ?_
      refine lv_iand hx hb dL_law_138 ?_
      refine lv_if_ne (tgt := 146) hx hb dL_law_139 (by decide) (fun k_8 => ?_) (fun k_8 => ?_)
      · have h := br_no h k_8
        refine lv_iconst (v := 0) hx hb dL_law_146 (by decide) ?_
        obtain ⟨r_9, v_10, w_11, g_12, c_13, h⟩ := bd4_ok h
        refine x_Vi (As := [.int (1 + r_4), .int (1 + r_6), .int 0]) (w' := fl [xB ax ac af ah at_ ar ad, cB G ac v_10, fB G af w_11, hB G ah g_12, tB G at_ vt, cB G ar vr, fB G ad vd]) X hw (m_X4_addSection (G := G) (l := l) (ax := ax) (ac := ac) (af := af) (ah := ah) (at_ := at_) (ar := ar) (ad := ad) c_13) (cut8 (bs' := [xB ax ac af ah at_ ar ad, cB G ac v_10, fB G af w_11, hB G ah g_12, tB G at_ vt, cB G ar vr, fB G ad vd]) 7 [0, 1, 2, 3] [4, 5, 6] [0, 1, 2, 3, 4, 5, 6] [xB ax ac af ah at_ ar ad, cB G ac v_10, fB G af w_11, hB G ah g_12] rfl (by decide +kernel) rfl rfl rfl (by decide +kernel) rfl) 0 0 rfl rfl rfl (cwV 3 hts gL_law_X4_addSection rfl rfl rfl hd_X4_addSection ⟨Nat.le_of_ble_eq_true rfl, Nat.le_of_ble_eq_true rfl⟩) rfl hl.1 rfl (Nat.le_of_ble_eq_true rfl) dL_law_147 ⟨Nat.le_of_ble_eq_true rfl, Nat.le_of_ble_eq_true rfl⟩ (fun H locs hw => ?_)
        refine lv_iload hx hb dL_law_150 (lv_at hl 4 rfl) ?_
        refine lv_icmp_eq (tgt := 157) hx hb dL_law_152 (by decide) (fun k_14 => ?_) (fun k_14 => ?_)
        · have h := br_yes h k_14
          refine lv_iload hx hb dL_law_157 (lv_at hl 4 rfl) ?_
          refine lv_if_le (tgt := 187) hx hb dL_law_159 (by decide) (fun k_15 => ?_) (fun k_15 => ?_)
          · have h := br_yes h k_15
            obtain ⟨t_16, et_16, h⟩ := nm_ok h
            refine lv_iinc (v := t_16) (lv' := [(4, .int t_16), (5, .int t_3), (0, .ref b), (1, .ref ax), (3, .int x3)]) hx hb dL_law_187 hl (k := 4) rfl (by rw [et_16]; rfl) (by decide) rfl (fun ls hl => ?_)
            refine lv_goto (tgt := 92) hx hb dL_law_190 (by decide) ?_
            exact ih v_10 w_11 g_12 vt vr vd t_16 _ _ _ h hw (lv_sub hl [2, 3, 4, 0] rfl)
          · have h := br_no h k_15
            refine lv_aload_n hx hb dL_law_162 rfl (lv_at hl 2 rfl) ?_
            refine lv_iload hx hb dL_law_163 (lv_at hl 4 rfl) ?_
            refine lv_iload hx hb dL_law_165 (lv_at hl 0 rfl) ?_
            refine lv_bipush (v := 22) hx hb dL_law_167 (by decide) ?_
            refine lv_ishr hx hb dL_law_169 ?_
            refine lv_iload hx hb dL_law_170 (lv_at hl 4 rfl) ?_
            obtain ⟨r_17, c_18, h⟩ := bd_ok h
            refine x_Si (As := [.int (t_3 >>> (22 &&& 31)), .int x4]) (w' := fl [xB ax ac af ah at_ ar ad, cB G ac v_10, fB G af w_11, hB G ah g_12, tB G at_ vt, cB G ar vr, fB G ad vd]) X hw (m_L_low (G := G) (l := l) c_18) Cut.nil (va_cwS 2 hts gL_law_L_low rfl rfl rfl hd_L_low.2 ⟨Nat.le_of_ble_eq_true rfl, Nat.le_of_ble_eq_true rfl⟩) rfl hl.1 rfl (Nat.le_of_ble_eq_true rfl) dL_law_172 ⟨Nat.le_of_ble_eq_true rfl, Nat.le_of_ble_eq_true rfl⟩ (fun H locs hw => ?_)
            obtain ⟨r_19, v_20, w_21, g_22, c_23, h⟩ := bd4_ok h
            refine x_Vi (As := [.int x4, .int r_17]) (w' := fl [xB ax ac af ah at_ ar ad, cB G ac v_20, fB G af w_21, hB G ah g_22, tB G at_ vt, cB G ar vr, fB G ad vd]) X hw (m_X4_join (G := G) (l := l) (ax := ax) (ac := ac) (af := af) (ah := ah) (at_ := at_) (ar := ar) (ad := ad) c_23) (cut8 (bs' := [xB ax ac af ah at_ ar ad, cB G ac v_20, fB G af w_21, hB G ah g_22, tB G at_ vt, cB G ar vr, fB G ad vd]) 7 [0, 1, 2, 3] [4, 5, 6] [0, 1, 2, 3, 4, 5, 6] [xB ax ac af ah at_ ar ad, cB G ac v_20, fB G af w_21, hB G ah g_22] rfl (by decide +kernel) rfl rfl rfl (by decide +kernel) rfl) 0 0 rfl rfl rfl (cwV 2 hts gL_law_X4_join rfl rfl rfl hd_X4_join ⟨Nat.le_of_ble_eq_true rfl, Nat.le_of_ble_eq_true rfl⟩) rfl hl.1 rfl (Nat.le_of_ble_eq_true rfl) dL_law_175 ⟨Nat.le_of_ble_eq_true rfl, Nat.le_of_ble_eq_true rfl⟩ (fun H locs hw => ?_)
            refine lv_iload hx hb dL_law_178 (lv_at hl 4 rfl) ?_
            refine lv_iconst (v := 1) hx hb dL_law_180 (by decide) ?_
            refine lv_isub hx hb dL_law_181 ?_
            refine lv_icmp_eq (tgt := 187) hx hb dL_law_182 (by decide) (fun k_24 => ?_) (fun k_24 => ?_)
            · have h := br_yes h k_24
              obtain ⟨t_25, et_25, h⟩ := nm_ok h
              refine lv_iinc (v := t_25) (lv' := [(4, .int t_25), (5, .int t_3), (0, .ref b), (1, .ref ax), (3, .int x3)]) hx hb dL_law_187 hl (k := 4) rfl (by rw [et_25]; rfl) (by decide) rfl (fun ls hl => ?_)
              refine lv_goto (tgt := 92) hx hb dL_law_190 (by decide) ?_
              exact ih v_20 w_21 g_22 vt vr vd t_25 _ _ _ h hw (lv_sub hl [2, 3, 4, 0] rfl)
            · have h := br_no h k_24
              refine lv_iconst (v := 0) hx hb dL_law_185 (by decide) ?_
              exact absurd (show (0 : Int32) = 1 from congrArg (fun q => q.1) (Option.some.inj h)) (by decide)
        · have h := br_no h k_14
          refine lv_iconst (v := 0) hx hb dL_law_155 (by decide) ?_
          exact absurd (show (0 : Int32) = 1 from congrArg (fun q => q.1) (Option.some.inj h)) (by decide)
      · have h := br_yes h k_8
        refine lv_iconst (v := 1) hx hb dL_law_142 (by decide) ?_
        refine lv_goto (tgt := 147) hx hb dL_law_143 (by decide) ?_
        obtain ⟨r_26, v_27, w_28, g_29, c_30, h⟩ := bd4_ok h
        refine x_Vi (As := [.int (1 + r_4), .int (1 + r_6), .int 1]) (w' := fl [xB ax ac af ah at_ ar ad, cB G ac v_27, fB G af w_28, hB G ah g_29, tB G at_ vt, cB G ar vr, fB G ad vd]) X hw (m_X4_addSection (G := G) (l := l) (ax := ax) (ac := ac) (af := af) (ah := ah) (at_ := at_) (ar := ar) (ad := ad) c_30) (cut8 (bs' := [xB ax ac af ah at_ ar ad, cB G ac v_27, fB G af w_28, hB G ah g_29, tB G at_ vt, cB G ar vr, fB G ad vd]) 7 [0, 1, 2, 3] [4, 5, 6] [0, 1, 2, 3, 4, 5, 6] [xB ax ac af ah at_ ar ad, cB G ac v_27, fB G af w_28, hB G ah g_29] rfl (by decide +kernel) rfl rfl rfl (by decide +kernel) rfl) 0 0 rfl rfl rfl (cwV 3 hts gL_law_X4_addSection rfl rfl rfl hd_X4_addSection ⟨Nat.le_of_ble_eq_true rfl, Nat.le_of_ble_eq_true rfl⟩) rfl hl.1 rfl (Nat.le_of_ble_eq_true rfl) dL_law_147 ⟨Nat.le_of_ble_eq_true rfl, Nat.le_of_ble_eq_true rfl⟩ (fun H locs hw => ?_)
        refine lv_iload hx hb dL_law_150 (lv_at hl 4 rfl) ?_
        refine lv_icmp_eq (tgt := 157) hx hb dL_law_152 (by decide) (fun k_31 => ?_) (fun k_31 => ?_)
        · have h := br_yes h k_31
          refine lv_iload hx hb dL_law_157 (lv_at hl 4 rfl) ?_
          refine lv_if_le (tgt := 187) hx hb dL_law_159 (by decide) (fun k_32 => ?_) (fun k_32 => ?_)
          · have h := br_yes h k_32
            obtain ⟨t_33, et_33, h⟩ := nm_ok h
            refine lv_iinc (v := t_33) (lv' := [(4, .int t_33), (5, .int t_3), (0, .ref b), (1, .ref ax), (3, .int x3)]) hx hb dL_law_187 hl (k := 4) rfl (by rw [et_33]; rfl) (by decide) rfl (fun ls hl => ?_)
            refine lv_goto (tgt := 92) hx hb dL_law_190 (by decide) ?_
            exact ih v_27 w_28 g_29 vt vr vd t_33 _ _ _ h hw (lv_sub hl [2, 3, 4, 0] rfl)
          · have h := br_no h k_32
            refine lv_aload_n hx hb dL_law_162 rfl (lv_at hl 2 rfl) ?_
            refine lv_iload hx hb dL_law_163 (lv_at hl 4 rfl) ?_
            refine lv_iload hx hb dL_law_165 (lv_at hl 0 rfl) ?_
            refine lv_bipush (v := 22) hx hb dL_law_167 (by decide) ?_
            refine lv_ishr hx hb dL_law_169 ?_
            refine lv_iload hx hb dL_law_170 (lv_at hl 4 rfl) ?_
            obtain ⟨r_34, c_35, h⟩ := bd_ok h
            refine x_Si (As := [.int (t_3 >>> (22 &&& 31)), .int x4]) (w' := fl [xB ax ac af ah at_ ar ad, cB G ac v_27, fB G af w_28, hB G ah g_29, tB G at_ vt, cB G ar vr, fB G ad vd]) X hw (m_L_low (G := G) (l := l) c_35) Cut.nil (va_cwS 2 hts gL_law_L_low rfl rfl rfl hd_L_low.2 ⟨Nat.le_of_ble_eq_true rfl, Nat.le_of_ble_eq_true rfl⟩) rfl hl.1 rfl (Nat.le_of_ble_eq_true rfl) dL_law_172 ⟨Nat.le_of_ble_eq_true rfl, Nat.le_of_ble_eq_true rfl⟩ (fun H locs hw => ?_)
            obtain ⟨r_36, v_37, w_38, g_39, c_40, h⟩ := bd4_ok h
            refine x_Vi (As := [.int x4, .int r_34]) (w' := fl [xB ax ac af ah at_ ar ad, cB G ac v_37, fB G af w_38, hB G ah g_39, tB G at_ vt, cB G ar vr, fB G ad vd]) X hw (m_X4_join (G := G) (l := l) (ax := ax) (ac := ac) (af := af) (ah := ah) (at_ := at_) (ar := ar) (ad := ad) c_40) (cut8 (bs' := [xB ax ac af ah at_ ar ad, cB G ac v_37, fB G af w_38, hB G ah g_39, tB G at_ vt, cB G ar vr, fB G ad vd]) 7 [0, 1, 2, 3] [4, 5, 6] [0, 1, 2, 3, 4, 5, 6] [xB ax ac af ah at_ ar ad, cB G ac v_37, fB G af w_38, hB G ah g_39] rfl (by decide +kernel) rfl rfl rfl (by decide +kernel) rfl) 0 0 rfl rfl rfl (cwV 2 hts gL_law_X4_join rfl rfl rfl hd_X4_join ⟨Nat.le_of_ble_eq_true rfl, Nat.le_of_ble_eq_true rfl⟩) rfl hl.1 rfl (Nat.le_of_ble_eq_true rfl) dL_law_175 ⟨Nat.le_of_ble_eq_true rfl, Nat.le_of_ble_eq_true rfl⟩ (fun H locs hw => ?_)
            refine lv_iload hx hb dL_law_178 (lv_at hl 4 rfl) ?_
            refine lv_iconst (v := 1) hx hb dL_law_180 (by decide) ?_
            refine lv_isub hx hb dL_law_181 ?_
            refine lv_icmp_eq (tgt := 187) hx hb dL_law_182 (by decide) (fun k_41 => ?_) (fun k_41 => ?_)
            · have h := br_yes h k_41
              obtain ⟨t_42, et_42, h⟩ := nm_ok h
              refine lv_iinc (v := t_42) (lv' := [(4, .int t_42), (5, .int t_3), (0, .ref b), (1, .ref ax), (3, .int x3)]) hx hb dL_law_187 hl (k := 4) rfl (by rw [et_42]; rfl) (by decide) rfl (fun ls hl => ?_)
              refine lv_goto (tgt := 92) hx hb dL_law_190 (by decide) ?_
              exact ih v_37 w_38 g_39 vt vr vd t_42 _ _ _ h hw (lv_sub hl [2, 3, 4, 0] rfl)
            · have h := br_no h k_41
              refine lv_iconst (v := 0) hx hb dL_law_185 (by decide) ?_
              exact absurd (show (0 : Int32) = 1 from congrArg (fun q => q.1) (Option.some.inj h)) (by decide)
        · have h := br_no h k_31
          refine lv_iconst (v := 0) hx hb dL_law_155 (by decide) ?_
          exact absurd (show (0 : Int32) = 1 from congrArg (fun q => q.1) (Option.some.inj h)) (by decide)
noncomputable def f_L_law (L : Nat) (xs : Nat → Int32) (vc : CV) (vf : FV) (vh : HV) (vt : TV) (vr : CV) (vd : FV) : Option (Int32 × CV × FV × HV × TV × CV × FV) :=
  ck (¬ (0 : Int32) < 0) <|
  nm ((cellV L xs 0) : Int32) fun t_2 =>
  bd4 (f_X4_undo vc vf vh) fun r_3 v_4 w_5 g_6 =>
  br (r_3 = (-4))
    (bd6 (f_X4_load v_4 w_5 g_6 vt vr) fun r_9 v_10 w_11 g_12 u_13 v_14 =>
     br (r_9 = (-4))
       (bd (f_X4_count v_10 w_11 9) fun r_17 =>
        br (r_17 = 1)
          (bd (f_X4_count v_10 w_11 8) fun r_20 =>
           br (r_20 = 0)
             (bd3 (f_X4_bestFeeder v_10 v_14 vd) fun r_23 v_24 w_25 =>
              br (r_23 = (-1))
                (bd (f_X4_atStep v_10 w_11 0) fun r_28 =>
                 br (r_28 = (-1))
                   (bd3 (f_X4_leastFeeder v_10 v_24 w_25 0) fun r_31 v_32 w_33 =>
                    br (r_31 = (-2))
                      (bd (f_L_low t_2 6) fun r_36 =>
                       nm ((2 + r_36) : Int32) fun t_38 =>
                       f_L_law_b92 L xs t_38 FU v_10 w_11 g_12 u_13 v_32 w_33 0)
                      (some (0, v_10, w_11, g_12, u_13, v_32, w_33)))
                   (some (0, v_10, w_11, g_12, u_13, v_24, w_25)))
                (some (0, v_10, w_11, g_12, u_13, v_24, w_25)))
             (some (0, v_10, w_11, g_12, u_13, v_14, vd)))
          (some (0, v_10, w_11, g_12, u_13, v_14, vd)))
       (some (0, v_10, w_11, g_12, u_13, v_14, vd)))
    (some (0, v_4, w_5, g_6, vt, vr, vd))
set_option maxHeartbeats 4000000 in
set_option maxRecDepth 100000 in
theorem w_L_law {G : GG} {l : Launch} {p : Program} {e : Env} {s : State} {m : MethodId} {b L : Nat} {xs : Nat → Int32} {Q : State → Prop} {below : List Frame} {meth : Method} {c : Code} {A : Nat → Prop} {ax : Nat} {ac af ah at_ ar ad : Nat → Nat} {vc : CV} {vf : FV} {vh : HV} {vt : TV} {vr : CV} {vd : FV} {zvc : CV} {zvf : FV} {zvh : HV} {zvt : TV} {zvr : CV} {zvd : FV} (X : Cx p s m #[Value.ref b] meth c cL_law 9 ret wsL_law RL G A) (hX : va_X b L xs s s.heap) (hbl : b < s.heap.size) (hbA : ¬ A b) (hL : L < 2 ^ 31) (KE : ∀ (H : Heap) (locs : List Loc) (ls : Array Slot), Wd G A s H locs (fl [xB ax ac af ah at_ ar ad, cB G ac zvc, fB G af zvf, hB G ah zvh, tB G at_ zvt, cB G ar zvr, fB G ad zvd]) → W p l e room_1 s m #[Value.ref b] below meth c H locs 600000 7302250 Q (F0 m 499 ls [.int 1])) {H : Heap} {locs : List Loc} {ls : Array Slot} (h : f_L_law L xs vc vf vh vt vr vd = some (1, zvc, zvf, zvh, zvt, zvr, zvd)) (hw : Wd G A s H locs (fl [xB ax ac af ah at_ ar ad, cB G ac vc, fB G af vf, hB G ah vh, tB G at_ vt, cB G ar vr, fB G ad vd])) (hl : lv_has ls 9 [(1, .ref ax), (0, .ref b)]) : W p l e room_1 s m #[Value.ref b] below meth c H locs 600000 7302250 Q (F0 m 8 ls []) := by
  obtain ⟨⟨hx, hb, hml, hown, hts⟩, hK, hr, hlk, hA⟩ := id X
  unfold f_L_law at h
  refine lv_aload_n hx hb dL_law_8 rfl (lv_at hl 1 rfl) ?_
  refine lv_iconst (v := 0) hx hb dL_law_9 (by decide) ?_
  obtain ⟨k_1, h⟩ := ck_ok h
  refine x_cell (k := 0) X hX hbl hbA hL hw k_1 hl.1 (Nat.le_of_ble_eq_true rfl) dL_law_10 (fun H locs hw => ?_)
  obtain ⟨t_2, et_2, h⟩ := nm_ok h
  refine lv_istore_n (lv' := [(2, .int t_2), (1, .ref ax), (0, .ref b)]) hx hb dL_law_13 rfl hl (by decide) (by rw [et_2]; rfl) (fun ls hl => ?_)
  refine lv_aload_n hx hb dL_law_14 rfl (lv_at hl 1 rfl) ?_
  obtain ⟨r_3, v_4, w_5, g_6, c_7, h⟩ := bd4_ok h
  refine x_Vi (As := []) (w' := fl [xB ax ac af ah at_ ar ad, cB G ac v_4, fB G af w_5, hB G ah g_6, tB G at_ vt, cB G ar vr, fB G ad vd]) X hw (m_X4_undo (G := G) (l := l) (ax := ax) (ac := ac) (af := af) (ah := ah) (at_ := at_) (ar := ar) (ad := ad) c_7) (cut8 (bs' := [xB ax ac af ah at_ ar ad, cB G ac v_4, fB G af w_5, hB G ah g_6, tB G at_ vt, cB G ar vr, fB G ad vd]) 7 [0, 1, 2, 3] [4, 5, 6] [0, 1, 2, 3, 4, 5, 6] [xB ax ac af ah at_ ar ad, cB G ac v_4, fB G af w_5, hB G ah g_6] rfl (by decide +kernel) rfl rfl rfl (by decide +kernel) rfl) 0 0 rfl rfl rfl (cwV 0 hts gL_law_X4_undo rfl rfl rfl hd_X4_undo ⟨Nat.le_of_ble_eq_true rfl, Nat.le_of_ble_eq_true rfl⟩) rfl hl.1 rfl (Nat.le_of_ble_eq_true rfl) dL_law_15 ⟨Nat.le_of_ble_eq_true rfl, Nat.le_of_ble_eq_true rfl⟩ (fun H locs hw => ?_)
  refine lv_bipush (v := (-4)) hx hb dL_law_18 (by decide) ?_
  refine lv_icmp_ne (tgt := 78) hx hb dL_law_20 (by decide) (fun k_8 => ?_) (fun k_8 => ?_)
  · have h := br_no h k_8
    refine lv_iconst (v := 0) hx hb dL_law_78 (by decide) ?_
    exact absurd (show (0 : Int32) = 1 from congrArg (fun q => q.1) (Option.some.inj h)) (by decide)
  · have h := br_yes h k_8
    refine lv_aload_n hx hb dL_law_23 rfl (lv_at hl 1 rfl) ?_
    obtain ⟨r_9, v_10, w_11, g_12, u_13, v_14, c_15, h⟩ := bd6_ok h
    refine x_Vi (As := []) (w' := fl [xB ax ac af ah at_ ar ad, cB G ac v_10, fB G af w_11, hB G ah g_12, tB G at_ u_13, cB G ar v_14, fB G ad vd]) X hw (m_X4_load (G := G) (l := l) (ax := ax) (ac := ac) (af := af) (ah := ah) (at_ := at_) (ar := ar) (ad := ad) c_15) (cut8 (bs' := [xB ax ac af ah at_ ar ad, cB G ac v_10, fB G af w_11, hB G ah g_12, tB G at_ u_13, cB G ar v_14, fB G ad vd]) 7 [0, 1, 2, 3, 4, 5] [6] [0, 1, 2, 3, 4, 5, 6] [xB ax ac af ah at_ ar ad, cB G ac v_10, fB G af w_11, hB G ah g_12, tB G at_ u_13, cB G ar v_14] rfl (by decide +kernel) rfl rfl rfl (by decide +kernel) rfl) 0 0 rfl rfl rfl (cwV 0 hts gL_law_X4_load rfl rfl rfl hd_X4_load ⟨Nat.le_of_ble_eq_true rfl, Nat.le_of_ble_eq_true rfl⟩) rfl hl.1 rfl (Nat.le_of_ble_eq_true rfl) dL_law_24 ⟨Nat.le_of_ble_eq_true rfl, Nat.le_of_ble_eq_true rfl⟩ (fun H locs hw => ?_)
    refine lv_bipush (v := (-4)) hx hb dL_law_27 (by decide) ?_
    refine lv_icmp_ne (tgt := 78) hx hb dL_law_29 (by decide) (fun k_16 => ?_) (fun k_16 => ?_)
    · have h := br_no h k_16
      refine lv_iconst (v := 0) hx hb dL_law_78 (by decide) ?_
      exact absurd (show (0 : Int32) = 1 from congrArg (fun q => q.1) (Option.some.inj h)) (by decide)
    · have h := br_yes h k_16
      refine lv_aload_n hx hb dL_law_32 rfl (lv_at hl 1 rfl) ?_
      refine lv_bipush (v := 9) hx hb dL_law_33 (by decide) ?_
      obtain ⟨r_17, c_18, h⟩ := bd_ok h
      refine x_Vi (As := [.int 9]) (w' := fl [xB ax ac af ah at_ ar ad, cB G ac v_10, fB G af w_11, hB G ah g_12, tB G at_ u_13, cB G ar v_14, fB G ad vd]) X hw (m_X4_count (G := G) (l := l) (ax := ax) (ac := ac) (af := af) (ah := ah) (at_ := at_) (ar := ar) (ad := ad) c_18) (cut8 (bs' := [xB ax ac af ah at_ ar ad, cB G ac v_10, fB G af w_11, hB G ah g_12, tB G at_ u_13, cB G ar v_14, fB G ad vd]) 7 [0, 1, 2] [3, 4, 5, 6] [0, 1, 2, 3, 4, 5, 6] [xB ax ac af ah at_ ar ad, cB G ac v_10, fB G af w_11] rfl (by decide +kernel) rfl rfl rfl (by decide +kernel) rfl) 0 0 rfl rfl rfl (cwV 1 hts gL_law_X4_count rfl rfl rfl hd_X4_count ⟨Nat.le_of_ble_eq_true rfl, Nat.le_of_ble_eq_true rfl⟩) rfl hl.1 rfl (Nat.le_of_ble_eq_true rfl) dL_law_35 ⟨Nat.le_of_ble_eq_true rfl, Nat.le_of_ble_eq_true rfl⟩ (fun H locs hw => ?_)
      refine lv_iconst (v := 1) hx hb dL_law_38 (by decide) ?_
      refine lv_icmp_ne (tgt := 78) hx hb dL_law_39 (by decide) (fun k_19 => ?_) (fun k_19 => ?_)
      · have h := br_no h k_19
        refine lv_iconst (v := 0) hx hb dL_law_78 (by decide) ?_
        exact absurd (show (0 : Int32) = 1 from congrArg (fun q => q.1) (Option.some.inj h)) (by decide)
      · have h := br_yes h k_19
        refine lv_aload_n hx hb dL_law_42 rfl (lv_at hl 1 rfl) ?_
        refine lv_bipush (v := 8) hx hb dL_law_43 (by decide) ?_
        obtain ⟨r_20, c_21, h⟩ := bd_ok h
        refine x_Vi (As := [.int 8]) (w' := fl [xB ax ac af ah at_ ar ad, cB G ac v_10, fB G af w_11, hB G ah g_12, tB G at_ u_13, cB G ar v_14, fB G ad vd]) X hw (m_X4_count (G := G) (l := l) (ax := ax) (ac := ac) (af := af) (ah := ah) (at_ := at_) (ar := ar) (ad := ad) c_21) (cut8 (bs' := [xB ax ac af ah at_ ar ad, cB G ac v_10, fB G af w_11, hB G ah g_12, tB G at_ u_13, cB G ar v_14, fB G ad vd]) 7 [0, 1, 2] [3, 4, 5, 6] [0, 1, 2, 3, 4, 5, 6] [xB ax ac af ah at_ ar ad, cB G ac v_10, fB G af w_11] rfl (by decide +kernel) rfl rfl rfl (by decide +kernel) rfl) 0 0 rfl rfl rfl (cwV 1 hts gL_law_X4_count rfl rfl rfl hd_X4_count ⟨Nat.le_of_ble_eq_true rfl, Nat.le_of_ble_eq_true rfl⟩) rfl hl.1 rfl (Nat.le_of_ble_eq_true rfl) dL_law_45 ⟨Nat.le_of_ble_eq_true rfl, Nat.le_of_ble_eq_true rfl⟩ (fun H locs hw => ?_)
        refine lv_if_ne (tgt := 78) hx hb dL_law_48 (by decide) (fun k_22 => ?_) (fun k_22 => ?_)
        · have h := br_no h k_22
          refine lv_iconst (v := 0) hx hb dL_law_78 (by decide) ?_
          exact absurd (show (0 : Int32) = 1 from congrArg (fun q => q.1) (Option.some.inj h)) (by decide)
        · have h := br_yes h k_22
          refine lv_aload_n hx hb dL_law_51 rfl (lv_at hl 1 rfl) ?_
          obtain ⟨r_23, v_24, w_25, c_26, h⟩ := bd3_ok h
          refine x_Vi (As := []) (w' := fl [xB ax ac af ah at_ ar ad, cB G ac v_10, fB G af w_11, hB G ah g_12, tB G at_ u_13, cB G ar v_24, fB G ad w_25]) X hw (m_X4_bestFeeder (G := G) (l := l) (ax := ax) (ac := ac) (af := af) (ah := ah) (at_ := at_) (ar := ar) (ad := ad) c_26) (cut8 (bs' := [xB ax ac af ah at_ ar ad, cB G ac v_10, fB G af w_11, hB G ah g_12, tB G at_ u_13, cB G ar v_24, fB G ad w_25]) 7 [0, 1, 5, 6] [2, 3, 4] [0, 1, 4, 5, 6, 2, 3] [xB ax ac af ah at_ ar ad, cB G ac v_10, cB G ar v_24, fB G ad w_25] rfl (by decide +kernel) rfl rfl rfl (by decide +kernel) rfl) 0 0 rfl rfl rfl (cwV 0 hts gL_law_X4_bestFeeder rfl rfl rfl hd_X4_bestFeeder ⟨Nat.le_of_ble_eq_true rfl, Nat.le_of_ble_eq_true rfl⟩) rfl hl.1 rfl (Nat.le_of_ble_eq_true rfl) dL_law_52 ⟨Nat.le_of_ble_eq_true rfl, Nat.le_of_ble_eq_true rfl⟩ (fun H locs hw => ?_)
          refine lv_iconst (v := (-1)) hx hb dL_law_55 (by decide) ?_
          refine lv_icmp_ne (tgt := 78) hx hb dL_law_56 (by decide) (fun k_27 => ?_) (fun k_27 => ?_)
          · have h := br_no h k_27
            refine lv_iconst (v := 0) hx hb dL_law_78 (by decide) ?_
            exact absurd (show (0 : Int32) = 1 from congrArg (fun q => q.1) (Option.some.inj h)) (by decide)
          · have h := br_yes h k_27
            refine lv_aload_n hx hb dL_law_59 rfl (lv_at hl 1 rfl) ?_
            refine lv_iconst (v := 0) hx hb dL_law_60 (by decide) ?_
            obtain ⟨r_28, c_29, h⟩ := bd_ok h
            refine x_Vi (As := [.int 0]) (w' := fl [xB ax ac af ah at_ ar ad, cB G ac v_10, fB G af w_11, hB G ah g_12, tB G at_ u_13, cB G ar v_24, fB G ad w_25]) X hw (m_X4_atStep (G := G) (l := l) (ax := ax) (ac := ac) (af := af) (ah := ah) (at_ := at_) (ar := ar) (ad := ad) c_29) (cut8 (bs' := [xB ax ac af ah at_ ar ad, cB G ac v_10, fB G af w_11, hB G ah g_12, tB G at_ u_13, cB G ar v_24, fB G ad w_25]) 7 [0, 1, 2] [3, 4, 5, 6] [0, 1, 2, 3, 4, 5, 6] [xB ax ac af ah at_ ar ad, cB G ac v_10, fB G af w_11] rfl (by decide +kernel) rfl rfl rfl (by decide +kernel) rfl) 0 0 rfl rfl rfl (cwV 1 hts gL_law_X4_atStep rfl rfl rfl hd_X4_atStep ⟨Nat.le_of_ble_eq_true rfl, Nat.le_of_ble_eq_true rfl⟩) rfl hl.1 rfl (Nat.le_of_ble_eq_true rfl) dL_law_61 ⟨Nat.le_of_ble_eq_true rfl, Nat.le_of_ble_eq_true rfl⟩ (fun H locs hw => ?_)
            refine lv_iconst (v := (-1)) hx hb dL_law_64 (by decide) ?_
            refine lv_icmp_ne (tgt := 78) hx hb dL_law_65 (by decide) (fun k_30 => ?_) (fun k_30 => ?_)
            · have h := br_no h k_30
              refine lv_iconst (v := 0) hx hb dL_law_78 (by decide) ?_
              exact absurd (show (0 : Int32) = 1 from congrArg (fun q => q.1) (Option.some.inj h)) (by decide)
            · have h := br_yes h k_30
              refine lv_aload_n hx hb dL_law_68 rfl (lv_at hl 1 rfl) ?_
              refine lv_iconst (v := 0) hx hb dL_law_69 (by decide) ?_
              obtain ⟨r_31, v_32, w_33, c_34, h⟩ := bd3_ok h
              refine x_Vi (As := [.int 0]) (w' := fl [xB ax ac af ah at_ ar ad, cB G ac v_10, fB G af w_11, hB G ah g_12, tB G at_ u_13, cB G ar v_32, fB G ad w_33]) X hw (m_X4_leastFeeder (G := G) (l := l) (ax := ax) (ac := ac) (af := af) (ah := ah) (at_ := at_) (ar := ar) (ad := ad) c_34) (cut8 (bs' := [xB ax ac af ah at_ ar ad, cB G ac v_10, fB G af w_11, hB G ah g_12, tB G at_ u_13, cB G ar v_32, fB G ad w_33]) 7 [0, 1, 5, 6] [2, 3, 4] [0, 1, 4, 5, 6, 2, 3] [xB ax ac af ah at_ ar ad, cB G ac v_10, cB G ar v_32, fB G ad w_33] rfl (by decide +kernel) rfl rfl rfl (by decide +kernel) rfl) 0 0 rfl rfl rfl (cwV 1 hts gL_law_X4_leastFeeder rfl rfl rfl hd_X4_leastFeeder ⟨Nat.le_of_ble_eq_true rfl, Nat.le_of_ble_eq_true rfl⟩) rfl hl.1 rfl (Nat.le_of_ble_eq_true rfl) dL_law_70 ⟨Nat.le_of_ble_eq_true rfl, Nat.le_of_ble_eq_true rfl⟩ (fun H locs hw => ?_)
              refine lv_bipush (v := (-2)) hx hb dL_law_73 (by decide) ?_
              refine lv_icmp_eq (tgt := 80) hx hb dL_law_75 (by decide) (fun k_35 => ?_) (fun k_35 => ?_)
              · have h := br_yes h k_35
                refine lv_iconst (v := 2) hx hb dL_law_80 (by decide) ?_
                refine lv_iload_n hx hb dL_law_81 rfl (lv_at hl 0 rfl) ?_
                refine lv_bipush (v := 6) hx hb dL_law_82 (by decide) ?_
                obtain ⟨r_36, c_37, h⟩ := bd_ok h
                refine x_Si (As := [.int t_2, .int 6]) (w' := fl [xB ax ac af ah at_ ar ad, cB G ac v_10, fB G af w_11, hB G ah g_12, tB G at_ u_13, cB G ar v_32, fB G ad w_33]) X hw (m_L_low (G := G) (l := l) c_37) Cut.nil (va_cwS 2 hts gL_law_L_low rfl rfl rfl hd_L_low.2 ⟨Nat.le_of_ble_eq_true rfl, Nat.le_of_ble_eq_true rfl⟩) rfl hl.1 rfl (Nat.le_of_ble_eq_true rfl) dL_law_84 ⟨Nat.le_of_ble_eq_true rfl, Nat.le_of_ble_eq_true rfl⟩ (fun H locs hw => ?_)
                refine lv_iadd hx hb dL_law_87 ?_
                obtain ⟨t_38, et_38, h⟩ := nm_ok h
                refine lv_istore_n (lv' := [(3, .int t_38), (2, .int t_2), (1, .ref ax), (0, .ref b)]) hx hb dL_law_88 rfl hl (by decide) (by rw [et_38]; rfl) (fun ls hl => ?_)
                refine lv_iconst (v := 0) hx hb dL_law_89 (by decide) ?_
                refine lv_istore (lv' := [(4, .int 0), (3, .int t_38), (2, .int t_2), (1, .ref ax), (0, .ref b)]) hx hb dL_law_90 hl (by decide) rfl (fun ls hl => ?_)
                exact w_L_law_b92 X hX hbl hbA hL KE FU v_10 w_11 g_12 u_13 v_32 w_33 0 _ _ _ h hw (lv_sub hl [4, 3, 1, 0] rfl)
              · have h := br_no h k_35
                refine lv_iconst (v := 0) hx hb dL_law_78 (by decide) ?_
                exact absurd (show (0 : Int32) = 1 from congrArg (fun q => q.1) (Option.some.inj h)) (by decide)
