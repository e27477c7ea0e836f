def rX1_offer : Room := { frames := 1, cells := 0, slots := 0, locals := 22 }
theorem hd_X1_offer : yX1_offer.cls = RX1 ∧ yX1_offer.cls ≠ "java/lang/invoke/MethodHandle" ∧ yX1_offer.cls ≠ "java/lang/invoke/VarHandle" ∧ (parseMethodDescriptor yX1_offer.desc).map (fun d => d.parameters.length) = some 2 := by decide +kernel
theorem in_X1_offer_1 : ∀ w ∈ u_ws RX1 TX1 7, w ∈ wsX1_offer := fun w h => (List.mem_cons_of_mem _ (List.mem_append_right _ h))
noncomputable def f_X1_offer  (w : FV) (x1 : Int32) (x2 : Int32) : Option (FV) :=
  bd (f_X4_at 12 (F_st w) x2) fun r_1 =>
  bd (f_X4_at 12 (F_st w) x1) fun r_3 =>
  br (r_1 ≤ r_3)
    (some (w))
    (bd (f_X4_at 12 (F_so w) x1) fun r_6 =>
     bd (f_X4_at 12 (F_st w) r_6) fun r_8 =>
     br (r_1 ≤ r_8)
       (some (w))
       (bd (f_X4_put 12 (F_so w) x1 x2) fun g_11 =>
        some (((F_se w), (F_st w), (F_od w), g_11, (F_ne w), (F_po w), (F_ex w)))))
set_option maxHeartbeats 4000000 in
set_option maxRecDepth 100000 in
theorem m_X1_offer {G : GG} {l : Launch} {b : Nat → Nat} {w : FV} {x1 : Int32} {x2 : Int32} {zw : FV} (h : f_X1_offer w x1 x2 = some (zw)) : Cv G l yX1_offer wsX1_offer rX1_offer [.ref (b 0), .int x1, .int x2] (fl [fB G b w]) (fl [fB G b zw]) := by
  refine Cv.intro cX1_offer 4 none RX1 (by decide) rfl rfl (Nat.le_of_ble_eq_true rfl) ?_
  intro p e s m below meth c A ls X hw hl
  obtain ⟨⟨hx, hb, hml, hown, hts⟩, hK, hr, hlk, hA⟩ := id X
  unfold f_X1_offer at h
  have hl : lv_has ls 4 [(0, .ref (b 0)), (1, .int x1), (2, .int x2)] := hl
  refine lv_aload_n hx hb dX1_offer_0 rfl (lv_at hl 0 rfl) ?_
  refine x_get (v := .ref (b 1)) 0 0 X hw in_X1_offer_1 rfl rfl rfl 1 (by decide) (List.mem_of_getElem? (i := 1) rfl) rfl rfl dX1_offer_1 ?_
  refine lv_iload_n hx hb dX1_offer_4 rfl (lv_at hl 2 rfl) ?_
  obtain ⟨r_1, c_2, h⟩ := bd_ok h
  refine x_Ni (As := [.ref (b 1), .int x2]) (w' := fl [fB G b w]) X hw (m_X4_at (G := G) (l := l) (q := (b 1)) c_2) (Cut.cellr 0 1 rfl rfl) ⟨va_cnB 2 hts gX1_offer_X4_at_n67 rfl rfl rfl (hK.2.1 _ (List.mem_of_getElem? (i := 6) rfl)) (hts _ (List.mem_of_getElem? (i := 4) rfl)) hd_X4_at.2 ⟨Nat.le_of_ble_eq_true rfl, Nat.le_of_ble_eq_true rfl⟩, hts _ (List.mem_of_getElem? (i := 3) rfl), trivial⟩ rfl hl.1 rfl (Nat.le_of_ble_eq_true rfl) dX1_offer_5 ⟨Nat.le_of_ble_eq_true rfl, Nat.le_of_ble_eq_true rfl⟩ (fun H locs hw => ?_)
  refine lv_istore_n (lv' := [(3, .int r_1), (0, .ref (b 0)), (1, .int x1), (2, .int x2)]) hx hb dX1_offer_8 rfl hl (by decide) rfl (fun ls hl => ?_)
  refine lv_iload_n hx hb dX1_offer_9 rfl (lv_at hl 0 rfl) ?_
  refine lv_aload_n hx hb dX1_offer_10 rfl (lv_at hl 1 rfl) ?_
  refine x_get (v := .ref (b 1)) 0 0 X hw in_X1_offer_1 rfl rfl rfl 1 (by decide) (List.mem_of_getElem? (i := 1) rfl) rfl rfl dX1_offer_11 ?_
  refine lv_iload_n hx hb dX1_offer_14 rfl (lv_at hl 2 rfl) ?_
  obtain ⟨r_3, c_4, h⟩ := bd_ok h
  refine x_Ni (As := [.ref (b 1), .int x1]) (w' := fl [fB G b w]) X hw (m_X4_at (G := G) (l := l) (q := (b 1)) c_4) (Cut.cellr 0 1 rfl rfl) ⟨va_cnB 2 hts gX1_offer_X4_at_n67 rfl rfl rfl (hK.2.1 _ (List.mem_of_getElem? (i := 6) rfl)) (hts _ (List.mem_of_getElem? (i := 4) rfl)) hd_X4_at.2 ⟨Nat.le_of_ble_eq_true rfl, Nat.le_of_ble_eq_true rfl⟩, hts _ (List.mem_of_getElem? (i := 3) rfl), trivial⟩ rfl hl.1 rfl (Nat.le_of_ble_eq_true rfl) dX1_offer_15 ⟨Nat.le_of_ble_eq_true rfl, Nat.le_of_ble_eq_true rfl⟩ (fun H locs hw => ?_)
  refine lv_icmp_le (tgt := 49) hx hb dX1_offer_18 (by decide) (fun k_5 => ?_) (fun k_5 => ?_)
  · have h := br_yes h k_5
    cases h
    exact x_vret X hw rfl dX1_offer_49
  · have h := br_no h k_5
    refine lv_iload_n hx hb dX1_offer_21 rfl (lv_at hl 0 rfl) ?_
    refine lv_aload_n hx hb dX1_offer_22 rfl (lv_at hl 1 rfl) ?_
    refine x_get (v := .ref (b 1)) 0 0 X hw in_X1_offer_1 rfl rfl rfl 1 (by decide) (List.mem_of_getElem? (i := 1) rfl) rfl rfl dX1_offer_23 ?_
    refine lv_aload_n hx hb dX1_offer_26 rfl (lv_at hl 1 rfl) ?_
    refine x_get (v := .ref (b 3)) 0 0 X hw in_X1_offer_1 rfl rfl rfl 3 (by decide) (List.mem_of_getElem? (i := 2) rfl) rfl rfl dX1_offer_27 ?_
    refine lv_iload_n hx hb dX1_offer_30 rfl (lv_at hl 2 rfl) ?_
    obtain ⟨r_6, c_7, h⟩ := bd_ok h
    refine x_Ni (As := [.ref (b 3), .int x1]) (w' := fl [fB G b w]) X hw (m_X4_at (G := G) (l := l) (q := (b 3)) c_7) (Cut.cellr 0 3 rfl rfl) ⟨va_cnB 2 hts gX1_offer_X4_at_n67 rfl rfl rfl (hK.2.1 _ (List.mem_of_getElem? (i := 6) rfl)) (hts _ (List.mem_of_getElem? (i := 4) rfl)) hd_X4_at.2 ⟨Nat.le_of_ble_eq_true rfl, Nat.le_of_ble_eq_true rfl⟩, hts _ (List.mem_of_getElem? (i := 3) rfl), trivial⟩ rfl hl.1 rfl (Nat.le_of_ble_eq_true rfl) dX1_offer_31 ⟨Nat.le_of_ble_eq_true rfl, Nat.le_of_ble_eq_true rfl⟩ (fun H locs hw => ?_)
    obtain ⟨r_8, c_9, h⟩ := bd_ok h
    refine x_Ni (As := [.ref (b 1), .int r_6]) (w' := fl [fB G b w]) X hw (m_X4_at (G := G) (l := l) (q := (b 1)) c_9) (Cut.cellr 0 1 rfl rfl) ⟨va_cnB 2 hts gX1_offer_X4_at_n67 rfl rfl rfl (hK.2.1 _ (List.mem_of_getElem? (i := 6) rfl)) (hts _ (List.mem_of_getElem? (i := 4) rfl)) hd_X4_at.2 ⟨Nat.le_of_ble_eq_true rfl, Nat.le_of_ble_eq_true rfl⟩, hts _ (List.mem_of_getElem? (i := 3) rfl), trivial⟩ rfl hl.1 rfl (Nat.le_of_ble_eq_true rfl) dX1_offer_34 ⟨Nat.le_of_ble_eq_true rfl, Nat.le_of_ble_eq_true rfl⟩ (fun H locs hw => ?_)
    refine lv_icmp_le (tgt := 49) hx hb dX1_offer_37 (by decide) (fun k_10 => ?_) (fun k_10 => ?_)
    · have h := br_yes h k_10
      cases h
      exact x_vret X hw rfl dX1_offer_49
    · have h := br_no h k_10
      refine lv_aload_n hx hb dX1_offer_40 rfl (lv_at hl 1 rfl) ?_
      refine x_get (v := .ref (b 3)) 0 0 X hw in_X1_offer_1 rfl rfl rfl 3 (by decide) (List.mem_of_getElem? (i := 2) rfl) rfl rfl dX1_offer_41 ?_
      refine lv_iload_n hx hb dX1_offer_44 rfl (lv_at hl 2 rfl) ?_
      refine lv_iload_n hx hb dX1_offer_45 rfl (lv_at hl 3 rfl) ?_
      obtain ⟨g_11, c_12, h⟩ := bd_ok h
      refine x_Nv (As := [.ref (b 3), .int x1, .int x2]) (w' := fl [fB G b ((F_se w), (F_st w), (F_od w), g_11, (F_ne w), (F_po w), (F_ex w))]) X hw (m_X4_put (G := G) (l := l) (q := (b 3)) c_12) (Cut.cell (bs' := [fB G b ((F_se w), (F_st w), (F_od w), g_11, (F_ne w), (F_po w), (F_ex w))]) 0 3 rfl rfl rfl) ⟨va_cnB 3 hts gX1_offer_X4_put_n47 rfl rfl rfl (hK.2.1 _ (List.mem_of_getElem? (i := 5) rfl)) (hts _ (List.mem_of_getElem? (i := 4) rfl)) hd_X4_put.2 ⟨Nat.le_of_ble_eq_true rfl, Nat.le_of_ble_eq_true rfl⟩, hts _ (List.mem_of_getElem? (i := 6) rfl), trivial⟩ rfl hl.1 rfl (Nat.le_of_ble_eq_true rfl) dX1_offer_46 ⟨Nat.le_of_ble_eq_true rfl, Nat.le_of_ble_eq_true rfl⟩ (fun H locs hw => ?_)
      cases h
      exact x_vret X hw rfl dX1_offer_49

def rX1_findSources : Room := { frames := 2, cells := 0, slots := 0, locals := 45 }
theorem hd_X1_findSources : yX1_findSources.cls = RX1 ∧ yX1_findSources.cls ≠ "java/lang/invoke/MethodHandle" ∧ yX1_findSources.cls ≠ "java/lang/invoke/VarHandle" ∧ (parseMethodDescriptor yX1_findSources.desc).map (fun d => d.parameters.length) = some 1 := by decide +kernel
theorem in_X1_findSources_0 : ∀ w ∈ u_ws RX0 TX0 10, w ∈ wsX1_findSources := fun w h => (List.mem_cons_of_mem _ (List.mem_append_right _ h))
theorem in_X1_findSources_1 : ∀ w ∈ u_ws RX1 TX1 7, w ∈ wsX1_findSources := fun w h => (List.mem_cons_of_mem _ (List.mem_append_left _ (List.mem_append_right _ h)))
noncomputable def f_X1_findSources_b25  (v : CV) : Nat → FV → Int32 → Option (FV)
  | 0 => fun _ _ => none
  | n + 1 => fun w x2 =>
    br ((C_jo v) ≤ x2)
      (some (w))
      (bd (f_X4_at 20 (C_fi v) x2) fun r_2 =>
       bd (f_X4_at 20 (C_sd v) x2) fun r_4 =>
       bd (f_X1_offer w r_2 r_4) fun w_6 =>
       bd (f_X1_offer w_6 r_4 r_2) fun w_8 =>
       nm (x2 + 1 : Int32) fun t_10 =>
       f_X1_findSources_b25 v n w_8 t_10)
set_option maxHeartbeats 4000000 in
set_option maxRecDepth 100000 in
theorem w_X1_findSources_b25 {G : GG} {l : Launch} {p : Program} {e : Env} {s : State} {m : MethodId} {args : Array Value} {below : List Frame} {meth : Method} {c : Code} {A : Nat → Prop} {b : Nat → Nat} {a : Nat → Nat} {v : CV} {zw : FV}   (X : Cx p s m args meth c cX1_findSources 5 none wsX1_findSources RX1 G A)  :
    ∀ (n : Nat) (w : FV) (x2 : Int32) (H : Heap) (locs : List Loc) (ls : Array Slot), f_X1_findSources_b25 v n w x2 = some (zw) → Wd G A s H locs (fl [fB G b w, cB G a v]) → lv_has ls 5 [(0, .ref (b 0)), (1, .ref (a 0)), (2, .int x2)] → W p l e rX1_findSources s m args below meth c H locs 0 0 (MQ below (Qv G A (fl [fB G b zw, cB G a v])) args s 0 0 A) (F0 m 25 ls []) := by
  obtain ⟨⟨hx, hb, hml, hown, hts⟩, hK, hr, hlk, hA⟩ := id X
  intro n
  induction n with
  | zero =>
    intro w x2 H locs ls h
    rw [f_X1_findSources_b25] at h
    cases h
  | succ n ih =>
    intro w x2 H locs ls h hw hl
    rw [f_X1_findSources_b25] at h
    refine lv_iload_n hx hb dX1_findSources_25 rfl (lv_at hl 2 rfl) ?_
    refine lv_aload_n hx hb dX1_findSources_26 rfl (lv_at hl 1 rfl) ?_
    refine x_get (v := .int (C_jo v)) 1 0 X hw in_X1_findSources_0 rfl rfl rfl 1 (by decide) (List.mem_of_getElem? (i := 3) rfl) rfl rfl dX1_findSources_27 ?_
    refine lv_icmp_ge (tgt := 72) hx hb dX1_findSources_30 (by decide) (fun k_1 => ?_) (fun k_1 => ?_)
    · have h := br_yes h k_1
      cases h
      exact x_vret X hw rfl dX1_findSources_72
    · have h := br_no h k_1
      refine lv_aload_n hx hb dX1_findSources_33 rfl (lv_at hl 1 rfl) ?_
      refine x_get (v := .ref (a 5)) 1 0 X hw in_X1_findSources_0 rfl rfl rfl 8 (by decide) (List.mem_of_getElem? (i := 4) rfl) rfl rfl dX1_findSources_34 ?_
      refine lv_iload_n hx hb dX1_findSources_37 rfl (lv_at hl 2 rfl) ?_
      obtain ⟨r_2, c_3, h⟩ := bd_ok h
      refine x_Ni (As := [.ref (a 5), .int x2]) (w' := fl [fB G b w, cB G a v]) X hw (m_X4_at (G := G) (l := l) (q := (a 5)) c_3) (Cut.cellr 1 5 rfl rfl) ⟨va_cnB 2 hts gX1_findSources_X4_at_n67 rfl rfl rfl (hK.2.1 _ (List.mem_of_getElem? (i := 6) rfl)) (hts _ (List.mem_of_getElem? (i := 7) rfl)) hd_X4_at.2 ⟨Nat.le_of_ble_eq_true rfl, Nat.le_of_ble_eq_true rfl⟩, hts _ (List.mem_of_getElem? (i := 6) rfl), trivial⟩ rfl hl.1 rfl (Nat.le_of_ble_eq_true rfl) dX1_findSources_38 ⟨Nat.le_of_ble_eq_true rfl, Nat.le_of_ble_eq_true rfl⟩ (fun H locs hw => ?_)
      refine lv_istore_n (lv' := [(3, .int r_2), (0, .ref (b 0)), (1, .ref (a 0)), (2, .int x2)]) hx hb dX1_findSources_41 rfl hl (by decide) rfl (fun ls hl => ?_)
      refine lv_aload_n hx hb dX1_findSources_42 rfl (lv_at hl 2 rfl) ?_
      refine x_get (v := .ref (a 6)) 1 0 X hw in_X1_findSources_0 rfl rfl rfl 9 (by decide) (List.mem_of_getElem? (i := 5) rfl) rfl rfl dX1_findSources_43 ?_
      refine lv_iload_n hx hb dX1_findSources_46 rfl (lv_at hl 3 rfl) ?_
      obtain ⟨r_4, c_5, h⟩ := bd_ok h
      refine x_Ni (As := [.ref (a 6), .int x2]) (w' := fl [fB G b w, cB G a v]) X hw (m_X4_at (G := G) (l := l) (q := (a 6)) c_5) (Cut.cellr 1 6 rfl rfl) ⟨va_cnB 2 hts gX1_findSources_X4_at_n67 rfl rfl rfl (hK.2.1 _ (List.mem_of_getElem? (i := 6) rfl)) (hts _ (List.mem_of_getElem? (i := 7) rfl)) hd_X4_at.2 ⟨Nat.le_of_ble_eq_true rfl, Nat.le_of_ble_eq_true rfl⟩, hts _ (List.mem_of_getElem? (i := 6) rfl), trivial⟩ rfl hl.1 rfl (Nat.le_of_ble_eq_true rfl) dX1_findSources_47 ⟨Nat.le_of_ble_eq_true rfl, Nat.le_of_ble_eq_true rfl⟩ (fun H locs hw => ?_)
      refine lv_istore (lv' := [(4, .int r_4), (3, .int r_2), (0, .ref (b 0)), (1, .ref (a 0)), (2, .int x2)]) hx hb dX1_findSources_50 hl (by decide) rfl (fun ls hl => ?_)
      refine lv_aload_n hx hb dX1_findSources_52 rfl (lv_at hl 2 rfl) ?_
      refine lv_iload_n hx hb dX1_findSources_53 rfl (lv_at hl 1 rfl) ?_
      refine lv_iload hx hb dX1_findSources_54 (lv_at hl 0 rfl) ?_
      obtain ⟨w_6, c_7, h⟩ := bd_ok h
      refine x_Vv (As := [.int r_2, .int r_4]) (w' := fl [fB G b w_6, cB G a v]) X hw (m_X1_offer (G := G) (l := l) (b := b) c_7) (Cut.blocks (bs' := [fB G b w_6, cB G a v]) [0] [1] [0, 1] [fB G b w_6] rfl rfl rfl rfl rfl) 0 0 rfl rfl rfl (cwV 2 hts gX1_findSources_X1_offer rfl rfl rfl hd_X1_offer ⟨Nat.le_of_ble_eq_true rfl, Nat.le_of_ble_eq_true rfl⟩) rfl hl.1 rfl (Nat.le_of_ble_eq_true rfl) dX1_findSources_56 ⟨Nat.le_of_ble_eq_true rfl, Nat.le_of_ble_eq_true rfl⟩ (fun H locs hw => ?_)
      refine lv_aload_n hx hb dX1_findSources_59 rfl (lv_at hl 2 rfl) ?_
      refine lv_iload hx hb dX1_findSources_60 (lv_at hl 0 rfl) ?_
      refine lv_iload_n hx hb dX1_findSources_62 rfl (lv_at hl 1 rfl) ?_
      obtain ⟨w_8, c_9, h⟩ := bd_ok h
      refine x_Vv (As := [.int r_4, .int r_2]) (w' := fl [fB G b w_8, cB G a v]) X hw (m_X1_offer (G := G) (l := l) (b := b) c_9) (Cut.blocks (bs' := [fB G b w_8, cB G a v]) [0] [1] [0, 1] [fB G b w_8] rfl rfl rfl rfl rfl) 0 0 rfl rfl rfl (cwV 2 hts gX1_findSources_X1_offer rfl rfl rfl hd_X1_offer ⟨Nat.le_of_ble_eq_true rfl, Nat.le_of_ble_eq_true rfl⟩) rfl hl.1 rfl (Nat.le_of_ble_eq_true rfl) dX1_findSources_63 ⟨Nat.le_of_ble_eq_true rfl, Nat.le_of_ble_eq_true rfl⟩ (fun H locs hw => ?_)
      obtain ⟨t_10, et_10, h⟩ := nm_ok h
      refine lv_iinc (v := t_10) (lv' := [(2, .int t_10), (4, .int r_4), (3, .int r_2), (0, .ref (b 0)), (1, .ref (a 0))]) hx hb dX1_findSources_66 hl (k := 4) rfl (by rw [et_10]; rfl) (by decide) rfl (fun ls hl => ?_)
      refine lv_goto (tgt := 25) hx hb dX1_findSources_69 (by decide) ?_
      exact ih w_8 t_10 _ _ _ h hw (lv_sub hl [3, 4, 0] rfl)
noncomputable def f_X1_findSources_b2  (v : CV) : Nat → FV → Int32 → Option (FV)
  | 0 => fun _ _ => none
  | n + 1 => fun w x2 =>
    br ((F_se w) ≤ x2)
      (f_X1_findSources_b25 v FU w 0)
      (ck (vp_in x2 12) <|
       nm (upd (F_so w) x2.toNatClampNeg (-1)) fun g_3 =>
       nm (x2 + 1 : Int32) fun t_4 =>
       f_X1_findSources_b2 v n ((F_se w), (F_st w), (F_od w), g_3, (F_ne w), (F_po w), (F_ex w)) t_4)
set_option maxHeartbeats 4000000 in
set_option maxRecDepth 100000 in
theorem w_X1_findSources_b2 {G : GG} {l : Launch} {p : Program} {e : Env} {s : State} {m : MethodId} {args : Array Value} {below : List Frame} {meth : Method} {c : Code} {A : Nat → Prop} {b : Nat → Nat} {a : Nat → Nat} {v : CV} {zw : FV}   (X : Cx p s m args meth c cX1_findSources 5 none wsX1_findSources RX1 G A)  :
    ∀ (n : Nat) (w : FV) (x2 : Int32) (H : Heap) (locs : List Loc) (ls : Array Slot), f_X1_findSources_b2 v n w x2 = some (zw) → Wd G A s H locs (fl [fB G b w, cB G a v]) → lv_has ls 5 [(0, .ref (b 0)), (1, .ref (a 0)), (2, .int x2)] → W p l e rX1_findSources s m args below meth c H locs 0 0 (MQ below (Qv G A (fl [fB G b zw, cB G a v])) args s 0 0 A) (F0 m 2 ls []) := by
  obtain ⟨⟨hx, hb, hml, hown, hts⟩, hK, hr, hlk, hA⟩ := id X
  intro n
  induction n with
  | zero =>
    intro w x2 H locs ls h
    rw [f_X1_findSources_b2] at h
    cases h
  | succ n ih =>
    intro w x2 H locs ls h hw hl
    rw [f_X1_findSources_b2] at h
    refine lv_iload_n hx hb dX1_findSources_2 rfl (lv_at hl 2 rfl) ?_
    refine lv_aload_n hx hb dX1_findSources_3 rfl (lv_at hl 0 rfl) ?_
    refine x_get (v := .int (F_se w)) 0 0 X hw in_X1_findSources_1 rfl rfl rfl 0 (by decide) (List.mem_of_getElem? (i := 1) rfl) rfl rfl dX1_findSources_4 ?_
    refine lv_icmp_ge (tgt := 23) hx hb dX1_findSources_7 (by decide) (fun k_1 => ?_) (fun k_1 => ?_)
    · have h := br_yes h k_1
      refine lv_iconst (v := 0) hx hb dX1_findSources_23 (by decide) ?_
      refine lv_istore_n (lv' := [(2, .int 0), (0, .ref (b 0)), (1, .ref (a 0))]) hx hb dX1_findSources_24 rfl hl (by decide) rfl (fun ls hl => ?_)
      exact w_X1_findSources_b25 X FU w 0 _ _ _ h hw (lv_sub hl [1, 2, 0] rfl)
    · have h := br_no h k_1
      refine lv_aload_n hx hb dX1_findSources_10 rfl (lv_at hl 0 rfl) ?_
      refine x_get (v := .ref (b 3)) 0 0 X hw in_X1_findSources_1 rfl rfl rfl 3 (by decide) (List.mem_of_getElem? (i := 2) rfl) rfl rfl dX1_findSources_11 ?_
      refine lv_iload_n hx hb dX1_findSources_14 rfl (lv_at hl 2 rfl) ?_
      refine lv_iconst (v := (-1)) hx hb dX1_findSources_15 (by decide) ?_
      obtain ⟨k_2, h⟩ := ck_ok h
      obtain ⟨g_3, eg_3, h⟩ := nm_ok h
      refine x_iast (f := (F_so w)) (bs' := [fB G b ((F_se w), (F_st w), (F_od w), g_3, (F_ne w), (F_po w), (F_ex w)), cB G a v]) 0 3 X hw rfl rfl k_2 dX1_findSources_16 (by rw [eg_3]; rfl) (fun H locs hw => ?_)
      obtain ⟨t_4, et_4, h⟩ := nm_ok h
      refine lv_iinc (v := t_4) (lv' := [(2, .int t_4), (0, .ref (b 0)), (1, .ref (a 0))]) hx hb dX1_findSources_17 hl (k := 2) rfl (by rw [et_4]; rfl) (by decide) rfl (fun ls hl => ?_)
      refine lv_goto (tgt := 2) hx hb dX1_findSources_20 (by decide) ?_
      exact ih ((F_se w), (F_st w), (F_od w), g_3, (F_ne w), (F_po w), (F_ex w)) t_4 _ _ _ h hw (lv_sub hl [1, 2, 0] rfl)
noncomputable def f_X1_findSources  (w : FV) (v : CV)  : Option (FV) :=
  f_X1_findSources_b2 v FU w 0
set_option maxHeartbeats 4000000 in
set_option maxRecDepth 100000 in
theorem m_X1_findSources {G : GG} {l : Launch} {b : Nat → Nat} {a : Nat → Nat} {w : FV} {v : CV}  {zw : FV} (h : f_X1_findSources w v = some (zw)) : Cv G l yX1_findSources wsX1_findSources rX1_findSources [.ref (b 0), .ref (a 0)] (fl [fB G b w, cB G a v]) (fl [fB G b zw, cB G a v]) := by
  refine Cv.intro cX1_findSources 5 none RX1 (by decide) rfl rfl (Nat.le_of_ble_eq_true rfl) ?_
  intro p e s m below meth c A ls X hw hl
  obtain ⟨⟨hx, hb, hml, hown, hts⟩, hK, hr, hlk, hA⟩ := id X
  unfold f_X1_findSources at h
  have hl : lv_has ls 5 [(0, .ref (b 0)), (1, .ref (a 0))] := hl
  refine lv_iconst (v := 0) hx hb dX1_findSources_0 (by decide) ?_
  refine lv_istore_n (lv' := [(2, .int 0), (0, .ref (b 0)), (1, .ref (a 0))]) hx hb dX1_findSources_1 rfl hl (by decide) rfl (fun ls hl => ?_)
  exact w_X1_findSources_b2 X FU w 0 _ _ _ h hw (lv_sub hl [1, 2, 0] rfl)

def rX1_drawNeeds : Room := { frames := 2, cells := 0, slots := 0, locals := 42 }
theorem hd_X1_drawNeeds : yX1_drawNeeds.cls = RX1 ∧ yX1_drawNeeds.cls ≠ "java/lang/invoke/MethodHandle" ∧ yX1_drawNeeds.cls ≠ "java/lang/invoke/VarHandle" ∧ (parseMethodDescriptor yX1_drawNeeds.desc).map (fun d => d.parameters.length) = some 1 := by decide +kernel
theorem in_X1_drawNeeds_1 : ∀ w ∈ u_ws RX1 TX1 7, w ∈ wsX1_drawNeeds := fun w h => (List.mem_cons_of_mem _ (List.mem_append_left _ (List.mem_append_right _ h)))
noncomputable def f_X1_drawNeeds_b29  (v : CV) : Nat → FV → Int32 → Option (FV)
  | 0 => fun _ _ => none
  | n + 1 => fun w x2 =>
    br ((F_se w) ≤ x2)
      (some (w))
      (ck (vp_in x2 12) <|
       nm (((F_od w) x2.toNatClampNeg) : Int32) fun t_3 =>
       bd (f_X4_at 12 (F_so w) t_3) fun r_4 =>
       bd (f_X4_at 12 (F_ne w) r_4) fun r_6 =>
       bd (f_X4_at 12 (F_ne w) t_3) fun r_8 =>
       bd (f_X4_put 12 (F_ne w) r_4 (r_6 + r_8)) fun g_10 =>
       nm (x2 + 1 : Int32) fun t_12 =>
       f_X1_drawNeeds_b29 v n ((F_se w), (F_st w), (F_od w), (F_so w), g_10, (F_po w), (F_ex w)) t_12)
set_option maxHeartbeats 4000000 in
set_option maxRecDepth 100000 in
theorem w_X1_drawNeeds_b29 {G : GG} {l : Launch} {p : Program} {e : Env} {s : State} {m : MethodId} {args : Array Value} {below : List Frame} {meth : Method} {c : Code} {A : Nat → Prop} {b : Nat → Nat} {a : Nat → Nat} {v : CV} {zw : FV}   (X : Cx p s m args meth c cX1_drawNeeds 5 none wsX1_drawNeeds RX1 G A)  :
    ∀ (n : Nat) (w : FV) (x2 : Int32) (H : Heap) (locs : List Loc) (ls : Array Slot), f_X1_drawNeeds_b29 v n w x2 = some (zw) → Wd G A s H locs (fl [fB G b w, cB G a v]) → lv_has ls 5 [(0, .ref (b 0)), (2, .int x2)] → W p l e rX1_drawNeeds s m args below meth c H locs 0 0 (MQ below (Qv G A (fl [fB G b zw, cB G a v])) args s 0 0 A) (F0 m 29 ls []) := by
  obtain ⟨⟨hx, hb, hml, hown, hts⟩, hK, hr, hlk, hA⟩ := id X
  intro n
  induction n with
  | zero =>
    intro w x2 H locs ls h
    rw [f_X1_drawNeeds_b29] at h
    cases h
  | succ n ih =>
    intro w x2 H locs ls h hw hl
    rw [f_X1_drawNeeds_b29] at h
    refine lv_iload_n hx hb dX1_drawNeeds_29 rfl (lv_at hl 1 rfl) ?_
    refine lv_aload_n hx hb dX1_drawNeeds_30 rfl (lv_at hl 0 rfl) ?_
    refine x_get (v := .int (F_se w)) 0 0 X hw in_X1_drawNeeds_1 rfl rfl rfl 0 (by decide) (List.mem_of_getElem? (i := 1) rfl) rfl rfl dX1_drawNeeds_31 ?_
    refine lv_icmp_ge (tgt := 87) hx hb dX1_drawNeeds_34 (by decide) (fun k_1 => ?_) (fun k_1 => ?_)
    · have h := br_yes h k_1
      cases h
      exact x_vret X hw rfl dX1_drawNeeds_87
    · have h := br_no h k_1
      refine lv_aload_n hx hb dX1_drawNeeds_37 rfl (lv_at hl 0 rfl) ?_
      refine x_get (v := .ref (b 2)) 0 0 X hw in_X1_drawNeeds_1 rfl rfl rfl 2 (by decide) (List.mem_of_getElem? (i := 3) rfl) rfl rfl dX1_drawNeeds_38 ?_
      refine lv_iload_n hx hb dX1_drawNeeds_41 rfl (lv_at hl 1 rfl) ?_
      obtain ⟨k_2, h⟩ := ck_ok h
      refine x_iald (f := (F_od w)) 0 2 X hw rfl rfl k_2 dX1_drawNeeds_42 ?_
      obtain ⟨t_3, et_3, h⟩ := nm_ok h
      refine lv_istore_n (lv' := [(3, .int t_3), (0, .ref (b 0)), (2, .int x2)]) hx hb dX1_drawNeeds_43 rfl hl (by decide) (by rw [et_3]; rfl) (fun ls hl => ?_)
      refine lv_aload_n hx hb dX1_drawNeeds_44 rfl (lv_at hl 1 rfl) ?_
      refine x_get (v := .ref (b 3)) 0 0 X hw in_X1_drawNeeds_1 rfl rfl rfl 3 (by decide) (List.mem_of_getElem? (i := 4) rfl) rfl rfl dX1_drawNeeds_45 ?_
      refine lv_iload_n hx hb dX1_drawNeeds_48 rfl (lv_at hl 0 rfl) ?_
      obtain ⟨r_4, c_5, h⟩ := bd_ok h
      refine x_Ni (As := [.ref (b 3), .int t_3]) (w' := fl [fB G b w, cB G a v]) X hw (m_X4_at (G := G) (l := l) (q := (b 3)) c_5) (Cut.cellr 0 3 rfl rfl) ⟨va_cnB 2 hts gX1_drawNeeds_X4_at_n67 rfl rfl rfl (hK.2.1 _ (List.mem_of_getElem? (i := 6) rfl)) (hts _ (List.mem_of_getElem? (i := 13) rfl)) hd_X4_at.2 ⟨Nat.le_of_ble_eq_true rfl, Nat.le_of_ble_eq_true rfl⟩, hts _ (List.mem_of_getElem? (i := 12) rfl), trivial⟩ rfl hl.1 rfl (Nat.le_of_ble_eq_true rfl) dX1_drawNeeds_49 ⟨Nat.le_of_ble_eq_true rfl, Nat.le_of_ble_eq_true rfl⟩ (fun H locs hw => ?_)
      refine lv_istore (lv' := [(4, .int r_4), (3, .int t_3), (0, .ref (b 0)), (2, .int x2)]) hx hb dX1_drawNeeds_52 hl (by decide) rfl (fun ls hl => ?_)
      refine lv_aload_n hx hb dX1_drawNeeds_54 rfl (lv_at hl 2 rfl) ?_
      refine x_get (v := .ref (b 4)) 0 0 X hw in_X1_drawNeeds_1 rfl rfl rfl 4 (by decide) (List.mem_of_getElem? (i := 2) rfl) rfl rfl dX1_drawNeeds_55 ?_
      refine lv_iload hx hb dX1_drawNeeds_58 (lv_at hl 0 rfl) ?_
      refine lv_aload_n hx hb dX1_drawNeeds_60 rfl (lv_at hl 2 rfl) ?_
      refine x_get (v := .ref (b 4)) 0 0 X hw in_X1_drawNeeds_1 rfl rfl rfl 4 (by decide) (List.mem_of_getElem? (i := 2) rfl) rfl rfl dX1_drawNeeds_61 ?_
      refine lv_iload hx hb dX1_drawNeeds_64 (lv_at hl 0 rfl) ?_
      obtain ⟨r_6, c_7, h⟩ := bd_ok h
      refine x_Ni (As := [.ref (b 4), .int r_4]) (w' := fl [fB G b w, cB G a v]) X hw (m_X4_at (G := G) (l := l) (q := (b 4)) c_7) (Cut.cellr 0 4 rfl rfl) ⟨va_cnB 2 hts gX1_drawNeeds_X4_at_n67 rfl rfl rfl (hK.2.1 _ (List.mem_of_getElem? (i := 6) rfl)) (hts _ (List.mem_of_getElem? (i := 13) rfl)) hd_X4_at.2 ⟨Nat.le_of_ble_eq_true rfl, Nat.le_of_ble_eq_true rfl⟩, hts _ (List.mem_of_getElem? (i := 12) rfl), trivial⟩ rfl hl.1 rfl (Nat.le_of_ble_eq_true rfl) dX1_drawNeeds_66 ⟨Nat.le_of_ble_eq_true rfl, Nat.le_of_ble_eq_true rfl⟩ (fun H locs hw => ?_)
      refine lv_aload_n hx hb dX1_drawNeeds_69 rfl (lv_at hl 2 rfl) ?_
      refine x_get (v := .ref (b 4)) 0 0 X hw in_X1_drawNeeds_1 rfl rfl rfl 4 (by decide) (List.mem_of_getElem? (i := 2) rfl) rfl rfl dX1_drawNeeds_70 ?_
      refine lv_iload_n hx hb dX1_drawNeeds_73 rfl (lv_at hl 1 rfl) ?_
      obtain ⟨r_8, c_9, h⟩ := bd_ok h
      refine x_Ni (As := [.ref (b 4), .int t_3]) (w' := fl [fB G b w, cB G a v]) X hw (m_X4_at (G := G) (l := l) (q := (b 4)) c_9) (Cut.cellr 0 4 rfl rfl) ⟨va_cnB 2 hts gX1_drawNeeds_X4_at_n67 rfl rfl rfl (hK.2.1 _ (List.mem_of_getElem? (i := 6) rfl)) (hts _ (List.mem_of_getElem? (i := 13) rfl)) hd_X4_at.2 ⟨Nat.le_of_ble_eq_true rfl, Nat.le_of_ble_eq_true rfl⟩, hts _ (List.mem_of_getElem? (i := 12) rfl), trivial⟩ rfl hl.1 rfl (Nat.le_of_ble_eq_true rfl) dX1_drawNeeds_74 ⟨Nat.le_of_ble_eq_true rfl, Nat.le_of_ble_eq_true rfl⟩ (fun H locs hw => ?_)
      refine lv_iadd hx hb dX1_drawNeeds_77 ?_
      obtain ⟨g_10, c_11, h⟩ := bd_ok h
      refine x_Nv (As := [.ref (b 4), .int r_4, .int (r_6 + r_8)]) (w' := fl [fB G b ((F_se w), (F_st w), (F_od w), (F_so w), g_10, (F_po w), (F_ex w)), cB G a v]) X hw (m_X4_put (G := G) (l := l) (q := (b 4)) c_11) (Cut.cell (bs' := [fB G b ((F_se w), (F_st w), (F_od w), (F_so w), g_10, (F_po w), (F_ex w)), cB G a v]) 0 4 rfl rfl rfl) ⟨va_cnB 3 hts gX1_drawNeeds_X4_put_n47 rfl rfl rfl (hK.2.1 _ (List.mem_of_getElem? (i := 5) rfl)) (hts _ (List.mem_of_getElem? (i := 13) rfl)) hd_X4_put.2 ⟨Nat.le_of_ble_eq_true rfl, Nat.le_of_ble_eq_true rfl⟩, hts _ (List.mem_of_getElem? (i := 15) rfl), trivial⟩ rfl hl.1 rfl (Nat.le_of_ble_eq_true rfl) dX1_drawNeeds_78 ⟨Nat.le_of_ble_eq_true rfl, Nat.le_of_ble_eq_true rfl⟩ (fun H locs hw => ?_)
      obtain ⟨t_12, et_12, h⟩ := nm_ok h
      refine lv_iinc (v := t_12) (lv' := [(2, .int t_12), (4, .int r_4), (3, .int t_3), (0, .ref (b 0))]) hx hb dX1_drawNeeds_81 hl (k := 3) rfl (by rw [et_12]; rfl) (by decide) rfl (fun ls hl => ?_)
      refine lv_goto (tgt := 29) hx hb dX1_drawNeeds_84 (by decide) ?_
      exact ih ((F_se w), (F_st w), (F_od w), (F_so w), g_10, (F_po w), (F_ex w)) t_12 _ _ _ h hw (lv_sub hl [3, 0] rfl)
noncomputable def f_X1_drawNeeds_b2  (v : CV) : Nat → FV → Int32 → Option (FV)
  | 0 => fun _ _ => none
  | n + 1 => fun w x2 =>
    br ((F_se w) ≤ x2)
      (f_X1_drawNeeds_b29 v FU w 0)
      (bd (f_X0_firstNeed v x2) fun r_2 =>
       ck (vp_in x2 12) <|
       nm (upd (F_ne w) x2.toNatClampNeg r_2) fun g_5 =>
       nm (x2 + 1 : Int32) fun t_6 =>
       f_X1_drawNeeds_b2 v n ((F_se w), (F_st w), (F_od w), (F_so w), g_5, (F_po w), (F_ex w)) t_6)
set_option maxHeartbeats 4000000 in
set_option maxRecDepth 100000 in
theorem w_X1_drawNeeds_b2 {G : GG} {l : Launch} {p : Program} {e : Env} {s : State} {m : MethodId} {args : Array Value} {below : List Frame} {meth : Method} {c : Code} {A : Nat → Prop} {b : Nat → Nat} {a : Nat → Nat} {v : CV} {zw : FV}   (X : Cx p s m args meth c cX1_drawNeeds 5 none wsX1_drawNeeds RX1 G A)  :
    ∀ (n : Nat) (w : FV) (x2 : Int32) (H : Heap) (locs : List Loc) (ls : Array Slot), f_X1_drawNeeds_b2 v n w x2 = some (zw) → Wd G A s H locs (fl [fB G b w, cB G a v]) → lv_has ls 5 [(0, .ref (b 0)), (1, .ref (a 0)), (2, .int x2)] → W p l e rX1_drawNeeds s m args below meth c H locs 0 0 (MQ below (Qv G A (fl [fB G b zw, cB G a v])) args s 0 0 A) (F0 m 2 ls []) := by
  obtain ⟨⟨hx, hb, hml, hown, hts⟩, hK, hr, hlk, hA⟩ := id X
  intro n
  induction n with
  | zero =>
    intro w x2 H locs ls h
    rw [f_X1_drawNeeds_b2] at h
    cases h
  | succ n ih =>
    intro w x2 H locs ls h hw hl
    rw [f_X1_drawNeeds_b2] at h
    refine lv_iload_n hx hb dX1_drawNeeds_2 rfl (lv_at hl 2 rfl) ?_
    refine lv_aload_n hx hb dX1_drawNeeds_3 rfl (lv_at hl 0 rfl) ?_
    refine x_get (v := .int (F_se w)) 0 0 X hw in_X1_drawNeeds_1 rfl rfl rfl 0 (by decide) (List.mem_of_getElem? (i := 1) rfl) rfl rfl dX1_drawNeeds_4 ?_
    refine lv_icmp_ge (tgt := 27) hx hb dX1_drawNeeds_7 (by decide) (fun k_1 => ?_) (fun k_1 => ?_)
    · have h := br_yes h k_1
      refine lv_iconst (v := 0) hx hb dX1_drawNeeds_27 (by decide) ?_
      refine lv_istore_n (lv' := [(2, .int 0), (0, .ref (b 0)), (1, .ref (a 0))]) hx hb dX1_drawNeeds_28 rfl hl (by decide) rfl (fun ls hl => ?_)
      exact w_X1_drawNeeds_b29 X FU w 0 _ _ _ h hw (lv_sub hl [1, 0] rfl)
    · have h := br_no h k_1
      refine lv_aload_n hx hb dX1_drawNeeds_10 rfl (lv_at hl 0 rfl) ?_
      refine x_get (v := .ref (b 4)) 0 0 X hw in_X1_drawNeeds_1 rfl rfl rfl 4 (by decide) (List.mem_of_getElem? (i := 2) rfl) rfl rfl dX1_drawNeeds_11 ?_
      refine lv_iload_n hx hb dX1_drawNeeds_14 rfl (lv_at hl 2 rfl) ?_
      refine lv_aload_n hx hb dX1_drawNeeds_15 rfl (lv_at hl 1 rfl) ?_
      refine lv_iload_n hx hb dX1_drawNeeds_16 rfl (lv_at hl 2 rfl) ?_
      obtain ⟨r_2, c_3, h⟩ := bd_ok h
      refine x_Vi (As := [.int x2]) (w' := fl [fB G b w, cB G a v]) X hw (m_X0_firstNeed (G := G) (l := l) (a := a) c_3) (Cut.blocks (bs' := [fB G b w, cB G a v]) [1] [0] [1, 0] [cB G a v] rfl rfl rfl rfl rfl) 1 0 rfl rfl rfl (cwV 1 hts gX1_drawNeeds_X0_firstNeed rfl rfl rfl hd_X0_firstNeed ⟨Nat.le_of_ble_eq_true rfl, Nat.le_of_ble_eq_true rfl⟩) rfl hl.1 rfl (Nat.le_of_ble_eq_true rfl) dX1_drawNeeds_17 ⟨Nat.le_of_ble_eq_true rfl, Nat.le_of_ble_eq_true rfl⟩ (fun H locs hw => ?_)
      obtain ⟨k_4, h⟩ := ck_ok h
      obtain ⟨g_5, eg_5, h⟩ := nm_ok h
      refine x_iast (f := (F_ne w)) (bs' := [fB G b ((F_se w), (F_st w), (F_od w), (F_so w), g_5, (F_po w), (F_ex w)), cB G a v]) 0 4 X hw rfl rfl k_4 dX1_drawNeeds_20 (by rw [eg_5]; rfl) (fun H locs hw => ?_)
      obtain ⟨t_6, et_6, h⟩ := nm_ok h
      refine lv_iinc (v := t_6) (lv' := [(2, .int t_6), (0, .ref (b 0)), (1, .ref (a 0))]) hx hb dX1_drawNeeds_21 hl (k := 2) rfl (by rw [et_6]; rfl) (by decide) rfl (fun ls hl => ?_)
      refine lv_goto (tgt := 2) hx hb dX1_drawNeeds_24 (by decide) ?_
      exact ih ((F_se w), (F_st w), (F_od w), (F_so w), g_5, (F_po w), (F_ex w)) t_6 _ _ _ h hw (lv_sub hl [1, 2, 0] rfl)
noncomputable def f_X1_drawNeeds  (w : FV) (v : CV)  : Option (FV) :=
  f_X1_drawNeeds_b2 v FU w 0
set_option maxHeartbeats 4000000 in
set_option maxRecDepth 100000 in
theorem m_X1_drawNeeds {G : GG} {l : Launch} {b : Nat → Nat} {a : Nat → Nat} {w : FV} {v : CV}  {zw : FV} (h : f_X1_drawNeeds w v = some (zw)) : Cv G l yX1_drawNeeds wsX1_drawNeeds rX1_drawNeeds [.ref (b 0), .ref (a 0)] (fl [fB G b w, cB G a v]) (fl [fB G b zw, cB G a v]) := by
  refine Cv.intro cX1_drawNeeds 5 none RX1 (by decide) rfl rfl (Nat.le_of_ble_eq_true rfl) ?_
  intro p e s m below meth c A ls X hw hl
  obtain ⟨⟨hx, hb, hml, hown, hts⟩, hK, hr, hlk, hA⟩ := id X
  unfold f_X1_drawNeeds at h
  have hl : lv_has ls 5 [(0, .ref (b 0)), (1, .ref (a 0))] := hl
  refine lv_iconst (v := 0) hx hb dX1_drawNeeds_0 (by decide) ?_
  refine lv_istore_n (lv' := [(2, .int 0), (0, .ref (b 0)), (1, .ref (a 0))]) hx hb dX1_drawNeeds_1 rfl hl (by decide) rfl (fun ls hl => ?_)
  exact w_X1_drawNeeds_b2 X FU w 0 _ _ _ h hw (lv_sub hl [1, 2, 0] rfl)

def rX1_findPores : Room := { frames := 3, cells := 0, slots := 0, locals := 63 }
theorem hd_X1_findPores : yX1_findPores.cls = RX1 ∧ yX1_findPores.cls ≠ "java/lang/invoke/MethodHandle" ∧ yX1_findPores.cls ≠ "java/lang/invoke/VarHandle" ∧ (parseMethodDescriptor yX1_findPores.desc).map (fun d => d.parameters.length) = some 1 := by decide +kernel
theorem in_X1_findPores_1 : ∀ w ∈ u_ws RX1 TX1 7, w ∈ wsX1_findPores := fun w h => (List.mem_cons_of_mem _ (List.mem_append_left _ (List.mem_append_right _ h)))
noncomputable def f_X1_findPores_b2  (v : CV) : Nat → FV → Int32 → Option (FV)
  | 0 => fun _ _ => none
  | n + 1 => fun w x2 =>
    br ((F_se w) ≤ x2)
      (some (w))
      (ck (vp_in x2 12) <|
       br (((F_so w) x2.toNatClampNeg) = (-1))
         (ck (vp_in x2 12) <|
          nm (((F_ne w) x2.toNatClampNeg) : Int32) fun t_14 =>
          ck (vp_in x2 12) <|
          nm (upd (F_po w) x2.toNatClampNeg t_14) fun g_16 =>
          ck (vp_in x2 12) <|
          bd (f_X0_bearablePores v x2) fun r_18 =>
          nm ((if 0 < ((g_16 x2.toNatClampNeg) - r_18) then ((g_16 x2.toNatClampNeg) - r_18) else 0) : Int32) fun t_20 =>
          ck (vp_in x2 12) <|
          nm (upd (F_ex w) x2.toNatClampNeg t_20) fun g_22 =>
          nm (x2 + 1 : Int32) fun t_23 =>
          f_X1_findPores_b2 v n ((F_se w), (F_st w), (F_od w), (F_so w), (F_ne w), g_16, g_22) t_23)
         (ck (vp_in x2 12) <|
          nm (upd (F_po w) x2.toNatClampNeg 0) fun g_5 =>
          ck (vp_in x2 12) <|
          bd (f_X0_bearablePores v x2) fun r_7 =>
          nm ((if 0 < ((g_5 x2.toNatClampNeg) - r_7) then ((g_5 x2.toNatClampNeg) - r_7) else 0) : Int32) fun t_9 =>
          ck (vp_in x2 12) <|
          nm (upd (F_ex w) x2.toNatClampNeg t_9) fun g_11 =>
          nm (x2 + 1 : Int32) fun t_12 =>
          f_X1_findPores_b2 v n ((F_se w), (F_st w), (F_od w), (F_so w), (F_ne w), g_5, g_11) t_12))
set_option maxHeartbeats 4000000 in
set_option maxRecDepth 100000 in
theorem w_X1_findPores_b2 {G : GG} {l : Launch} {p : Program} {e : Env} {s : State} {m : MethodId} {args : Array Value} {below : List Frame} {meth : Method} {c : Code} {A : Nat → Prop} {b : Nat → Nat} {a : Nat → Nat} {v : CV} {zw : FV}   (X : Cx p s m args meth c cX1_findPores 3 none wsX1_findPores RX1 G A)  :
    ∀ (n : Nat) (w : FV) (x2 : Int32) (H : Heap) (locs : List Loc) (ls : Array Slot), f_X1_findPores_b2 v n w x2 = some (zw) → Wd G A s H locs (fl [fB G b w, cB G a v]) → lv_has ls 3 [(0, .ref (b 0)), (1, .ref (a 0)), (2, .int x2)] → W p l e rX1_findPores s m args below meth c H locs 0 0 (MQ below (Qv G A (fl [fB G b zw, cB G a v])) args s 0 0 A) (F0 m 2 ls []) := by
  obtain ⟨⟨hx, hb, hml, hown, hts⟩, hK, hr, hlk, hA⟩ := id X
  intro n
  induction n with
  | zero =>
    intro w x2 H locs ls h
    rw [f_X1_findPores_b2] at h
    cases h
  | succ n ih =>
    intro w x2 H locs ls h hw hl
    rw [f_X1_findPores_b2] at h
    refine lv_iload_n hx hb dX1_findPores_2 rfl (lv_at hl 2 rfl) ?_
    refine lv_aload_n hx hb dX1_findPores_3 rfl (lv_at hl 0 rfl) ?_
    refine x_get (v := .int (F_se w)) 0 0 X hw in_X1_findPores_1 rfl rfl rfl 0 (by decide) (List.mem_of_getElem? (i := 1) rfl) rfl rfl dX1_findPores_4 ?_
    refine lv_icmp_ge (tgt := 64) hx hb dX1_findPores_7 (by decide) (fun k_1 => ?_) (fun k_1 => ?_)
    · have h := br_yes h k_1
      cases h
      exact x_vret X hw rfl dX1_findPores_64
    · have h := br_no h k_1
      refine lv_aload_n hx hb dX1_findPores_10 rfl (lv_at hl 0 rfl) ?_
      refine x_get (v := .ref (b 5)) 0 0 X hw in_X1_findPores_1 rfl rfl rfl 5 (by decide) (List.mem_of_getElem? (i := 2) rfl) rfl rfl dX1_findPores_11 ?_
      refine lv_iload_n hx hb dX1_findPores_14 rfl (lv_at hl 2 rfl) ?_
      refine lv_aload_n hx hb dX1_findPores_15 rfl (lv_at hl 0 rfl) ?_
      refine x_get (v := .ref (b 3)) 0 0 X hw in_X1_findPores_1 rfl rfl rfl 3 (by decide) (List.mem_of_getElem? (i := 3) rfl) rfl rfl dX1_findPores_16 ?_
      refine lv_iload_n hx hb dX1_findPores_19 rfl (lv_at hl 2 rfl) ?_
      obtain ⟨k_2, h⟩ := ck_ok h
      refine x_iald (f := (F_so w)) 0 3 X hw rfl rfl k_2 dX1_findPores_20 ?_
      refine lv_iconst (v := (-1)) hx hb dX1_findPores_21 (by decide) ?_
      refine lv_icmp_ne (tgt := 34) hx hb dX1_findPores_22 (by decide) (fun k_3 => ?_) (fun k_3 => ?_)
      · have h := br_no h k_3
        refine lv_iconst (v := 0) hx hb dX1_findPores_34 (by decide) ?_
        obtain ⟨k_4, h⟩ := ck_ok h
        obtain ⟨g_5, eg_5, h⟩ := nm_ok h
        refine x_iast (f := (F_po w)) (bs' := [fB G b ((F_se w), (F_st w), (F_od w), (F_so w), (F_ne w), g_5, (F_ex w)), cB G a v]) 0 5 X hw rfl rfl k_4 dX1_findPores_35 (by rw [eg_5]; rfl) (fun H locs hw => ?_)
        refine lv_aload_n hx hb dX1_findPores_36 rfl (lv_at hl 0 rfl) ?_
        refine x_get (v := .ref (b 6)) 0 0 X hw in_X1_findPores_1 rfl rfl rfl 6 (by decide) (List.mem_of_getElem? (i := 5) rfl) rfl rfl dX1_findPores_37 ?_
        refine lv_iload_n hx hb dX1_findPores_40 rfl (lv_at hl 2 rfl) ?_
        refine lv_iconst (v := 0) hx hb dX1_findPores_41 (by decide) ?_
        refine lv_aload_n hx hb dX1_findPores_42 rfl (lv_at hl 0 rfl) ?_
        refine x_get (v := .ref (b 5)) 0 0 X hw in_X1_findPores_1 rfl rfl rfl 5 (by decide) (List.mem_of_getElem? (i := 2) rfl) rfl rfl dX1_findPores_43 ?_
        refine lv_iload_n hx hb dX1_findPores_46 rfl (lv_at hl 2 rfl) ?_
        obtain ⟨k_6, h⟩ := ck_ok h
        refine x_iald (f := g_5) 0 5 X hw rfl rfl k_6 dX1_findPores_47 ?_
        refine lv_aload_n hx hb dX1_findPores_48 rfl (lv_at hl 1 rfl) ?_
        refine lv_iload_n hx hb dX1_findPores_49 rfl (lv_at hl 2 rfl) ?_
        obtain ⟨r_7, c_8, h⟩ := bd_ok h
        refine x_Vi (As := [.int x2]) (w' := fl [fB G b ((F_se w), (F_st w), (F_od w), (F_so w), (F_ne w), g_5, (F_ex w)), cB G a v]) X hw (m_X0_bearablePores (G := G) (l := l) (a := a) c_8) (Cut.blocks (bs' := [fB G b ((F_se w), (F_st w), (F_od w), (F_so w), (F_ne w), g_5, (F_ex w)), cB G a v]) [1] [0] [1, 0] [cB G a v] rfl rfl rfl rfl rfl) 1 0 rfl rfl rfl (cwV 1 hts gX1_findPores_X0_bearablePores rfl rfl rfl hd_X0_bearablePores ⟨Nat.le_of_ble_eq_true rfl, Nat.le_of_ble_eq_true rfl⟩) rfl hl.1 rfl (Nat.le_of_ble_eq_true rfl) dX1_findPores_50 ⟨Nat.le_of_ble_eq_true rfl, Nat.le_of_ble_eq_true rfl⟩ (fun H locs hw => ?_)
        refine lv_isub hx hb dX1_findPores_53 ?_
        refine va_mmax hx hb (hml.trans hl.1.symm) hown (hts _ (List.mem_of_getElem? (i := 6) rfl)) (hts _ (List.mem_of_getElem? (i := 7) rfl)) (hts _ (List.mem_of_getElem? (i := 8) rfl)) (hts _ (List.mem_of_getElem? (i := 9) rfl)) (Nat.le_of_ble_eq_true rfl) (Nat.le_of_ble_eq_true rfl) (Nat.le_of_ble_eq_true rfl) (Nat.le_of_ble_eq_true rfl) dX1_findPores_54 ?_
        obtain ⟨t_9, et_9, h⟩ := nm_ok h
        rw [← et_9]
        obtain ⟨k_10, h⟩ := ck_ok h
        obtain ⟨g_11, eg_11, h⟩ := nm_ok h
        refine x_iast (f := (F_ex w)) (bs' := [fB G b ((F_se w), (F_st w), (F_od w), (F_so w), (F_ne w), g_5, g_11), cB G a v]) 0 6 X hw rfl rfl k_10 dX1_findPores_57 (by rw [eg_11]; rfl) (fun H locs hw => ?_)
        obtain ⟨t_12, et_12, h⟩ := nm_ok h
        refine lv_iinc (v := t_12) (lv' := [(2, .int t_12), (0, .ref (b 0)), (1, .ref (a 0))]) hx hb dX1_findPores_58 hl (k := 2) rfl (by rw [et_12]; rfl) (by decide) rfl (fun ls hl => ?_)
        refine lv_goto (tgt := 2) hx hb dX1_findPores_61 (by decide) ?_
        exact ih ((F_se w), (F_st w), (F_od w), (F_so w), (F_ne w), g_5, g_11) t_12 _ _ _ h hw (lv_sub hl [1, 2, 0] rfl)
      · have h := br_yes h k_3
        refine lv_aload_n hx hb dX1_findPores_25 rfl (lv_at hl 0 rfl) ?_
        refine x_get (v := .ref (b 4)) 0 0 X hw in_X1_findPores_1 rfl rfl rfl 4 (by decide) (List.mem_of_getElem? (i := 4) rfl) rfl rfl dX1_findPores_26 ?_
        refine lv_iload_n hx hb dX1_findPores_29 rfl (lv_at hl 2 rfl) ?_
        obtain ⟨k_13, h⟩ := ck_ok h
        refine x_iald (f := (F_ne w)) 0 4 X hw rfl rfl k_13 dX1_findPores_30 ?_
        refine lv_goto (tgt := 35) hx hb dX1_findPores_31 (by decide) ?_
        obtain ⟨t_14, et_14, h⟩ := nm_ok h
        rw [← et_14]
        obtain ⟨k_15, h⟩ := ck_ok h
        obtain ⟨g_16, eg_16, h⟩ := nm_ok h
        refine x_iast (f := (F_po w)) (bs' := [fB G b ((F_se w), (F_st w), (F_od w), (F_so w), (F_ne w), g_16, (F_ex w)), cB G a v]) 0 5 X hw rfl rfl k_15 dX1_findPores_35 (by rw [eg_16]; rfl) (fun H locs hw => ?_)
        refine lv_aload_n hx hb dX1_findPores_36 rfl (lv_at hl 0 rfl) ?_
        refine x_get (v := .ref (b 6)) 0 0 X hw in_X1_findPores_1 rfl rfl rfl 6 (by decide) (List.mem_of_getElem? (i := 5) rfl) rfl rfl dX1_findPores_37 ?_
        refine lv_iload_n hx hb dX1_findPores_40 rfl (lv_at hl 2 rfl) ?_
        refine lv_iconst (v := 0) hx hb dX1_findPores_41 (by decide) ?_
        refine lv_aload_n hx hb dX1_findPores_42 rfl (lv_at hl 0 rfl) ?_
        refine x_get (v := .ref (b 5)) 0 0 X hw in_X1_findPores_1 rfl rfl rfl 5 (by decide) (List.mem_of_getElem? (i := 2) rfl) rfl rfl dX1_findPores_43 ?_
        refine lv_iload_n hx hb dX1_findPores_46 rfl (lv_at hl 2 rfl) ?_
        obtain ⟨k_17, h⟩ := ck_ok h
        refine x_iald (f := g_16) 0 5 X hw rfl rfl k_17 dX1_findPores_47 ?_
        refine lv_aload_n hx hb dX1_findPores_48 rfl (lv_at hl 1 rfl) ?_
        refine lv_iload_n hx hb dX1_findPores_49 rfl (lv_at hl 2 rfl) ?_
        obtain ⟨r_18, c_19, h⟩ := bd_ok h
        refine x_Vi (As := [.int x2]) (w' := fl [fB G b ((F_se w), (F_st w), (F_od w), (F_so w), (F_ne w), g_16, (F_ex w)), cB G a v]) X hw (m_X0_bearablePores (G := G) (l := l) (a := a) c_19) (Cut.blocks (bs' := [fB G b ((F_se w), (F_st w), (F_od w), (F_so w), (F_ne w), g_16, (F_ex w)), cB G a v]) [1] [0] [1, 0] [cB G a v] rfl rfl rfl rfl rfl) 1 0 rfl rfl rfl (cwV 1 hts gX1_findPores_X0_bearablePores rfl rfl rfl hd_X0_bearablePores ⟨Nat.le_of_ble_eq_true rfl, Nat.le_of_ble_eq_true rfl⟩) rfl hl.1 rfl (Nat.le_of_ble_eq_true rfl) dX1_findPores_50 ⟨Nat.le_of_ble_eq_true rfl, Nat.le_of_ble_eq_true rfl⟩ (fun H locs hw => ?_)
        refine lv_isub hx hb dX1_findPores_53 ?_
        refine va_mmax hx hb (hml.trans hl.1.symm) hown (hts _ (List.mem_of_getElem? (i := 6) rfl)) (hts _ (List.mem_of_getElem? (i := 7) rfl)) (hts _ (List.mem_of_getElem? (i := 8) rfl)) (hts _ (List.mem_of_getElem? (i := 9) rfl)) (Nat.le_of_ble_eq_true rfl) (Nat.le_of_ble_eq_true rfl) (Nat.le_of_ble_eq_true rfl) (Nat.le_of_ble_eq_true rfl) dX1_findPores_54 ?_
        obtain ⟨t_20, et_20, h⟩ := nm_ok h
        rw [← et_20]
        obtain ⟨k_21, h⟩ := ck_ok h
        obtain ⟨g_22, eg_22, h⟩ := nm_ok h
        refine x_iast (f := (F_ex w)) (bs' := [fB G b ((F_se w), (F_st w), (F_od w), (F_so w), (F_ne w), g_16, g_22), cB G a v]) 0 6 X hw rfl rfl k_21 dX1_findPores_57 (by rw [eg_22]; rfl) (fun H locs hw => ?_)
        obtain ⟨t_23, et_23, h⟩ := nm_ok h
        refine lv_iinc (v := t_23) (lv' := [(2, .int t_23), (0, .ref (b 0)), (1, .ref (a 0))]) hx hb dX1_findPores_58 hl (k := 2) rfl (by rw [et_23]; rfl) (by decide) rfl (fun ls hl => ?_)
        refine lv_goto (tgt := 2) hx hb dX1_findPores_61 (by decide) ?_
        exact ih ((F_se w), (F_st w), (F_od w), (F_so w), (F_ne w), g_16, g_22) t_23 _ _ _ h hw (lv_sub hl [1, 2, 0] rfl)
noncomputable def f_X1_findPores  (w : FV) (v : CV)  : Option (FV) :=
  f_X1_findPores_b2 v FU w 0
set_option maxHeartbeats 4000000 in
set_option maxRecDepth 100000 in
theorem m_X1_findPores {G : GG} {l : Launch} {b : Nat → Nat} {a : Nat → Nat} {w : FV} {v : CV}  {zw : FV} (h : f_X1_findPores w v = some (zw)) : Cv G l yX1_findPores wsX1_findPores rX1_findPores [.ref (b 0), .ref (a 0)] (fl [fB G b w, cB G a v]) (fl [fB G b zw, cB G a v]) := by
  refine Cv.intro cX1_findPores 3 none RX1 (by decide) rfl rfl (Nat.le_of_ble_eq_true rfl) ?_
  intro p e s m below meth c A ls X hw hl
  obtain ⟨⟨hx, hb, hml, hown, hts⟩, hK, hr, hlk, hA⟩ := id X
  unfold f_X1_findPores at h
  have hl : lv_has ls 3 [(0, .ref (b 0)), (1, .ref (a 0))] := hl
  refine lv_iconst (v := 0) hx hb dX1_findPores_0 (by decide) ?_
  refine lv_istore_n (lv' := [(2, .int 0), (0, .ref (b 0)), (1, .ref (a 0))]) hx hb dX1_findPores_1 rfl hl (by decide) rfl (fun ls hl => ?_)
  exact w_X1_findPores_b2 X FU w 0 _ _ _ h hw (lv_sub hl [1, 2, 0] rfl)

def rX1_follow : Room := { frames := 4, cells := 0, slots := 0, locals := 85 }
theorem hd_X1_follow : yX1_follow.cls = RX1 ∧ yX1_follow.cls ≠ "java/lang/invoke/MethodHandle" ∧ yX1_follow.cls ≠ "java/lang/invoke/VarHandle" ∧ (parseMethodDescriptor yX1_follow.desc).map (fun d => d.parameters.length) = some 1 := by decide +kernel
theorem in_X1_follow_0 : ∀ w ∈ u_ws RX0 TX0 10, w ∈ wsX1_follow := fun w h => (List.mem_cons_of_mem _ (List.mem_append_left _ (List.mem_append_right _ h)))
theorem in_X1_follow_1 : ∀ w ∈ u_ws RX1 TX1 7, w ∈ wsX1_follow := fun w h => (List.mem_cons_of_mem _ (List.mem_append_right _ h))
noncomputable def f_X1_follow_b15  (v : CV) : Nat → FV → Int32 → Option (FV)
  | 0 => fun _ _ => none
  | n + 1 => fun w x2 =>
    br ((F_se w) ≤ x2)
      (bd (f_X1_findSources w v) fun w_2 =>
       bd (f_X1_drawNeeds w_2 v) fun w_4 =>
       bd (f_X1_findPores w_4 v) fun w_6 =>
       some (w_6))
      (bd (f_X0_stepOf v x2) fun r_8 =>
       ck (vp_in x2 12) <|
       nm (upd (F_st w) x2.toNatClampNeg r_8) fun g_11 =>
       ck (vp_in x2 12) <|
       bd (f_X4_put 12 (F_od w) (g_11 x2.toNatClampNeg) x2) fun g_13 =>
       nm (x2 + 1 : Int32) fun t_15 =>
       f_X1_follow_b15 v n ((F_se w), g_11, g_13, (F_so w), (F_ne w), (F_po w), (F_ex w)) t_15)
set_option maxHeartbeats 4000000 in
set_option maxRecDepth 100000 in
theorem w_X1_follow_b15 {G : GG} {l : Launch} {p : Program} {e : Env} {s : State} {m : MethodId} {args : Array Value} {below : List Frame} {meth : Method} {c : Code} {A : Nat → Prop} {b : Nat → Nat} {a : Nat → Nat} {v : CV} {zw : FV}   (X : Cx p s m args meth c cX1_follow 3 none wsX1_follow RX1 G A)  :
    ∀ (n : Nat) (w : FV) (x2 : Int32) (H : Heap) (locs : List Loc) (ls : Array Slot), f_X1_follow_b15 v n w x2 = some (zw) → Wd G A s H locs (fl [fB G b w, cB G a v]) → lv_has ls 3 [(0, .ref (b 0)), (1, .ref (a 0)), (2, .int x2)] → W p l e rX1_follow s m args below meth c H locs 0 0 (MQ below (Qv G A (fl [fB G b zw, cB G a v])) args s 0 0 A) (F0 m 15 ls []) := by
  obtain ⟨⟨hx, hb, hml, hown, hts⟩, hK, hr, hlk, hA⟩ := id X
  intro n
  induction n with
  | zero =>
    intro w x2 H locs ls h
    rw [f_X1_follow_b15] at h
    cases h
  | succ n ih =>
    intro w x2 H locs ls h hw hl
    rw [f_X1_follow_b15] at h
    refine lv_iload_n hx hb dX1_follow_15 rfl (lv_at hl 2 rfl) ?_
    refine lv_aload_n hx hb dX1_follow_16 rfl (lv_at hl 0 rfl) ?_
    refine x_get (v := .int (F_se w)) 0 0 X hw in_X1_follow_1 rfl rfl rfl 0 (by decide) (List.mem_of_getElem? (i := 6) rfl) rfl rfl dX1_follow_17 ?_
    refine lv_icmp_ge (tgt := 54) hx hb dX1_follow_20 (by decide) (fun k_1 => ?_) (fun k_1 => ?_)
    · have h := br_yes h k_1
      refine lv_aload_n hx hb dX1_follow_54 rfl (lv_at hl 0 rfl) ?_
      refine lv_aload_n hx hb dX1_follow_55 rfl (lv_at hl 1 rfl) ?_
      obtain ⟨w_2, c_3, h⟩ := bd_ok h
      refine x_Vv (As := [.ref (a 0)]) (w' := fl [fB G b w_2, cB G a v]) X hw (m_X1_findSources (G := G) (l := l) (b := b) (a := a) c_3) Cut.all 0 0 rfl rfl rfl (cwV 1 hts gX1_follow_X1_findSources rfl rfl rfl hd_X1_findSources ⟨Nat.le_of_ble_eq_true rfl, Nat.le_of_ble_eq_true rfl⟩) rfl hl.1 rfl (Nat.le_of_ble_eq_true rfl) dX1_follow_56 ⟨Nat.le_of_ble_eq_true rfl, Nat.le_of_ble_eq_true rfl⟩ (fun H locs hw => ?_)
      refine lv_aload_n hx hb dX1_follow_59 rfl (lv_at hl 0 rfl) ?_
      refine lv_aload_n hx hb dX1_follow_60 rfl (lv_at hl 1 rfl) ?_
      obtain ⟨w_4, c_5, h⟩ := bd_ok h
      refine x_Vv (As := [.ref (a 0)]) (w' := fl [fB G b w_4, cB G a v]) X hw (m_X1_drawNeeds (G := G) (l := l) (b := b) (a := a) c_5) Cut.all 0 0 rfl rfl rfl (cwV 1 hts gX1_follow_X1_drawNeeds rfl rfl rfl hd_X1_drawNeeds ⟨Nat.le_of_ble_eq_true rfl, Nat.le_of_ble_eq_true rfl⟩) rfl hl.1 rfl (Nat.le_of_ble_eq_true rfl) dX1_follow_61 ⟨Nat.le_of_ble_eq_true rfl, Nat.le_of_ble_eq_true rfl⟩ (fun H locs hw => ?_)
      refine lv_aload_n hx hb dX1_follow_64 rfl (lv_at hl 0 rfl) ?_
      refine lv_aload_n hx hb dX1_follow_65 rfl (lv_at hl 1 rfl) ?_
      obtain ⟨w_6, c_7, h⟩ := bd_ok h
      refine x_Vv (As := [.ref (a 0)]) (w' := fl [fB G b w_6, cB G a v]) X hw (m_X1_findPores (G := G) (l := l) (b := b) (a := a) c_7) Cut.all 0 0 rfl rfl rfl (cwV 1 hts gX1_follow_X1_findPores rfl rfl rfl hd_X1_findPores ⟨Nat.le_of_ble_eq_true rfl, Nat.le_of_ble_eq_true rfl⟩) rfl hl.1 rfl (Nat.le_of_ble_eq_true rfl) dX1_follow_66 ⟨Nat.le_of_ble_eq_true rfl, Nat.le_of_ble_eq_true rfl⟩ (fun H locs hw => ?_)
      cases h
      exact x_vret X hw rfl dX1_follow_69
    · have h := br_no h k_1
      refine lv_aload_n hx hb dX1_follow_23 rfl (lv_at hl 0 rfl) ?_
      refine x_get (v := .ref (b 1)) 0 0 X hw in_X1_follow_1 rfl rfl rfl 1 (by decide) (List.mem_of_getElem? (i := 7) rfl) rfl rfl dX1_follow_24 ?_
      refine lv_iload_n hx hb dX1_follow_27 rfl (lv_at hl 2 rfl) ?_
      refine lv_aload_n hx hb dX1_follow_28 rfl (lv_at hl 1 rfl) ?_
      refine lv_iload_n hx hb dX1_follow_29 rfl (lv_at hl 2 rfl) ?_
      obtain ⟨r_8, c_9, h⟩ := bd_ok h
      refine x_Vi (As := [.int x2]) (w' := fl [fB G b w, cB G a v]) X hw (m_X0_stepOf (G := G) (l := l) (a := a) c_9) (Cut.blocks (bs' := [fB G b w, cB G a v]) [1] [0] [1, 0] [cB G a v] rfl rfl rfl rfl rfl) 1 0 rfl rfl rfl (cwV 1 hts gX1_follow_X0_stepOf rfl rfl rfl hd_X0_stepOf ⟨Nat.le_of_ble_eq_true rfl, Nat.le_of_ble_eq_true rfl⟩) rfl hl.1 rfl (Nat.le_of_ble_eq_true rfl) dX1_follow_30 ⟨Nat.le_of_ble_eq_true rfl, Nat.le_of_ble_eq_true rfl⟩ (fun H locs hw => ?_)
      obtain ⟨k_10, h⟩ := ck_ok h
      obtain ⟨g_11, eg_11, h⟩ := nm_ok h
      refine x_iast (f := (F_st w)) (bs' := [fB G b ((F_se w), g_11, (F_od w), (F_so w), (F_ne w), (F_po w), (F_ex w)), cB G a v]) 0 1 X hw rfl rfl k_10 dX1_follow_33 (by rw [eg_11]; rfl) (fun H locs hw => ?_)
      refine lv_aload_n hx hb dX1_follow_34 rfl (lv_at hl 0 rfl) ?_
      refine x_get (v := .ref (b 2)) 0 0 X hw in_X1_follow_1 rfl rfl rfl 2 (by decide) (List.mem_of_getElem? (i := 8) rfl) rfl rfl dX1_follow_35 ?_
      refine lv_aload_n hx hb dX1_follow_38 rfl (lv_at hl 0 rfl) ?_
      refine x_get (v := .ref (b 1)) 0 0 X hw in_X1_follow_1 rfl rfl rfl 1 (by decide) (List.mem_of_getElem? (i := 7) rfl) rfl rfl dX1_follow_39 ?_
      refine lv_iload_n hx hb dX1_follow_42 rfl (lv_at hl 2 rfl) ?_
      obtain ⟨k_12, h⟩ := ck_ok h
      refine x_iald (f := g_11) 0 1 X hw rfl rfl k_12 dX1_follow_43 ?_
      refine lv_iload_n hx hb dX1_follow_44 rfl (lv_at hl 2 rfl) ?_
      obtain ⟨g_13, c_14, h⟩ := bd_ok h
      refine x_Nv (As := [.ref (b 2), .int (g_11 x2.toNatClampNeg), .int x2]) (w' := fl [fB G b ((F_se w), g_11, g_13, (F_so w), (F_ne w), (F_po w), (F_ex w)), cB G a v]) X hw (m_X4_put (G := G) (l := l) (q := (b 2)) c_14) (Cut.cell (bs' := [fB G b ((F_se w), g_11, g_13, (F_so w), (F_ne w), (F_po w), (F_ex w)), cB G a v]) 0 2 rfl rfl rfl) ⟨va_cnB 3 hts gX1_follow_X4_put_n47 rfl rfl rfl (hK.2.1 _ (List.mem_of_getElem? (i := 5) rfl)) (hts _ (List.mem_of_getElem? (i := 17) rfl)) hd_X4_put.2 ⟨Nat.le_of_ble_eq_true rfl, Nat.le_of_ble_eq_true rfl⟩, hts _ (List.mem_of_getElem? (i := 25) rfl), trivial⟩ rfl hl.1 rfl (Nat.le_of_ble_eq_true rfl) dX1_follow_45 ⟨Nat.le_of_ble_eq_true rfl, Nat.le_of_ble_eq_true rfl⟩ (fun H locs hw => ?_)
      obtain ⟨t_15, et_15, h⟩ := nm_ok h
      refine lv_iinc (v := t_15) (lv' := [(2, .int t_15), (0, .ref (b 0)), (1, .ref (a 0))]) hx hb dX1_follow_48 hl (k := 2) rfl (by rw [et_15]; rfl) (by decide) rfl (fun ls hl => ?_)
      refine lv_goto (tgt := 15) hx hb dX1_follow_51 (by decide) ?_
      exact ih ((F_se w), g_11, g_13, (F_so w), (F_ne w), (F_po w), (F_ex w)) t_15 _ _ _ h hw (lv_sub hl [1, 2, 0] rfl)
noncomputable def f_X1_follow  (w : FV) (v : CV)  : Option (FV) :=
  nm ((if 12 < (C_se v) then 12 else (C_se v)) : Int32) fun t_1 =>
  f_X1_follow_b15 v FU (t_1, (F_st w), (F_od w), (F_so w), (F_ne w), (F_po w), (F_ex w)) 0
set_option maxHeartbeats 4000000 in
set_option maxRecDepth 100000 in
theorem m_X1_follow {G : GG} {l : Launch} {b : Nat → Nat} {a : Nat → Nat} {w : FV} {v : CV}  {zw : FV} (h : f_X1_follow w v = some (zw)) : Cv G l yX1_follow wsX1_follow rX1_follow [.ref (b 0), .ref (a 0)] (fl [fB G b w, cB G a v]) (fl [fB G b zw, cB G a v]) := by
  refine Cv.intro cX1_follow 3 none RX1 (by decide) rfl rfl (Nat.le_of_ble_eq_true rfl) ?_
  intro p e s m below meth c A ls X hw hl
  obtain ⟨⟨hx, hb, hml, hown, hts⟩, hK, hr, hlk, hA⟩ := id X
  unfold f_X1_follow at h
  have hl : lv_has ls 3 [(0, .ref (b 0)), (1, .ref (a 0))] := hl
  refine lv_aload_n hx hb dX1_follow_0 rfl (lv_at hl 0 rfl) ?_
  refine lv_aload_n hx hb dX1_follow_1 rfl (lv_at hl 1 rfl) ?_
  refine x_get (v := .int (C_se v)) 1 0 X hw in_X1_follow_0 rfl rfl rfl 0 (by decide) (List.mem_of_getElem? (i := 1) rfl) rfl rfl dX1_follow_2 ?_
  refine lv_bipush (v := 12) hx hb dX1_follow_5 (by decide) ?_
  refine va_mmin hx hb (hml.trans hl.1.symm) hown (hts _ (List.mem_of_getElem? (i := 2) rfl)) (hts _ (List.mem_of_getElem? (i := 3) rfl)) (hts _ (List.mem_of_getElem? (i := 4) rfl)) (hts _ (List.mem_of_getElem? (i := 5) rfl)) (Nat.le_of_ble_eq_true rfl) (Nat.le_of_ble_eq_true rfl) (Nat.le_of_ble_eq_true rfl) (Nat.le_of_ble_eq_true rfl) dX1_follow_7 ?_
  obtain ⟨t_1, et_1, h⟩ := nm_ok h
  rw [← et_1]
  refine x_put (bs' := [fB G b (t_1, (F_st w), (F_od w), (F_so w), (F_ne w), (F_po w), (F_ex w)), cB G a v]) 0 0 X hw in_X1_follow_1 tyX1 tyX1_ok nmX1 rfl rfl rfl 0 (by decide) (List.mem_of_getElem? (i := 6) rfl) rfl rfl rfl rfl (Nat.le_of_ble_eq_true rfl) dX1_follow_10 rfl (fun H locs hw => ?_)
  refine lv_iconst (v := 0) hx hb dX1_follow_13 (by decide) ?_
  refine lv_istore_n (lv' := [(2, .int 0), (0, .ref (b 0)), (1, .ref (a 0))]) hx hb dX1_follow_14 rfl hl (by decide) rfl (fun ls hl => ?_)
  exact w_X1_follow_b15 X FU (t_1, (F_st w), (F_od w), (F_so w), (F_ne w), (F_po w), (F_ex w)) 0 _ _ _ h hw (lv_sub hl [1, 2, 0] rfl)

def rX1_fedBy : Room := { frames := 0, cells := 0, slots := 0, locals := 0 }
theorem hd_X1_fedBy : yX1_fedBy.cls = RX1 ∧ yX1_fedBy.cls ≠ "java/lang/invoke/MethodHandle" ∧ yX1_fedBy.cls ≠ "java/lang/invoke/VarHandle" ∧ (parseMethodDescriptor yX1_fedBy.desc).map (fun d => d.parameters.length) = some 1 := by decide +kernel
theorem in_X1_fedBy_1 : ∀ w ∈ u_ws RX1 TX1 7, w ∈ wsX1_fedBy := fun w h => (List.mem_cons_of_mem _ (List.mem_append_right _ h))
noncomputable def f_X1_fedBy_b4  (w : FV) (x1 : Int32) : Nat → Int32 → Int32 → Option (Int32)
  | 0 => fun _ _ => none
  | n + 1 => fun x2 x3 =>
    br ((F_se w) ≤ x3)
      (some (x2))
      (ck (vp_in x3 12) <|
       br (((F_so w) x3.toNatClampNeg) = x1)
         (nm (x2 + 1 : Int32) fun t_5 =>
          nm (x3 + 1 : Int32) fun t_6 =>
          f_X1_fedBy_b4 w x1 n t_5 t_6)
         (nm (x3 + 1 : Int32) fun t_4 =>
          f_X1_fedBy_b4 w x1 n x2 t_4))
set_option maxHeartbeats 4000000 in
set_option maxRecDepth 100000 in
theorem w_X1_fedBy_b4 {G : GG} {l : Launch} {p : Program} {e : Env} {s : State} {m : MethodId} {args : Array Value} {below : List Frame} {meth : Method} {c : Code} {A : Nat → Prop} {b : Nat → Nat} {w : FV} {x1 : Int32} {r : Int32}    (X : Cx p s m args meth c cX1_fedBy 4 (some .int) wsX1_fedBy RX1 G A)  :
    ∀ (n : Nat) (x2 : Int32) (x3 : Int32) (H : Heap) (locs : List Loc) (ls : Array Slot), f_X1_fedBy_b4 w x1 n x2 x3 = some (r) → Wd G A s H locs (fl [fB G b w]) → lv_has ls 4 [(0, .ref (b 0)), (1, .int x1), (2, .int x2), (3, .int x3)] → W p l e rX1_fedBy s m args below meth c H locs 0 0 (MQ below (Qi G A r (fl [fB G b w])) args s 0 0 A) (F0 m 4 ls []) := by
  obtain ⟨⟨hx, hb, hml, hown, hts⟩, hK, hr, hlk, hA⟩ := id X
  intro n
  induction n with
  | zero =>
    intro x2 x3 H locs ls h
    rw [f_X1_fedBy_b4] at h
    cases h
  | succ n ih =>
    intro x2 x3 H locs ls h hw hl
    rw [f_X1_fedBy_b4] at h
    refine lv_iload_n hx hb dX1_fedBy_4 rfl (lv_at hl 3 rfl) ?_
    refine lv_aload_n hx hb dX1_fedBy_5 rfl (lv_at hl 0 rfl) ?_
    refine x_get (v := .int (F_se w)) 0 0 X hw in_X1_fedBy_1 rfl rfl rfl 0 (by decide) (List.mem_of_getElem? (i := 1) rfl) rfl rfl dX1_fedBy_6 ?_
    refine lv_icmp_ge (tgt := 31) hx hb dX1_fedBy_9 (by decide) (fun k_1 => ?_) (fun k_1 => ?_)
    · have h := br_yes h k_1
      refine lv_iload_n hx hb dX1_fedBy_31 rfl (lv_at hl 2 rfl) ?_
      cases h
      exact x_iret X (vp_nar_int _) hw rfl rfl dX1_fedBy_32
    · have h := br_no h k_1
      refine lv_aload_n hx hb dX1_fedBy_12 rfl (lv_at hl 0 rfl) ?_
      refine x_get (v := .ref (b 3)) 0 0 X hw in_X1_fedBy_1 rfl rfl rfl 3 (by decide) (List.mem_of_getElem? (i := 2) rfl) rfl rfl dX1_fedBy_13 ?_
      refine lv_iload_n hx hb dX1_fedBy_16 rfl (lv_at hl 3 rfl) ?_
      obtain ⟨k_2, h⟩ := ck_ok h
      refine x_iald (f := (F_so w)) 0 3 X hw rfl rfl k_2 dX1_fedBy_17 ?_
      refine lv_iload_n hx hb dX1_fedBy_18 rfl (lv_at hl 1 rfl) ?_
      refine lv_icmp_ne (tgt := 25) hx hb dX1_fedBy_19 (by decide) (fun k_3 => ?_) (fun k_3 => ?_)
      · have h := br_no h k_3
        obtain ⟨t_4, et_4, h⟩ := nm_ok h
        refine lv_iinc (v := t_4) (lv' := [(3, .int t_4), (0, .ref (b 0)), (1, .int x1), (2, .int x2)]) hx hb dX1_fedBy_25 hl (k := 3) rfl (by rw [et_4]; rfl) (by decide) rfl (fun ls hl => ?_)
        refine lv_goto (tgt := 4) hx hb dX1_fedBy_28 (by decide) ?_
        exact ih x2 t_4 _ _ _ h hw (lv_sub hl [1, 2, 3, 0] rfl)
      · have h := br_yes h k_3
        obtain ⟨t_5, et_5, h⟩ := nm_ok h
        refine lv_iinc (v := t_5) (lv' := [(2, .int t_5), (0, .ref (b 0)), (1, .int x1), (3, .int x3)]) hx hb dX1_fedBy_22 hl (k := 2) rfl (by rw [et_5]; rfl) (by decide) rfl (fun ls hl => ?_)
        obtain ⟨t_6, et_6, h⟩ := nm_ok h
        refine lv_iinc (v := t_6) (lv' := [(3, .int t_6), (2, .int t_5), (0, .ref (b 0)), (1, .int x1)]) hx hb dX1_fedBy_25 hl (k := 3) rfl (by rw [et_6]; rfl) (by decide) rfl (fun ls hl => ?_)
        refine lv_goto (tgt := 4) hx hb dX1_fedBy_28 (by decide) ?_
        exact ih t_5 t_6 _ _ _ h hw (lv_sub hl [2, 3, 1, 0] rfl)
noncomputable def f_X1_fedBy  (w : FV) (x1 : Int32) : Option (Int32) :=
  f_X1_fedBy_b4 w x1 FU 0 0
set_option maxHeartbeats 4000000 in
set_option maxRecDepth 100000 in
theorem m_X1_fedBy {G : GG} {l : Launch} {b : Nat → Nat} {w : FV} {x1 : Int32} {r : Int32}  (h : f_X1_fedBy w x1 = some (r)) : Ci G l yX1_fedBy wsX1_fedBy rX1_fedBy [.ref (b 0), .int x1] (fl [fB G b w]) r (fl [fB G b w]) := by
  refine Ci.intro cX1_fedBy 4 (some .int) RX1 (by decide) rfl rfl (Nat.le_of_ble_eq_true rfl) ?_
  intro p e s m below meth c A ls X hw hl
  obtain ⟨⟨hx, hb, hml, hown, hts⟩, hK, hr, hlk, hA⟩ := id X
  unfold f_X1_fedBy at h
  have hl : lv_has ls 4 [(0, .ref (b 0)), (1, .int x1)] := hl
  refine lv_iconst (v := 0) hx hb dX1_fedBy_0 (by decide) ?_
  refine lv_istore_n (lv' := [(2, .int 0), (0, .ref (b 0)), (1, .int x1)]) hx hb dX1_fedBy_1 rfl hl (by decide) rfl (fun ls hl => ?_)
  refine lv_iconst (v := 0) hx hb dX1_fedBy_2 (by decide) ?_
  refine lv_istore_n (lv' := [(3, .int 0), (2, .int 0), (0, .ref (b 0)), (1, .int x1)]) hx hb dX1_fedBy_3 rfl hl (by decide) rfl (fun ls hl => ?_)
  exact w_X1_fedBy_b4 X FU 0 0 _ _ _ h hw (lv_sub hl [2, 3, 1, 0] rfl)

def rX1_excessOfAll : Room := { frames := 1, cells := 0, slots := 0, locals := 23 }
theorem hd_X1_excessOfAll : yX1_excessOfAll.cls = RX1 ∧ yX1_excessOfAll.cls ≠ "java/lang/invoke/MethodHandle" ∧ yX1_excessOfAll.cls ≠ "java/lang/invoke/VarHandle" ∧ (parseMethodDescriptor yX1_excessOfAll.desc).map (fun d => d.parameters.length) = some 0 := by decide +kernel
theorem in_X1_excessOfAll_1 : ∀ w ∈ u_ws RX1 TX1 7, w ∈ wsX1_excessOfAll := fun w h => (List.mem_cons_of_mem _ (List.mem_append_right _ h))
noncomputable def f_X1_excessOfAll  (w : FV)  : Option (Int32) :=
  bd (f_X4_sum 12 (F_ex w) (F_se w)) fun r_1 =>
  some (r_1)
set_option maxHeartbeats 4000000 in
set_option maxRecDepth 100000 in
theorem m_X1_excessOfAll {G : GG} {l : Launch} {b : Nat → Nat} {w : FV}  {r : Int32}  (h : f_X1_excessOfAll w = some (r)) : Ci G l yX1_excessOfAll wsX1_excessOfAll rX1_excessOfAll [.ref (b 0)] (fl [fB G b w]) r (fl [fB G b w]) := by
  refine Ci.intro cX1_excessOfAll 1 (some .int) RX1 (by decide) rfl rfl (Nat.le_of_ble_eq_true rfl) ?_
  intro p e s m below meth c A ls X hw hl
  obtain ⟨⟨hx, hb, hml, hown, hts⟩, hK, hr, hlk, hA⟩ := id X
  unfold f_X1_excessOfAll at h
  have hl : lv_has ls 1 [(0, .ref (b 0))] := hl
  refine lv_aload_n hx hb dX1_excessOfAll_0 rfl (lv_at hl 0 rfl) ?_
  refine x_get (v := .ref (b 6)) 0 0 X hw in_X1_excessOfAll_1 rfl rfl rfl 6 (by decide) (List.mem_of_getElem? (i := 1) rfl) rfl rfl dX1_excessOfAll_1 ?_
  refine lv_aload_n hx hb dX1_excessOfAll_4 rfl (lv_at hl 0 rfl) ?_
  refine x_get (v := .int (F_se w)) 0 0 X hw in_X1_excessOfAll_1 rfl rfl rfl 0 (by decide) (List.mem_of_getElem? (i := 2) rfl) rfl rfl dX1_excessOfAll_5 ?_
  obtain ⟨r_1, c_2, h⟩ := bd_ok h
  refine x_Ni (As := [.ref (b 6), .int (F_se w)]) (w' := fl [fB G b w]) X hw (m_X4_sum (G := G) (l := l) (q := (b 6)) c_2) (Cut.cellr 0 6 rfl rfl) ⟨va_cnB 2 hts gX1_excessOfAll_X4_sum_n87 rfl rfl rfl (hK.2.1 _ (List.mem_of_getElem? (i := 7) rfl)) (hts _ (List.mem_of_getElem? (i := 4) rfl)) hd_X4_sum.2 ⟨Nat.le_of_ble_eq_true rfl, Nat.le_of_ble_eq_true rfl⟩, hts _ (List.mem_of_getElem? (i := 3) rfl), trivial⟩ rfl hl.1 rfl (Nat.le_of_ble_eq_true rfl) dX1_excessOfAll_8 ⟨Nat.le_of_ble_eq_true rfl, Nat.le_of_ble_eq_true rfl⟩ (fun H locs hw => ?_)
  cases h
  exact x_iret X (vp_nar_int _) hw rfl rfl dX1_excessOfAll_11

def rX1_isSound : Room := { frames := 2, cells := 0, slots := 0, locals := 43 }
theorem hd_X1_isSound : yX1_isSound.cls = RX1 ∧ yX1_isSound.cls ≠ "java/lang/invoke/MethodHandle" ∧ yX1_isSound.cls ≠ "java/lang/invoke/VarHandle" ∧ (parseMethodDescriptor yX1_isSound.desc).map (fun d => d.parameters.length) = some 0 := by decide +kernel
noncomputable def f_X1_isSound  (w : FV)  : Option (Int32) :=
  bd (f_X1_excessOfAll w) fun r_1 =>
  br (r_1 = 0)
    (some (1))
    (some (0))
set_option maxHeartbeats 4000000 in
set_option maxRecDepth 100000 in
theorem m_X1_isSound {G : GG} {l : Launch} {b : Nat → Nat} {w : FV}  {r : Int32}  (h : f_X1_isSound w = some (r)) : Ci G l yX1_isSound wsX1_isSound rX1_isSound [.ref (b 0)] (fl [fB G b w]) r (fl [fB G b w]) := by
  refine Ci.intro cX1_isSound 1 (some .boolean) RX1 (by decide) rfl rfl (Nat.le_of_ble_eq_true rfl) ?_
  intro p e s m below meth c A ls X hw hl
  obtain ⟨⟨hx, hb, hml, hown, hts⟩, hK, hr, hlk, hA⟩ := id X
  unfold f_X1_isSound at h
  have hl : lv_has ls 1 [(0, .ref (b 0))] := hl
  refine lv_aload_n hx hb dX1_isSound_0 rfl (lv_at hl 0 rfl) ?_
  obtain ⟨r_1, c_2, h⟩ := bd_ok h
  refine x_Vi (As := []) (w' := fl [fB G b w]) X hw (m_X1_excessOfAll (G := G) (l := l) (b := b) c_2) Cut.all 0 0 rfl rfl rfl (cwV 0 hts gX1_isSound_X1_excessOfAll rfl rfl rfl hd_X1_excessOfAll ⟨Nat.le_of_ble_eq_true rfl, Nat.le_of_ble_eq_true rfl⟩) rfl hl.1 rfl (Nat.le_of_ble_eq_true rfl) dX1_isSound_1 ⟨Nat.le_of_ble_eq_true rfl, Nat.le_of_ble_eq_true rfl⟩ (fun H locs hw => ?_)
  refine lv_if_ne (tgt := 11) hx hb dX1_isSound_4 (by decide) (fun k_3 => ?_) (fun k_3 => ?_)
  · have h := br_no h k_3
    refine lv_iconst (v := 0) hx hb dX1_isSound_11 (by decide) ?_
    cases h
    exact x_iret X (narz (Or.inl rfl)) hw rfl rfl dX1_isSound_12
  · have h := br_yes h k_3
    refine lv_iconst (v := 1) hx hb dX1_isSound_7 (by decide) ?_
    refine lv_goto (tgt := 12) hx hb dX1_isSound_8 (by decide) ?_
    cases h
    exact x_iret X (narz (Or.inr rfl)) hw rfl rfl dX1_isSound_12

def rX1_hotSpotOf : Room := { frames := 1, cells := 0, slots := 0, locals := 21 }
theorem hd_X1_hotSpotOf : yX1_hotSpotOf.cls = RX1 ∧ yX1_hotSpotOf.cls ≠ "java/lang/invoke/MethodHandle" ∧ yX1_hotSpotOf.cls ≠ "java/lang/invoke/VarHandle" ∧ (parseMethodDescriptor yX1_hotSpotOf.desc).map (fun d => d.parameters.length) = some 1 := by decide +kernel
theorem in_X1_hotSpotOf_1 : ∀ w ∈ u_ws RX1 TX1 7, w ∈ wsX1_hotSpotOf := fun w h => (List.mem_cons_of_mem _ (List.mem_append_right _ h))
noncomputable def f_X1_hotSpotOf_b4  (w : FV) : Nat → Int32 → Int32 → Option (Int32)
  | 0 => fun _ _ => none
  | n + 1 => fun x2 x3 =>
    br ((F_se w) ≤ x3)
      (some (x2))
      (bd (f_X4_at 12 (F_so w) x2) fun r_2 =>
       br (r_2 = (-1))
         (some (x2))
         (bd (f_X4_at 12 (F_so w) x2) fun r_5 =>
          nm (x3 + 1 : Int32) fun t_7 =>
          f_X1_hotSpotOf_b4 w n r_5 t_7))
set_option maxHeartbeats 4000000 in
set_option maxRecDepth 100000 in
theorem w_X1_hotSpotOf_b4 {G : GG} {l : Launch} {p : Program} {e : Env} {s : State} {m : MethodId} {args : Array Value} {below : List Frame} {meth : Method} {c : Code} {A : Nat → Prop} {b : Nat → Nat} {w : FV} {r : Int32}    (X : Cx p s m args meth c cX1_hotSpotOf 4 (some .int) wsX1_hotSpotOf RX1 G A)  :
    ∀ (n : Nat) (x2 : Int32) (x3 : Int32) (H : Heap) (locs : List Loc) (ls : Array Slot), f_X1_hotSpotOf_b4 w n x2 x3 = some (r) → Wd G A s H locs (fl [fB G b w]) → lv_has ls 4 [(0, .ref (b 0)), (2, .int x2), (3, .int x3)] → W p l e rX1_hotSpotOf s m args below meth c H locs 0 0 (MQ below (Qi G A r (fl [fB G b w])) args s 0 0 A) (F0 m 4 ls []) := by
  obtain ⟨⟨hx, hb, hml, hown, hts⟩, hK, hr, hlk, hA⟩ := id X
  intro n
  induction n with
  | zero =>
    intro x2 x3 H locs ls h
    rw [f_X1_hotSpotOf_b4] at h
    cases h
  | succ n ih =>
    intro x2 x3 H locs ls h hw hl
    rw [f_X1_hotSpotOf_b4] at h
    refine lv_iload_n hx hb dX1_hotSpotOf_4 rfl (lv_at hl 2 rfl) ?_
    refine lv_aload_n hx hb dX1_hotSpotOf_5 rfl (lv_at hl 0 rfl) ?_
    refine x_get (v := .int (F_se w)) 0 0 X hw in_X1_hotSpotOf_1 rfl rfl rfl 0 (by decide) (List.mem_of_getElem? (i := 1) rfl) rfl rfl dX1_hotSpotOf_6 ?_
    refine lv_icmp_ge (tgt := 39) hx hb dX1_hotSpotOf_9 (by decide) (fun k_1 => ?_) (fun k_1 => ?_)
    · have h := br_yes h k_1
      refine lv_iload_n hx hb dX1_hotSpotOf_39 rfl (lv_at hl 1 rfl) ?_
      cases h
      exact x_iret X (vp_nar_int _) hw rfl rfl dX1_hotSpotOf_40
    · have h := br_no h k_1
      refine lv_aload_n hx hb dX1_hotSpotOf_12 rfl (lv_at hl 0 rfl) ?_
      refine x_get (v := .ref (b 3)) 0 0 X hw in_X1_hotSpotOf_1 rfl rfl rfl 3 (by decide) (List.mem_of_getElem? (i := 2) rfl) rfl rfl dX1_hotSpotOf_13 ?_
      refine lv_iload_n hx hb dX1_hotSpotOf_16 rfl (lv_at hl 1 rfl) ?_
      obtain ⟨r_2, c_3, h⟩ := bd_ok h
      refine x_Ni (As := [.ref (b 3), .int x2]) (w' := fl [fB G b w]) X hw (m_X4_at (G := G) (l := l) (q := (b 3)) c_3) (Cut.cellr 0 3 rfl rfl) ⟨va_cnB 2 hts gX1_hotSpotOf_X4_at_n67 rfl rfl rfl (hK.2.1 _ (List.mem_of_getElem? (i := 6) rfl)) (hts _ (List.mem_of_getElem? (i := 4) rfl)) hd_X4_at.2 ⟨Nat.le_of_ble_eq_true rfl, Nat.le_of_ble_eq_true rfl⟩, hts _ (List.mem_of_getElem? (i := 3) rfl), trivial⟩ rfl hl.1 rfl (Nat.le_of_ble_eq_true rfl) dX1_hotSpotOf_17 ⟨Nat.le_of_ble_eq_true rfl, Nat.le_of_ble_eq_true rfl⟩ (fun H locs hw => ?_)
      refine lv_iconst (v := (-1)) hx hb dX1_hotSpotOf_20 (by decide) ?_
      refine lv_icmp_eq (tgt := 39) hx hb dX1_hotSpotOf_21 (by decide) (fun k_4 => ?_) (fun k_4 => ?_)
      · have h := br_yes h k_4
        refine lv_iload_n hx hb dX1_hotSpotOf_39 rfl (lv_at hl 1 rfl) ?_
        cases h
        exact x_iret X (vp_nar_int _) hw rfl rfl dX1_hotSpotOf_40
      · have h := br_no h k_4
        refine lv_aload_n hx hb dX1_hotSpotOf_24 rfl (lv_at hl 0 rfl) ?_
        refine x_get (v := .ref (b 3)) 0 0 X hw in_X1_hotSpotOf_1 rfl rfl rfl 3 (by decide) (List.mem_of_getElem? (i := 2) rfl) rfl rfl dX1_hotSpotOf_25 ?_
        refine lv_iload_n hx hb dX1_hotSpotOf_28 rfl (lv_at hl 1 rfl) ?_
        obtain ⟨r_5, c_6, h⟩ := bd_ok h
        refine x_Ni (As := [.ref (b 3), .int x2]) (w' := fl [fB G b w]) X hw (m_X4_at (G := G) (l := l) (q := (b 3)) c_6) (Cut.cellr 0 3 rfl rfl) ⟨va_cnB 2 hts gX1_hotSpotOf_X4_at_n67 rfl rfl rfl (hK.2.1 _ (List.mem_of_getElem? (i := 6) rfl)) (hts _ (List.mem_of_getElem? (i := 4) rfl)) hd_X4_at.2 ⟨Nat.le_of_ble_eq_true rfl, Nat.le_of_ble_eq_true rfl⟩, hts _ (List.mem_of_getElem? (i := 3) rfl), trivial⟩ rfl hl.1 rfl (Nat.le_of_ble_eq_true rfl) dX1_hotSpotOf_29 ⟨Nat.le_of_ble_eq_true rfl, Nat.le_of_ble_eq_true rfl⟩ (fun H locs hw => ?_)
        refine lv_istore_n (lv' := [(2, .int r_5), (0, .ref (b 0)), (3, .int x3)]) hx hb dX1_hotSpotOf_32 rfl hl (by decide) rfl (fun ls hl => ?_)
        obtain ⟨t_7, et_7, h⟩ := nm_ok h
        refine lv_iinc (v := t_7) (lv' := [(3, .int t_7), (2, .int r_5), (0, .ref (b 0))]) hx hb dX1_hotSpotOf_33 hl (k := 2) rfl (by rw [et_7]; rfl) (by decide) rfl (fun ls hl => ?_)
        refine lv_goto (tgt := 4) hx hb dX1_hotSpotOf_36 (by decide) ?_
        exact ih r_5 t_7 _ _ _ h hw (lv_sub hl [2, 1, 0] rfl)
noncomputable def f_X1_hotSpotOf  (w : FV) (x1 : Int32) : Option (Int32) :=
  f_X1_hotSpotOf_b4 w FU x1 0
set_option maxHeartbeats 4000000 in
set_option maxRecDepth 100000 in
theorem m_X1_hotSpotOf {G : GG} {l : Launch} {b : Nat → Nat} {w : FV} {x1 : Int32} {r : Int32}  (h : f_X1_hotSpotOf w x1 = some (r)) : Ci G l yX1_hotSpotOf wsX1_hotSpotOf rX1_hotSpotOf [.ref (b 0), .int x1] (fl [fB G b w]) r (fl [fB G b w]) := by
  refine Ci.intro cX1_hotSpotOf 4 (some .int) RX1 (by decide) rfl rfl (Nat.le_of_ble_eq_true rfl) ?_
  intro p e s m below meth c A ls X hw hl
  obtain ⟨⟨hx, hb, hml, hown, hts⟩, hK, hr, hlk, hA⟩ := id X
  unfold f_X1_hotSpotOf at h
  have hl : lv_has ls 4 [(0, .ref (b 0)), (1, .int x1)] := hl
  refine lv_iload_n hx hb dX1_hotSpotOf_0 rfl (lv_at hl 1 rfl) ?_
  refine lv_istore_n (lv' := [(2, .int x1), (0, .ref (b 0)), (1, .int x1)]) hx hb dX1_hotSpotOf_1 rfl hl (by decide) rfl (fun ls hl => ?_)
  refine lv_iconst (v := 0) hx hb dX1_hotSpotOf_2 (by decide) ?_
  refine lv_istore_n (lv' := [(3, .int 0), (2, .int x1), (0, .ref (b 0)), (1, .int x1)]) hx hb dX1_hotSpotOf_3 rfl hl (by decide) rfl (fun ls hl => ?_)
  exact w_X1_hotSpotOf_b4 X FU x1 0 _ _ _ h hw (lv_sub hl [2, 1, 0] rfl)
