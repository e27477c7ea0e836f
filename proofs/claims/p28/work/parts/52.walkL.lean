def rL_low : Room := { frames := 0, cells := 0, slots := 0, locals := 0 }
theorem hd_L_low : yL_low.cls = RL ∧ yL_low.cls ≠ "java/lang/invoke/MethodHandle" ∧ yL_low.cls ≠ "java/lang/invoke/VarHandle" ∧ (parseMethodDescriptor yL_low.desc).map (fun d => d.parameters.length) = some 2 := by decide +kernel
noncomputable def f_L_low   (x0 : Int32) (x1 : Int32) : Option (Int32) :=
  ck (¬ (x1 : Int32) = 0) <|
  nm ((x0 &&& 2147483647) : Int32) fun t_2 =>
  some ((t_2 - t_2 / x1 * x1))
set_option maxHeartbeats 4000000 in
set_option maxRecDepth 100000 in
theorem m_L_low {G : GG} {l : Launch}   {x0 : Int32} {x1 : Int32} {r : Int32}  (h : f_L_low x0 x1 = some (r)) : Ci G l yL_low wsL_low rL_low [.int x0, .int x1] (fl []) r (fl []) := by
  refine Ci.intro cL_low 2 (some .int) RL (by decide) rfl rfl (Nat.le_of_ble_eq_true rfl) ?_
  intro p e s m below meth c A ls X hw hl
  obtain ⟨⟨hx, hb, hml, hown, hts⟩, hK, hr, hlk, hA⟩ := id X
  unfold f_L_low at h
  have hl : lv_has ls 2 [(0, .int x0), (1, .int x1)] := hl
  refine lv_iload_n hx hb dL_low_0 rfl (lv_at hl 0 rfl) ?_
  refine lv_ldc (v := 2147483647) hx hb hown (hts _ (List.mem_of_getElem? (i := 1) rfl)) dL_low_1 ?_
  refine lv_iand hx hb dL_low_3 ?_
  refine lv_iload_n hx hb dL_low_4 rfl (lv_at hl 1 rfl) ?_
  obtain ⟨k_1, h⟩ := ck_ok h
  obtain ⟨t_2, et_2, h⟩ := nm_ok h
  rw [← et_2]
  refine lv_irem hx hb dL_low_5 k_1 ?_
  cases h
  exact x_iret X (vp_nar_int _) hw rfl rfl dL_low_6

def rL_areNeighbours : Room := { frames := 4, cells := 0, slots := 0, locals := 86 }
theorem hd_L_areNeighbours : yL_areNeighbours.cls = RL ∧ yL_areNeighbours.cls ≠ "java/lang/invoke/MethodHandle" ∧ yL_areNeighbours.cls ≠ "java/lang/invoke/VarHandle" ∧ (parseMethodDescriptor yL_areNeighbours.desc).map (fun d => d.parameters.length) = some 3 := by decide +kernel
noncomputable def f_L_areNeighbours_b31  (k2 : Int32 → Option (Int32)) (vc : CV) (vf : FV) (x1 : Int32) (x2 : Int32) (x3 : Int32) : Option (Int32) :=
  bd (f_X4_joint vc x3 0) fun r_1 =>
  br (r_1 = x2)
    (bd (f_X4_joint vc x3 1) fun r_5 =>
     br (r_5 = x1)
       (some (1))
       (nm (x3 + 1 : Int32) fun t_8 =>
        k2 t_8))
    (nm (x3 + 1 : Int32) fun t_4 =>
     k2 t_4)
set_option maxHeartbeats 4000000 in
set_option maxRecDepth 100000 in
theorem w_L_areNeighbours_b31 {G : GG} {l : Launch} {p : Program} {e : Env} {s : State} {m : MethodId} {args : Array Value} {below : List Frame} {meth : Method} {c : Code} {A : Nat → Prop} {ax : Nat} {ac af ah at_ ar ad : Nat → Nat} {vc : CV} {vf : FV} {x1 : Int32} {x2 : Int32} {r : Int32}   {k2 : Int32 → Option (Int32)} (X : Cx p s m args meth c cL_areNeighbours 4 (some .boolean) wsL_areNeighbours RL G A) (hk2 : ∀ (x3 : Int32) (H : Heap) (locs : List Loc) (ls : Array Slot), k2 x3 = some (r) → Wd G A s H locs (fl [xB ax ac af ah at_ ar ad, cB G ac vc, fB G af vf]) → lv_has ls 4 [(0, .ref ax), (1, .int x1), (2, .int x2), (3, .int x3)] → W p l e rL_areNeighbours s m args below meth c H locs 0 0 (MQ below (Qi G A r (fl [xB ax ac af ah at_ ar ad, cB G ac vc, fB G af vf])) args s 0 0 A) (F0 m 2 ls [])) :
    ∀ (x3 : Int32) (H : Heap) (locs : List Loc) (ls : Array Slot), f_L_areNeighbours_b31 k2 vc vf x1 x2 x3 = some (r) → Wd G A s H locs (fl [xB ax ac af ah at_ ar ad, cB G ac vc, fB G af vf]) → lv_has ls 4 [(0, .ref ax), (1, .int x1), (2, .int x2), (3, .int x3)] → W p l e rL_areNeighbours s m args below meth c H locs 0 0 (MQ below (Qi G A r (fl [xB ax ac af ah at_ ar ad, cB G ac vc, fB G af vf])) args s 0 0 A) (F0 m 31 ls []) := by
  obtain ⟨⟨hx, hb, hml, hown, hts⟩, hK, hr, hlk, hA⟩ := id X
  intro x3 H locs ls h hw hl
  unfold f_L_areNeighbours_b31 at h
  refine lv_aload_n hx hb dL_areNeighbours_31 rfl (lv_at hl 0 rfl) ?_
  refine lv_iload_n hx hb dL_areNeighbours_32 rfl (lv_at hl 3 rfl) ?_
  refine lv_iconst (v := 0) hx hb dL_areNeighbours_33 (by decide) ?_
  obtain ⟨r_1, c_2, h⟩ := bd_ok h
  refine x_Vi (As := [.int x3, .int 0]) (w' := fl [xB ax ac af ah at_ ar ad, cB G ac vc, fB G af vf]) X hw (m_X4_joint (G := G) (l := l) (ax := ax) (ac := ac) (af := af) (ah := ah) (at_ := at_) (ar := ar) (ad := ad) c_2) (cut8 (bs' := [xB ax ac af ah at_ ar ad, cB G ac vc, fB G af vf]) 3 [0, 1] [2] [0, 1, 2] [xB ax ac af ah at_ ar ad, cB G ac vc] rfl (by decide +kernel) rfl rfl rfl (by decide +kernel) rfl) 0 0 rfl rfl rfl (cwV 2 hts gL_areNeighbours_X4_joint rfl rfl rfl hd_X4_joint ⟨Nat.le_of_ble_eq_true rfl, Nat.le_of_ble_eq_true rfl⟩) rfl hl.1 rfl (Nat.le_of_ble_eq_true rfl) dL_areNeighbours_34 ⟨Nat.le_of_ble_eq_true rfl, Nat.le_of_ble_eq_true rfl⟩ (fun H locs hw => ?_)
  refine lv_iload_n hx hb dL_areNeighbours_37 rfl (lv_at hl 2 rfl) ?_
  refine lv_icmp_ne (tgt := 53) hx hb dL_areNeighbours_38 (by decide) (fun k_3 => ?_) (fun k_3 => ?_)
  · have h := br_no h k_3
    obtain ⟨t_4, et_4, h⟩ := nm_ok h
    refine lv_iinc (v := t_4) (lv' := [(3, .int t_4), (0, .ref ax), (1, .int x1), (2, .int x2)]) hx hb dL_areNeighbours_53 hl (k := 3) rfl (by rw [et_4]; rfl) (by decide) rfl (fun ls hl => ?_)
    refine lv_goto (tgt := 2) hx hb dL_areNeighbours_56 (by decide) ?_
    exact hk2 t_4 _ _ _ h hw (lv_sub hl [1, 2, 3, 0] rfl)
  · have h := br_yes h k_3
    refine lv_aload_n hx hb dL_areNeighbours_41 rfl (lv_at hl 0 rfl) ?_
    refine lv_iload_n hx hb dL_areNeighbours_42 rfl (lv_at hl 3 rfl) ?_
    refine lv_iconst (v := 1) hx hb dL_areNeighbours_43 (by decide) ?_
    obtain ⟨r_5, c_6, h⟩ := bd_ok h
    refine x_Vi (As := [.int x3, .int 1]) (w' := fl [xB ax ac af ah at_ ar ad, cB G ac vc, fB G af vf]) X hw (m_X4_joint (G := G) (l := l) (ax := ax) (ac := ac) (af := af) (ah := ah) (at_ := at_) (ar := ar) (ad := ad) c_6) (cut8 (bs' := [xB ax ac af ah at_ ar ad, cB G ac vc, fB G af vf]) 3 [0, 1] [2] [0, 1, 2] [xB ax ac af ah at_ ar ad, cB G ac vc] rfl (by decide +kernel) rfl rfl rfl (by decide +kernel) rfl) 0 0 rfl rfl rfl (cwV 2 hts gL_areNeighbours_X4_joint rfl rfl rfl hd_X4_joint ⟨Nat.le_of_ble_eq_true rfl, Nat.le_of_ble_eq_true rfl⟩) rfl hl.1 rfl (Nat.le_of_ble_eq_true rfl) dL_areNeighbours_44 ⟨Nat.le_of_ble_eq_true rfl, Nat.le_of_ble_eq_true rfl⟩ (fun H locs hw => ?_)
    refine lv_iload_n hx hb dL_areNeighbours_47 rfl (lv_at hl 1 rfl) ?_
    refine lv_icmp_ne (tgt := 53) hx hb dL_areNeighbours_48 (by decide) (fun k_7 => ?_) (fun k_7 => ?_)
    · have h := br_no h k_7
      obtain ⟨t_8, et_8, h⟩ := nm_ok h
      refine lv_iinc (v := t_8) (lv' := [(3, .int t_8), (0, .ref ax), (1, .int x1), (2, .int x2)]) hx hb dL_areNeighbours_53 hl (k := 3) rfl (by rw [et_8]; rfl) (by decide) rfl (fun ls hl => ?_)
      refine lv_goto (tgt := 2) hx hb dL_areNeighbours_56 (by decide) ?_
      exact hk2 t_8 _ _ _ h hw (lv_sub hl [1, 2, 3, 0] rfl)
    · have h := br_yes h k_7
      refine lv_iconst (v := 1) hx hb dL_areNeighbours_51 (by decide) ?_
      cases h
      exact x_iret X (narz (Or.inr rfl)) hw rfl rfl dL_areNeighbours_52
noncomputable def f_L_areNeighbours_b2  (vc : CV) (vf : FV) (x1 : Int32) (x2 : Int32) : Nat → Int32 → Option (Int32)
  | 0 => fun _ => none
  | n + 1 => fun x3 =>
    bd (f_X4_count vc vf 1) fun r_1 =>
    br (r_1 ≤ x3)
      (some (0))
      (bd (f_X4_joint vc x3 0) fun r_4 =>
       br (r_4 = x1)
         (bd (f_X4_joint vc x3 1) fun r_7 =>
          br (r_7 = x2)
            (some (1))
            (f_L_areNeighbours_b31 (f_L_areNeighbours_b2 vc vf x1 x2 n) vc vf x1 x2 x3))
         (f_L_areNeighbours_b31 (f_L_areNeighbours_b2 vc vf x1 x2 n) vc vf x1 x2 x3))
set_option maxHeartbeats 4000000 in
set_option maxRecDepth 100000 in
theorem w_L_areNeighbours_b2 {G : GG} {l : Launch} {p : Program} {e : Env} {s : State} {m : MethodId} {args : Array Value} {below : List Frame} {meth : Method} {c : Code} {A : Nat → Prop} {ax : Nat} {ac af ah at_ ar ad : Nat → Nat} {vc : CV} {vf : FV} {x1 : Int32} {x2 : Int32} {r : Int32}    (X : Cx p s m args meth c cL_areNeighbours 4 (some .boolean) wsL_areNeighbours RL G A)  :
    ∀ (n : Nat) (x3 : Int32) (H : Heap) (locs : List Loc) (ls : Array Slot), f_L_areNeighbours_b2 vc vf x1 x2 n x3 = some (r) → Wd G A s H locs (fl [xB ax ac af ah at_ ar ad, cB G ac vc, fB G af vf]) → lv_has ls 4 [(0, .ref ax), (1, .int x1), (2, .int x2), (3, .int x3)] → W p l e rL_areNeighbours s m args below meth c H locs 0 0 (MQ below (Qi G A r (fl [xB ax ac af ah at_ ar ad, cB G ac vc, fB G af vf])) args s 0 0 A) (F0 m 2 ls []) := by
  obtain ⟨⟨hx, hb, hml, hown, hts⟩, hK, hr, hlk, hA⟩ := id X
  intro n
  induction n with
  | zero =>
    intro x3 H locs ls h
    rw [f_L_areNeighbours_b2] at h
    cases h
  | succ n ih =>
    intro x3 H locs ls h hw hl
    rw [f_L_areNeighbours_b2] at h
    refine lv_iload_n hx hb dL_areNeighbours_2 rfl (lv_at hl 3 rfl) ?_
    refine lv_aload_n hx hb dL_areNeighbours_3 rfl (lv_at hl 0 rfl) ?_
    refine lv_iconst (v := 1) hx hb dL_areNeighbours_4 (by decide) ?_
    obtain ⟨r_1, c_2, h⟩ := bd_ok h
    refine x_Vi (As := [.int 1]) (w' := fl [xB ax ac af ah at_ ar ad, cB G ac vc, fB G af vf]) X hw (m_X4_count (G := G) (l := l) (ax := ax) (ac := ac) (af := af) (ah := ah) (at_ := at_) (ar := ar) (ad := ad) c_2) Cut.all 0 0 rfl rfl rfl (cwV 1 hts gL_areNeighbours_X4_count rfl rfl rfl hd_X4_count ⟨Nat.le_of_ble_eq_true rfl, Nat.le_of_ble_eq_true rfl⟩) rfl hl.1 rfl (Nat.le_of_ble_eq_true rfl) dL_areNeighbours_5 ⟨Nat.le_of_ble_eq_true rfl, Nat.le_of_ble_eq_true rfl⟩ (fun H locs hw => ?_)
    refine lv_icmp_ge (tgt := 59) hx hb dL_areNeighbours_8 (by decide) (fun k_3 => ?_) (fun k_3 => ?_)
    · have h := br_yes h k_3
      refine lv_iconst (v := 0) hx hb dL_areNeighbours_59 (by decide) ?_
      cases h
      exact x_iret X (narz (Or.inl rfl)) hw rfl rfl dL_areNeighbours_60
    · have h := br_no h k_3
      refine lv_aload_n hx hb dL_areNeighbours_11 rfl (lv_at hl 0 rfl) ?_
      refine lv_iload_n hx hb dL_areNeighbours_12 rfl (lv_at hl 3 rfl) ?_
      refine lv_iconst (v := 0) hx hb dL_areNeighbours_13 (by decide) ?_
      obtain ⟨r_4, c_5, h⟩ := bd_ok h
      refine x_Vi (As := [.int x3, .int 0]) (w' := fl [xB ax ac af ah at_ ar ad, cB G ac vc, fB G af vf]) X hw (m_X4_joint (G := G) (l := l) (ax := ax) (ac := ac) (af := af) (ah := ah) (at_ := at_) (ar := ar) (ad := ad) c_5) (cut8 (bs' := [xB ax ac af ah at_ ar ad, cB G ac vc, fB G af vf]) 3 [0, 1] [2] [0, 1, 2] [xB ax ac af ah at_ ar ad, cB G ac vc] rfl (by decide +kernel) rfl rfl rfl (by decide +kernel) rfl) 0 0 rfl rfl rfl (cwV 2 hts gL_areNeighbours_X4_joint rfl rfl rfl hd_X4_joint ⟨Nat.le_of_ble_eq_true rfl, Nat.le_of_ble_eq_true rfl⟩) rfl hl.1 rfl (Nat.le_of_ble_eq_true rfl) dL_areNeighbours_14 ⟨Nat.le_of_ble_eq_true rfl, Nat.le_of_ble_eq_true rfl⟩ (fun H locs hw => ?_)
      refine lv_iload_n hx hb dL_areNeighbours_17 rfl (lv_at hl 1 rfl) ?_
      refine lv_icmp_ne (tgt := 31) hx hb dL_areNeighbours_18 (by decide) (fun k_6 => ?_) (fun k_6 => ?_)
      · have h := br_no h k_6
        exact w_L_areNeighbours_b31 X ih x3 _ _ _ h hw (lv_sub hl [0, 1, 2, 3] rfl)
      · have h := br_yes h k_6
        refine lv_aload_n hx hb dL_areNeighbours_21 rfl (lv_at hl 0 rfl) ?_
        refine lv_iload_n hx hb dL_areNeighbours_22 rfl (lv_at hl 3 rfl) ?_
        refine lv_iconst (v := 1) hx hb dL_areNeighbours_23 (by decide) ?_
        obtain ⟨r_7, c_8, h⟩ := bd_ok h
        refine x_Vi (As := [.int x3, .int 1]) (w' := fl [xB ax ac af ah at_ ar ad, cB G ac vc, fB G af vf]) X hw (m_X4_joint (G := G) (l := l) (ax := ax) (ac := ac) (af := af) (ah := ah) (at_ := at_) (ar := ar) (ad := ad) c_8) (cut8 (bs' := [xB ax ac af ah at_ ar ad, cB G ac vc, fB G af vf]) 3 [0, 1] [2] [0, 1, 2] [xB ax ac af ah at_ ar ad, cB G ac vc] rfl (by decide +kernel) rfl rfl rfl (by decide +kernel) rfl) 0 0 rfl rfl rfl (cwV 2 hts gL_areNeighbours_X4_joint rfl rfl rfl hd_X4_joint ⟨Nat.le_of_ble_eq_true rfl, Nat.le_of_ble_eq_true rfl⟩) rfl hl.1 rfl (Nat.le_of_ble_eq_true rfl) dL_areNeighbours_24 ⟨Nat.le_of_ble_eq_true rfl, Nat.le_of_ble_eq_true rfl⟩ (fun H locs hw => ?_)
        refine lv_iload_n hx hb dL_areNeighbours_27 rfl (lv_at hl 2 rfl) ?_
        refine lv_icmp_eq (tgt := 51) hx hb dL_areNeighbours_28 (by decide) (fun k_9 => ?_) (fun k_9 => ?_)
        · have h := br_yes h k_9
          refine lv_iconst (v := 1) hx hb dL_areNeighbours_51 (by decide) ?_
          cases h
          exact x_iret X (narz (Or.inr rfl)) hw rfl rfl dL_areNeighbours_52
        · have h := br_no h k_9
          exact w_L_areNeighbours_b31 X ih x3 _ _ _ h hw (lv_sub hl [0, 1, 2, 3] rfl)
noncomputable def f_L_areNeighbours  (vc : CV) (vf : FV) (x1 : Int32) (x2 : Int32) : Option (Int32) :=
  f_L_areNeighbours_b2 vc vf x1 x2 FU 0
set_option maxHeartbeats 4000000 in
set_option maxRecDepth 100000 in
theorem m_L_areNeighbours {G : GG} {l : Launch} {ax : Nat} {ac af ah at_ ar ad : Nat → Nat} {vc : CV} {vf : FV} {x1 : Int32} {x2 : Int32} {r : Int32}  (h : f_L_areNeighbours vc vf x1 x2 = some (r)) : Ci G l yL_areNeighbours wsL_areNeighbours rL_areNeighbours [.ref ax, .int x1, .int x2] (fl [xB ax ac af ah at_ ar ad, cB G ac vc, fB G af vf]) r (fl [xB ax ac af ah at_ ar ad, cB G ac vc, fB G af vf]) := by
  refine Ci.intro cL_areNeighbours 4 (some .boolean) RL (by decide) rfl rfl (Nat.le_of_ble_eq_true rfl) ?_
  intro p e s m below meth c A ls X hw hl
  obtain ⟨⟨hx, hb, hml, hown, hts⟩, hK, hr, hlk, hA⟩ := id X
  unfold f_L_areNeighbours at h
  have hl : lv_has ls 4 [(0, .ref ax), (1, .int x1), (2, .int x2)] := hl
  refine lv_iconst (v := 0) hx hb dL_areNeighbours_0 (by decide) ?_
  refine lv_istore_n (lv' := [(3, .int 0), (0, .ref ax), (1, .int x1), (2, .int x2)]) hx hb dL_areNeighbours_1 rfl hl (by decide) rfl (fun ls hl => ?_)
  exact w_L_areNeighbours_b2 X FU 0 _ _ _ h hw (lv_sub hl [1, 2, 3, 0] rfl)

def rL_changes : Room := { frames := 6, cells := 0, slots := 0, locals := 131 }
theorem hd_L_changes : yL_changes.cls = RL ∧ yL_changes.cls ≠ "java/lang/invoke/MethodHandle" ∧ yL_changes.cls ≠ "java/lang/invoke/VarHandle" ∧ (parseMethodDescriptor yL_changes.desc).map (fun d => d.parameters.length) = some 2 := by decide +kernel
noncomputable def f_L_changes  (vc : CV) (vf : FV) (vh : HV) (x1 : Int32) : Option (Int32 × CV × FV × HV) :=
  bd (f_L_low (x1 >>> (4 &&& 31)) 12) fun r_1 =>
  bd (f_L_low (x1 >>> (8 &&& 31)) 12) fun r_3 =>
  bd (f_L_low x1 14) fun r_5 =>
  br (r_5 = 0)
    (bd (f_L_low (x1 >>> (4 &&& 31)) 2000) fun r_8 =>
     bd (f_L_low (x1 >>> (15 &&& 31)) 1500) fun r_10 =>
     br (((x1 >>> (14 &&& 31)) &&& 3) = 0)
       (bd4 (f_X4_addSection vc vf vh (1 + r_8) (1 + r_10) 1) fun r_18 v_19 w_20 g_21 =>
        some (r_18, v_19, w_20, g_21))
       (bd4 (f_X4_addSection vc vf vh (1 + r_8) (1 + r_10) 0) fun r_13 v_14 w_15 g_16 =>
        some (r_13, v_14, w_15, g_16)))
  (
  br (r_5 = 1)
    (bd (f_L_low (x1 >>> (4 &&& 31)) 2000) fun r_24 =>
     bd (f_L_low (x1 >>> (15 &&& 31)) 1500) fun r_26 =>
     br (((x1 >>> (14 &&& 31)) &&& 3) = 0)
       (bd4 (f_X4_addSection vc vf vh (1 + r_24) (1 + r_26) 1) fun r_34 v_35 w_36 g_37 =>
        some (r_34, v_35, w_36, g_37))
       (bd4 (f_X4_addSection vc vf vh (1 + r_24) (1 + r_26) 0) fun r_29 v_30 w_31 g_32 =>
        some (r_29, v_30, w_31, g_32)))
  (
  br (r_5 = 2)
    (bd (f_L_low (x1 >>> (4 &&& 31)) 2000) fun r_40 =>
     bd (f_L_low (x1 >>> (15 &&& 31)) 1500) fun r_42 =>
     br (((x1 >>> (14 &&& 31)) &&& 3) = 0)
       (bd4 (f_X4_addSection vc vf vh (1 + r_40) (1 + r_42) 1) fun r_50 v_51 w_52 g_53 =>
        some (r_50, v_51, w_52, g_53))
       (bd4 (f_X4_addSection vc vf vh (1 + r_40) (1 + r_42) 0) fun r_45 v_46 w_47 g_48 =>
        some (r_45, v_46, w_47, g_48)))
  (
  br (r_5 = 3)
    (bd (f_L_low (x1 >>> (8 &&& 31)) 1000) fun r_56 =>
     bd (f_L_low (x1 >>> (18 &&& 31)) 900) fun r_58 =>
     bd4 (f_X4_resize vc vf vh r_1 (1 + r_56) (1 + r_58)) fun r_60 v_61 w_62 g_63 =>
     some (r_60, v_61, w_62, g_63))
  (
  br (r_5 = 4)
    (bd (f_L_low (x1 >>> (8 &&& 31)) 501) fun r_66 =>
     bd4 (f_X4_setChill vc vf vh r_1 r_66) fun r_68 v_69 w_70 g_71 =>
     some (r_68, v_69, w_70, g_71))
  (
  br (r_5 = 5)
    (bd4 (f_X4_removeSection vc vf vh r_1) fun r_74 v_75 w_76 g_77 =>
     some (r_74, v_75, w_76, g_77))
  (
  br (r_5 = 6)
    (bd (f_L_low (x1 >>> (4 &&& 31)) 20) fun r_80 =>
     bd4 (f_X4_part vc vf vh r_80) fun r_82 v_83 w_84 g_85 =>
     some (r_82, v_83, w_84, g_85))
  (
  br (r_5 = 7)
    (bd (f_L_low (x1 >>> (4 &&& 31)) 201) fun r_88 =>
     bd (f_L_low (x1 >>> (12 &&& 31)) 501) fun r_90 =>
     bd4 (f_X4_setMetal vc vf vh r_88 r_90) fun r_92 v_93 w_94 g_95 =>
     some (r_92, v_93, w_94, g_95))
  (
  bd4 (f_X4_join vc vf vh r_1 r_3) fun r_97 v_98 w_99 g_100 =>
  some (r_97, v_98, w_99, g_100)
  ))))))))
set_option maxHeartbeats 4000000 in
set_option maxRecDepth 100000 in
theorem m_L_changes {G : GG} {l : Launch} {ax : Nat} {ac af ah at_ ar ad : Nat → Nat} {vc : CV} {vf : FV} {vh : HV} {x1 : Int32} {r : Int32} {zvc : CV} {zvf : FV} {zvh : HV} (h : f_L_changes vc vf vh x1 = some (r, zvc, zvf, zvh)) : Ci G l yL_changes wsL_changes rL_changes [.ref ax, .int x1] (fl [xB ax ac af ah at_ ar ad, cB G ac vc, fB G af vf, hB G ah vh]) r (fl [xB ax ac af ah at_ ar ad, cB G ac zvc, fB G af zvf, hB G ah zvh]) := by
  refine Ci.intro cL_changes 4 (some .int) RL (by decide) rfl rfl (Nat.le_of_ble_eq_true rfl) ?_
  intro p e s m below meth c A ls X hw hl
  obtain ⟨⟨hx, hb, hml, hown, hts⟩, hK, hr, hlk, hA⟩ := id X
  unfold f_L_changes at h
  have hl : lv_has ls 4 [(0, .ref ax), (1, .int x1)] := hl
  refine lv_iload_n hx hb dL_changes_0 rfl (lv_at hl 1 rfl) ?_
  refine lv_iconst (v := 4) hx hb dL_changes_1 (by decide) ?_
  refine lv_ishr hx hb dL_changes_2 ?_
  refine lv_bipush (v := 12) hx hb dL_changes_3 (by decide) ?_
  obtain ⟨r_1, c_2, h⟩ := bd_ok h
  refine x_Si (As := [.int (x1 >>> (4 &&& 31)), .int 12]) (w' := fl [xB ax ac af ah at_ ar ad, cB G ac vc, fB G af vf, hB G ah vh]) X hw (m_L_low (G := G) (l := l) c_2) Cut.nil (va_cwS 2 hts gL_changes_L_low rfl rfl rfl hd_L_low.2 ⟨Nat.le_of_ble_eq_true rfl, Nat.le_of_ble_eq_true rfl⟩) rfl hl.1 rfl (Nat.le_of_ble_eq_true rfl) dL_changes_5 ⟨Nat.le_of_ble_eq_true rfl, Nat.le_of_ble_eq_true rfl⟩ (fun H locs hw => ?_)
  refine lv_istore_n (lv' := [(2, .int r_1), (0, .ref ax), (1, .int x1)]) hx hb dL_changes_8 rfl hl (by decide) rfl (fun ls hl => ?_)
  refine lv_iload_n hx hb dL_changes_9 rfl (lv_at hl 2 rfl) ?_
  refine lv_bipush (v := 8) hx hb dL_changes_10 (by decide) ?_
  refine lv_ishr hx hb dL_changes_12 ?_
  refine lv_bipush (v := 12) hx hb dL_changes_13 (by decide) ?_
  obtain ⟨r_3, c_4, h⟩ := bd_ok h
  refine x_Si (As := [.int (x1 >>> (8 &&& 31)), .int 12]) (w' := fl [xB ax ac af ah at_ ar ad, cB G ac vc, fB G af vf, hB G ah vh]) X hw (m_L_low (G := G) (l := l) c_4) Cut.nil (va_cwS 2 hts gL_changes_L_low rfl rfl rfl hd_L_low.2 ⟨Nat.le_of_ble_eq_true rfl, Nat.le_of_ble_eq_true rfl⟩) rfl hl.1 rfl (Nat.le_of_ble_eq_true rfl) dL_changes_15 ⟨Nat.le_of_ble_eq_true rfl, Nat.le_of_ble_eq_true rfl⟩ (fun H locs hw => ?_)
  refine lv_istore_n (lv' := [(3, .int r_3), (2, .int r_1), (0, .ref ax), (1, .int x1)]) hx hb dL_changes_18 rfl hl (by decide) rfl (fun ls hl => ?_)
  refine lv_iload_n hx hb dL_changes_19 rfl (lv_at hl 3 rfl) ?_
  refine lv_bipush (v := 14) hx hb dL_changes_20 (by decide) ?_
  obtain ⟨r_5, c_6, h⟩ := bd_ok h
  refine x_Si (As := [.int x1, .int 14]) (w' := fl [xB ax ac af ah at_ ar ad, cB G ac vc, fB G af vf, hB G ah vh]) X hw (m_L_low (G := G) (l := l) c_6) Cut.nil (va_cwS 2 hts gL_changes_L_low rfl rfl rfl hd_L_low.2 ⟨Nat.le_of_ble_eq_true rfl, Nat.le_of_ble_eq_true rfl⟩) rfl hl.1 rfl (Nat.le_of_ble_eq_true rfl) dL_changes_22 ⟨Nat.le_of_ble_eq_true rfl, Nat.le_of_ble_eq_true rfl⟩ (fun H locs hw => ?_)
  by_cases k_7 : r_5 = 0
  · have h := br_yes h k_7
    refine lv_tableIn (tgt := 72) hx hb dL_changes_25 (by rw [k_7]; decide) (by rw [k_7]; decide) (by rw [k_7]; rfl) (by decide) ?_
    refine lv_aload_n hx hb dL_changes_72 rfl (lv_at hl 2 rfl) ?_
    refine lv_iconst (v := 1) hx hb dL_changes_73 (by decide) ?_
    refine lv_iload_n hx hb dL_changes_74 rfl (lv_at hl 3 rfl) ?_
    refine lv_iconst (v := 4) hx hb dL_changes_75 (by decide) ?_
    refine lv_ishr hx hb dL_changes_76 ?_
    refine lv_sipush (v := 2000) hx hb dL_changes_77 (by decide) ?_
    obtain ⟨r_8, c_9, h⟩ := bd_ok h
    refine x_Si (As := [.int (x1 >>> (4 &&& 31)), .int 2000]) (w' := fl [xB ax ac af ah at_ ar ad, cB G ac vc, fB G af vf, hB G ah vh]) X hw (m_L_low (G := G) (l := l) c_9) Cut.nil (va_cwS 2 hts gL_changes_L_low rfl rfl rfl hd_L_low.2 ⟨Nat.le_of_ble_eq_true rfl, Nat.le_of_ble_eq_true rfl⟩) rfl hl.1 rfl (Nat.le_of_ble_eq_true rfl) dL_changes_80 ⟨Nat.le_of_ble_eq_true rfl, Nat.le_of_ble_eq_true rfl⟩ (fun H locs hw => ?_)
    refine lv_iadd hx hb dL_changes_83 ?_
    refine lv_iconst (v := 1) hx hb dL_changes_84 (by decide) ?_
    refine lv_iload_n hx hb dL_changes_85 rfl (lv_at hl 3 rfl) ?_
    refine lv_bipush (v := 15) hx hb dL_changes_86 (by decide) ?_
    refine lv_ishr hx hb dL_changes_88 ?_
    refine lv_sipush (v := 1500) hx hb dL_changes_89 (by decide) ?_
    obtain ⟨r_10, c_11, h⟩ := bd_ok h
    refine x_Si (As := [.int (x1 >>> (15 &&& 31)), .int 1500]) (w' := fl [xB ax ac af ah at_ ar ad, cB G ac vc, fB G af vf, hB G ah vh]) X hw (m_L_low (G := G) (l := l) c_11) Cut.nil (va_cwS 2 hts gL_changes_L_low rfl rfl rfl hd_L_low.2 ⟨Nat.le_of_ble_eq_true rfl, Nat.le_of_ble_eq_true rfl⟩) rfl hl.1 rfl (Nat.le_of_ble_eq_true rfl) dL_changes_92 ⟨Nat.le_of_ble_eq_true rfl, Nat.le_of_ble_eq_true rfl⟩ (fun H locs hw => ?_)
    refine lv_iadd hx hb dL_changes_95 ?_
    refine lv_iload_n hx hb dL_changes_96 rfl (lv_at hl 3 rfl) ?_
    refine lv_bipush (v := 14) hx hb dL_changes_97 (by decide) ?_
    refine lv_ishr hx hb dL_changes_99 ?_
    refine lv_iconst (v := 3) hx hb dL_changes_100 (by decide) ?_
    refine lv_iand hx hb dL_changes_101 ?_
    refine lv_if_ne (tgt := 109) hx hb dL_changes_102 (by decide) (fun k_12 => ?_) (fun k_12 => ?_)
    · have h := br_no h k_12
      refine lv_iconst (v := 0) hx hb dL_changes_109 (by decide) ?_
      obtain ⟨r_13, v_14, w_15, g_16, c_17, h⟩ := bd4_ok h
      refine x_Vi (As := [.int (1 + r_8), .int (1 + r_10), .int 0]) (w' := fl [xB ax ac af ah at_ ar ad, cB G ac v_14, fB G af w_15, hB G ah g_16]) X hw (m_X4_addSection (G := G) (l := l) (ax := ax) (ac := ac) (af := af) (ah := ah) (at_ := at_) (ar := ar) (ad := ad) c_17) Cut.all 0 0 rfl rfl rfl (cwV 3 hts gL_changes_X4_addSection rfl rfl rfl hd_X4_addSection ⟨Nat.le_of_ble_eq_true rfl, Nat.le_of_ble_eq_true rfl⟩) rfl hl.1 rfl (Nat.le_of_ble_eq_true rfl) dL_changes_110 ⟨Nat.le_of_ble_eq_true rfl, Nat.le_of_ble_eq_true rfl⟩ (fun H locs hw => ?_)
      cases h
      exact x_iret X (vp_nar_int _) hw rfl rfl dL_changes_113
    · have h := br_yes h k_12
      refine lv_iconst (v := 1) hx hb dL_changes_105 (by decide) ?_
      refine lv_goto (tgt := 110) hx hb dL_changes_106 (by decide) ?_
      obtain ⟨r_18, v_19, w_20, g_21, c_22, h⟩ := bd4_ok h
      refine x_Vi (As := [.int (1 + r_8), .int (1 + r_10), .int 1]) (w' := fl [xB ax ac af ah at_ ar ad, cB G ac v_19, fB G af w_20, hB G ah g_21]) X hw (m_X4_addSection (G := G) (l := l) (ax := ax) (ac := ac) (af := af) (ah := ah) (at_ := at_) (ar := ar) (ad := ad) c_22) Cut.all 0 0 rfl rfl rfl (cwV 3 hts gL_changes_X4_addSection rfl rfl rfl hd_X4_addSection ⟨Nat.le_of_ble_eq_true rfl, Nat.le_of_ble_eq_true rfl⟩) rfl hl.1 rfl (Nat.le_of_ble_eq_true rfl) dL_changes_110 ⟨Nat.le_of_ble_eq_true rfl, Nat.le_of_ble_eq_true rfl⟩ (fun H locs hw => ?_)
      cases h
      exact x_iret X (vp_nar_int _) hw rfl rfl dL_changes_113
  · have h := br_no h k_7
    by_cases k_23 : r_5 = 1
    · have h := br_yes h k_23
      refine lv_tableIn (tgt := 72) hx hb dL_changes_25 (by rw [k_23]; decide) (by rw [k_23]; decide) (by rw [k_23]; rfl) (by decide) ?_
      refine lv_aload_n hx hb dL_changes_72 rfl (lv_at hl 2 rfl) ?_
      refine lv_iconst (v := 1) hx hb dL_changes_73 (by decide) ?_
      refine lv_iload_n hx hb dL_changes_74 rfl (lv_at hl 3 rfl) ?_
      refine lv_iconst (v := 4) hx hb dL_changes_75 (by decide) ?_
      refine lv_ishr hx hb dL_changes_76 ?_
      refine lv_sipush (v := 2000) hx hb dL_changes_77 (by decide) ?_
      obtain ⟨r_24, c_25, h⟩ := bd_ok h
      refine x_Si (As := [.int (x1 >>> (4 &&& 31)), .int 2000]) (w' := fl [xB ax ac af ah at_ ar ad, cB G ac vc, fB G af vf, hB G ah vh]) X hw (m_L_low (G := G) (l := l) c_25) Cut.nil (va_cwS 2 hts gL_changes_L_low rfl rfl rfl hd_L_low.2 ⟨Nat.le_of_ble_eq_true rfl, Nat.le_of_ble_eq_true rfl⟩) rfl hl.1 rfl (Nat.le_of_ble_eq_true rfl) dL_changes_80 ⟨Nat.le_of_ble_eq_true rfl, Nat.le_of_ble_eq_true rfl⟩ (fun H locs hw => ?_)
      refine lv_iadd hx hb dL_changes_83 ?_
      refine lv_iconst (v := 1) hx hb dL_changes_84 (by decide) ?_
      refine lv_iload_n hx hb dL_changes_85 rfl (lv_at hl 3 rfl) ?_
      refine lv_bipush (v := 15) hx hb dL_changes_86 (by decide) ?_
      refine lv_ishr hx hb dL_changes_88 ?_
      refine lv_sipush (v := 1500) hx hb dL_changes_89 (by decide) ?_
      obtain ⟨r_26, c_27, h⟩ := bd_ok h
      refine x_Si (As := [.int (x1 >>> (15 &&& 31)), .int 1500]) (w' := fl [xB ax ac af ah at_ ar ad, cB G ac vc, fB G af vf, hB G ah vh]) X hw (m_L_low (G := G) (l := l) c_27) Cut.nil (va_cwS 2 hts gL_changes_L_low rfl rfl rfl hd_L_low.2 ⟨Nat.le_of_ble_eq_true rfl, Nat.le_of_ble_eq_true rfl⟩) rfl hl.1 rfl (Nat.le_of_ble_eq_true rfl) dL_changes_92 ⟨Nat.le_of_ble_eq_true rfl, Nat.le_of_ble_eq_true rfl⟩ (fun H locs hw => ?_)
      refine lv_iadd hx hb dL_changes_95 ?_
      refine lv_iload_n hx hb dL_changes_96 rfl (lv_at hl 3 rfl) ?_
      refine lv_bipush (v := 14) hx hb dL_changes_97 (by decide) ?_
      refine lv_ishr hx hb dL_changes_99 ?_
      refine lv_iconst (v := 3) hx hb dL_changes_100 (by decide) ?_
      refine lv_iand hx hb dL_changes_101 ?_
      refine lv_if_ne (tgt := 109) hx hb dL_changes_102 (by decide) (fun k_28 => ?_) (fun k_28 => ?_)
      · have h := br_no h k_28
        refine lv_iconst (v := 0) hx hb dL_changes_109 (by decide) ?_
        obtain ⟨r_29, v_30, w_31, g_32, c_33, h⟩ := bd4_ok h
        refine x_Vi (As := [.int (1 + r_24), .int (1 + r_26), .int 0]) (w' := fl [xB ax ac af ah at_ ar ad, cB G ac v_30, fB G af w_31, hB G ah g_32]) X hw (m_X4_addSection (G := G) (l := l) (ax := ax) (ac := ac) (af := af) (ah := ah) (at_ := at_) (ar := ar) (ad := ad) c_33) Cut.all 0 0 rfl rfl rfl (cwV 3 hts gL_changes_X4_addSection rfl rfl rfl hd_X4_addSection ⟨Nat.le_of_ble_eq_true rfl, Nat.le_of_ble_eq_true rfl⟩) rfl hl.1 rfl (Nat.le_of_ble_eq_true rfl) dL_changes_110 ⟨Nat.le_of_ble_eq_true rfl, Nat.le_of_ble_eq_true rfl⟩ (fun H locs hw => ?_)
        cases h
        exact x_iret X (vp_nar_int _) hw rfl rfl dL_changes_113
      · have h := br_yes h k_28
        refine lv_iconst (v := 1) hx hb dL_changes_105 (by decide) ?_
        refine lv_goto (tgt := 110) hx hb dL_changes_106 (by decide) ?_
        obtain ⟨r_34, v_35, w_36, g_37, c_38, h⟩ := bd4_ok h
        refine x_Vi (As := [.int (1 + r_24), .int (1 + r_26), .int 1]) (w' := fl [xB ax ac af ah at_ ar ad, cB G ac v_35, fB G af w_36, hB G ah g_37]) X hw (m_X4_addSection (G := G) (l := l) (ax := ax) (ac := ac) (af := af) (ah := ah) (at_ := at_) (ar := ar) (ad := ad) c_38) Cut.all 0 0 rfl rfl rfl (cwV 3 hts gL_changes_X4_addSection rfl rfl rfl hd_X4_addSection ⟨Nat.le_of_ble_eq_true rfl, Nat.le_of_ble_eq_true rfl⟩) rfl hl.1 rfl (Nat.le_of_ble_eq_true rfl) dL_changes_110 ⟨Nat.le_of_ble_eq_true rfl, Nat.le_of_ble_eq_true rfl⟩ (fun H locs hw => ?_)
        cases h
        exact x_iret X (vp_nar_int _) hw rfl rfl dL_changes_113
    · have h := br_no h k_23
      by_cases k_39 : r_5 = 2
      · have h := br_yes h k_39
        refine lv_tableIn (tgt := 72) hx hb dL_changes_25 (by rw [k_39]; decide) (by rw [k_39]; decide) (by rw [k_39]; rfl) (by decide) ?_
        refine lv_aload_n hx hb dL_changes_72 rfl (lv_at hl 2 rfl) ?_
        refine lv_iconst (v := 1) hx hb dL_changes_73 (by decide) ?_
        refine lv_iload_n hx hb dL_changes_74 rfl (lv_at hl 3 rfl) ?_
        refine lv_iconst (v := 4) hx hb dL_changes_75 (by decide) ?_
        refine lv_ishr hx hb dL_changes_76 ?_
        refine lv_sipush (v := 2000) hx hb dL_changes_77 (by decide) ?_
        obtain ⟨r_40, c_41, h⟩ := bd_ok h
        refine x_Si (As := [.int (x1 >>> (4 &&& 31)), .int 2000]) (w' := fl [xB ax ac af ah at_ ar ad, cB G ac vc, fB G af vf, hB G ah vh]) X hw (m_L_low (G := G) (l := l) c_41) Cut.nil (va_cwS 2 hts gL_changes_L_low rfl rfl rfl hd_L_low.2 ⟨Nat.le_of_ble_eq_true rfl, Nat.le_of_ble_eq_true rfl⟩) rfl hl.1 rfl (Nat.le_of_ble_eq_true rfl) dL_changes_80 ⟨Nat.le_of_ble_eq_true rfl, Nat.le_of_ble_eq_true rfl⟩ (fun H locs hw => ?_)
        refine lv_iadd hx hb dL_changes_83 ?_
        refine lv_iconst (v := 1) hx hb dL_changes_84 (by decide) ?_
        refine lv_iload_n hx hb dL_changes_85 rfl (lv_at hl 3 rfl) ?_
        refine lv_bipush (v := 15) hx hb dL_changes_86 (by decide) ?_
        refine lv_ishr hx hb dL_changes_88 ?_
        refine lv_sipush (v := 1500) hx hb dL_changes_89 (by decide) ?_
        obtain ⟨r_42, c_43, h⟩ := bd_ok h
        refine x_Si (As := [.int (x1 >>> (15 &&& 31)), .int 1500]) (w' := fl [xB ax ac af ah at_ ar ad, cB G ac vc, fB G af vf, hB G ah vh]) X hw (m_L_low (G := G) (l := l) c_43) Cut.nil (va_cwS 2 hts gL_changes_L_low rfl rfl rfl hd_L_low.2 ⟨Nat.le_of_ble_eq_true rfl, Nat.le_of_ble_eq_true rfl⟩) rfl hl.1 rfl (Nat.le_of_ble_eq_true rfl) dL_changes_92 ⟨Nat.le_of_ble_eq_true rfl, Nat.le_of_ble_eq_true rfl⟩ (fun H locs hw => ?_)
        refine lv_iadd hx hb dL_changes_95 ?_
        refine lv_iload_n hx hb dL_changes_96 rfl (lv_at hl 3 rfl) ?_
        refine lv_bipush (v := 14) hx hb dL_changes_97 (by decide) ?_
        refine lv_ishr hx hb dL_changes_99 ?_
        refine lv_iconst (v := 3) hx hb dL_changes_100 (by decide) ?_
        refine lv_iand hx hb dL_changes_101 ?_
        refine lv_if_ne (tgt := 109) hx hb dL_changes_102 (by decide) (fun k_44 => ?_) (fun k_44 => ?_)
        · have h := br_no h k_44
          refine lv_iconst (v := 0) hx hb dL_changes_109 (by decide) ?_
          obtain ⟨r_45, v_46, w_47, g_48, c_49, h⟩ := bd4_ok h
          refine x_Vi (As := [.int (1 + r_40), .int (1 + r_42), .int 0]) (w' := fl [xB ax ac af ah at_ ar ad, cB G ac v_46, fB G af w_47, hB G ah g_48]) X hw (m_X4_addSection (G := G) (l := l) (ax := ax) (ac := ac) (af := af) (ah := ah) (at_ := at_) (ar := ar) (ad := ad) c_49) Cut.all 0 0 rfl rfl rfl (cwV 3 hts gL_changes_X4_addSection rfl rfl rfl hd_X4_addSection ⟨Nat.le_of_ble_eq_true rfl, Nat.le_of_ble_eq_true rfl⟩) rfl hl.1 rfl (Nat.le_of_ble_eq_true rfl) dL_changes_110 ⟨Nat.le_of_ble_eq_true rfl, Nat.le_of_ble_eq_true rfl⟩ (fun H locs hw => ?_)
          cases h
          exact x_iret X (vp_nar_int _) hw rfl rfl dL_changes_113
        · have h := br_yes h k_44
          refine lv_iconst (v := 1) hx hb dL_changes_105 (by decide) ?_
          refine lv_goto (tgt := 110) hx hb dL_changes_106 (by decide) ?_
          obtain ⟨r_50, v_51, w_52, g_53, c_54, h⟩ := bd4_ok h
          refine x_Vi (As := [.int (1 + r_40), .int (1 + r_42), .int 1]) (w' := fl [xB ax ac af ah at_ ar ad, cB G ac v_51, fB G af w_52, hB G ah g_53]) X hw (m_X4_addSection (G := G) (l := l) (ax := ax) (ac := ac) (af := af) (ah := ah) (at_ := at_) (ar := ar) (ad := ad) c_54) Cut.all 0 0 rfl rfl rfl (cwV 3 hts gL_changes_X4_addSection rfl rfl rfl hd_X4_addSection ⟨Nat.le_of_ble_eq_true rfl, Nat.le_of_ble_eq_true rfl⟩) rfl hl.1 rfl (Nat.le_of_ble_eq_true rfl) dL_changes_110 ⟨Nat.le_of_ble_eq_true rfl, Nat.le_of_ble_eq_true rfl⟩ (fun H locs hw => ?_)
          cases h
          exact x_iret X (vp_nar_int _) hw rfl rfl dL_changes_113
      · have h := br_no h k_39
        by_cases k_55 : r_5 = 3
        · have h := br_yes h k_55
          refine lv_tableIn (tgt := 114) hx hb dL_changes_25 (by rw [k_55]; decide) (by rw [k_55]; decide) (by rw [k_55]; rfl) (by decide) ?_
          refine lv_aload_n hx hb dL_changes_114 rfl (lv_at hl 2 rfl) ?_
          refine lv_iload_n hx hb dL_changes_115 rfl (lv_at hl 1 rfl) ?_
          refine lv_iconst (v := 1) hx hb dL_changes_116 (by decide) ?_
          refine lv_iload_n hx hb dL_changes_117 rfl (lv_at hl 3 rfl) ?_
          refine lv_bipush (v := 8) hx hb dL_changes_118 (by decide) ?_
          refine lv_ishr hx hb dL_changes_120 ?_
          refine lv_sipush (v := 1000) hx hb dL_changes_121 (by decide) ?_
          obtain ⟨r_56, c_57, h⟩ := bd_ok h
          refine x_Si (As := [.int (x1 >>> (8 &&& 31)), .int 1000]) (w' := fl [xB ax ac af ah at_ ar ad, cB G ac vc, fB G af vf, hB G ah vh]) X hw (m_L_low (G := G) (l := l) c_57) Cut.nil (va_cwS 2 hts gL_changes_L_low rfl rfl rfl hd_L_low.2 ⟨Nat.le_of_ble_eq_true rfl, Nat.le_of_ble_eq_true rfl⟩) rfl hl.1 rfl (Nat.le_of_ble_eq_true rfl) dL_changes_124 ⟨Nat.le_of_ble_eq_true rfl, Nat.le_of_ble_eq_true rfl⟩ (fun H locs hw => ?_)
          refine lv_iadd hx hb dL_changes_127 ?_
          refine lv_iconst (v := 1) hx hb dL_changes_128 (by decide) ?_
          refine lv_iload_n hx hb dL_changes_129 rfl (lv_at hl 3 rfl) ?_
          refine lv_bipush (v := 18) hx hb dL_changes_130 (by decide) ?_
          refine lv_ishr hx hb dL_changes_132 ?_
          refine lv_sipush (v := 900) hx hb dL_changes_133 (by decide) ?_
          obtain ⟨r_58, c_59, h⟩ := bd_ok h
          refine x_Si (As := [.int (x1 >>> (18 &&& 31)), .int 900]) (w' := fl [xB ax ac af ah at_ ar ad, cB G ac vc, fB G af vf, hB G ah vh]) X hw (m_L_low (G := G) (l := l) c_59) Cut.nil (va_cwS 2 hts gL_changes_L_low rfl rfl rfl hd_L_low.2 ⟨Nat.le_of_ble_eq_true rfl, Nat.le_of_ble_eq_true rfl⟩) rfl hl.1 rfl (Nat.le_of_ble_eq_true rfl) dL_changes_136 ⟨Nat.le_of_ble_eq_true rfl, Nat.le_of_ble_eq_true rfl⟩ (fun H locs hw => ?_)
          refine lv_iadd hx hb dL_changes_139 ?_
          obtain ⟨r_60, v_61, w_62, g_63, c_64, h⟩ := bd4_ok h
          refine x_Vi (As := [.int r_1, .int (1 + r_56), .int (1 + r_58)]) (w' := fl [xB ax ac af ah at_ ar ad, cB G ac v_61, fB G af w_62, hB G ah g_63]) X hw (m_X4_resize (G := G) (l := l) (ax := ax) (ac := ac) (af := af) (ah := ah) (at_ := at_) (ar := ar) (ad := ad) c_64) Cut.all 0 0 rfl rfl rfl (cwV 3 hts gL_changes_X4_resize rfl rfl rfl hd_X4_resize ⟨Nat.le_of_ble_eq_true rfl, Nat.le_of_ble_eq_true rfl⟩) rfl hl.1 rfl (Nat.le_of_ble_eq_true rfl) dL_changes_140 ⟨Nat.le_of_ble_eq_true rfl, Nat.le_of_ble_eq_true rfl⟩ (fun H locs hw => ?_)
          cases h
          exact x_iret X (vp_nar_int _) hw rfl rfl dL_changes_143
        · have h := br_no h k_55
          by_cases k_65 : r_5 = 4
          · have h := br_yes h k_65
            refine lv_tableIn (tgt := 144) hx hb dL_changes_25 (by rw [k_65]; decide) (by rw [k_65]; decide) (by rw [k_65]; rfl) (by decide) ?_
            refine lv_aload_n hx hb dL_changes_144 rfl (lv_at hl 2 rfl) ?_
            refine lv_iload_n hx hb dL_changes_145 rfl (lv_at hl 1 rfl) ?_
            refine lv_iload_n hx hb dL_changes_146 rfl (lv_at hl 3 rfl) ?_
            refine lv_bipush (v := 8) hx hb dL_changes_147 (by decide) ?_
            refine lv_ishr hx hb dL_changes_149 ?_
            refine lv_sipush (v := 501) hx hb dL_changes_150 (by decide) ?_
            obtain ⟨r_66, c_67, h⟩ := bd_ok h
            refine x_Si (As := [.int (x1 >>> (8 &&& 31)), .int 501]) (w' := fl [xB ax ac af ah at_ ar ad, cB G ac vc, fB G af vf, hB G ah vh]) X hw (m_L_low (G := G) (l := l) c_67) Cut.nil (va_cwS 2 hts gL_changes_L_low rfl rfl rfl hd_L_low.2 ⟨Nat.le_of_ble_eq_true rfl, Nat.le_of_ble_eq_true rfl⟩) rfl hl.1 rfl (Nat.le_of_ble_eq_true rfl) dL_changes_153 ⟨Nat.le_of_ble_eq_true rfl, Nat.le_of_ble_eq_true rfl⟩ (fun H locs hw => ?_)
            obtain ⟨r_68, v_69, w_70, g_71, c_72, h⟩ := bd4_ok h
            refine x_Vi (As := [.int r_1, .int r_66]) (w' := fl [xB ax ac af ah at_ ar ad, cB G ac v_69, fB G af w_70, hB G ah g_71]) X hw (m_X4_setChill (G := G) (l := l) (ax := ax) (ac := ac) (af := af) (ah := ah) (at_ := at_) (ar := ar) (ad := ad) c_72) Cut.all 0 0 rfl rfl rfl (cwV 2 hts gL_changes_X4_setChill rfl rfl rfl hd_X4_setChill ⟨Nat.le_of_ble_eq_true rfl, Nat.le_of_ble_eq_true rfl⟩) rfl hl.1 rfl (Nat.le_of_ble_eq_true rfl) dL_changes_156 ⟨Nat.le_of_ble_eq_true rfl, Nat.le_of_ble_eq_true rfl⟩ (fun H locs hw => ?_)
            cases h
            exact x_iret X (vp_nar_int _) hw rfl rfl dL_changes_159
          · have h := br_no h k_65
            by_cases k_73 : r_5 = 5
            · have h := br_yes h k_73
              refine lv_tableIn (tgt := 160) hx hb dL_changes_25 (by rw [k_73]; decide) (by rw [k_73]; decide) (by rw [k_73]; rfl) (by decide) ?_
              refine lv_aload_n hx hb dL_changes_160 rfl (lv_at hl 2 rfl) ?_
              refine lv_iload_n hx hb dL_changes_161 rfl (lv_at hl 1 rfl) ?_
              obtain ⟨r_74, v_75, w_76, g_77, c_78, h⟩ := bd4_ok h
              refine x_Vi (As := [.int r_1]) (w' := fl [xB ax ac af ah at_ ar ad, cB G ac v_75, fB G af w_76, hB G ah g_77]) X hw (m_X4_removeSection (G := G) (l := l) (ax := ax) (ac := ac) (af := af) (ah := ah) (at_ := at_) (ar := ar) (ad := ad) c_78) Cut.all 0 0 rfl rfl rfl (cwV 1 hts gL_changes_X4_removeSection rfl rfl rfl hd_X4_removeSection ⟨Nat.le_of_ble_eq_true rfl, Nat.le_of_ble_eq_true rfl⟩) rfl hl.1 rfl (Nat.le_of_ble_eq_true rfl) dL_changes_162 ⟨Nat.le_of_ble_eq_true rfl, Nat.le_of_ble_eq_true rfl⟩ (fun H locs hw => ?_)
              cases h
              exact x_iret X (vp_nar_int _) hw rfl rfl dL_changes_165
            · have h := br_no h k_73
              by_cases k_79 : r_5 = 6
              · have h := br_yes h k_79
                refine lv_tableIn (tgt := 166) hx hb dL_changes_25 (by rw [k_79]; decide) (by rw [k_79]; decide) (by rw [k_79]; rfl) (by decide) ?_
                refine lv_aload_n hx hb dL_changes_166 rfl (lv_at hl 2 rfl) ?_
                refine lv_iload_n hx hb dL_changes_167 rfl (lv_at hl 3 rfl) ?_
                refine lv_iconst (v := 4) hx hb dL_changes_168 (by decide) ?_
                refine lv_ishr hx hb dL_changes_169 ?_
                refine lv_bipush (v := 20) hx hb dL_changes_170 (by decide) ?_
                obtain ⟨r_80, c_81, h⟩ := bd_ok h
                refine x_Si (As := [.int (x1 >>> (4 &&& 31)), .int 20]) (w' := fl [xB ax ac af ah at_ ar ad, cB G ac vc, fB G af vf, hB G ah vh]) X hw (m_L_low (G := G) (l := l) c_81) Cut.nil (va_cwS 2 hts gL_changes_L_low rfl rfl rfl hd_L_low.2 ⟨Nat.le_of_ble_eq_true rfl, Nat.le_of_ble_eq_true rfl⟩) rfl hl.1 rfl (Nat.le_of_ble_eq_true rfl) dL_changes_172 ⟨Nat.le_of_ble_eq_true rfl, Nat.le_of_ble_eq_true rfl⟩ (fun H locs hw => ?_)
                obtain ⟨r_82, v_83, w_84, g_85, c_86, h⟩ := bd4_ok h
                refine x_Vi (As := [.int r_80]) (w' := fl [xB ax ac af ah at_ ar ad, cB G ac v_83, fB G af w_84, hB G ah g_85]) X hw (m_X4_part (G := G) (l := l) (ax := ax) (ac := ac) (af := af) (ah := ah) (at_ := at_) (ar := ar) (ad := ad) c_86) Cut.all 0 0 rfl rfl rfl (cwV 1 hts gL_changes_X4_part rfl rfl rfl hd_X4_part ⟨Nat.le_of_ble_eq_true rfl, Nat.le_of_ble_eq_true rfl⟩) rfl hl.1 rfl (Nat.le_of_ble_eq_true rfl) dL_changes_175 ⟨Nat.le_of_ble_eq_true rfl, Nat.le_of_ble_eq_true rfl⟩ (fun H locs hw => ?_)
                cases h
                exact x_iret X (vp_nar_int _) hw rfl rfl dL_changes_178
              · have h := br_no h k_79
                by_cases k_87 : r_5 = 7
                · have h := br_yes h k_87
                  refine lv_tableIn (tgt := 179) hx hb dL_changes_25 (by rw [k_87]; decide) (by rw [k_87]; decide) (by rw [k_87]; rfl) (by decide) ?_
                  refine lv_aload_n hx hb dL_changes_179 rfl (lv_at hl 2 rfl) ?_
                  refine lv_iload_n hx hb dL_changes_180 rfl (lv_at hl 3 rfl) ?_
                  refine lv_iconst (v := 4) hx hb dL_changes_181 (by decide) ?_
                  refine lv_ishr hx hb dL_changes_182 ?_
                  refine lv_sipush (v := 201) hx hb dL_changes_183 (by decide) ?_
                  obtain ⟨r_88, c_89, h⟩ := bd_ok h
                  refine x_Si (As := [.int (x1 >>> (4 &&& 31)), .int 201]) (w' := fl [xB ax ac af ah at_ ar ad, cB G ac vc, fB G af vf, hB G ah vh]) X hw (m_L_low (G := G) (l := l) c_89) Cut.nil (va_cwS 2 hts gL_changes_L_low rfl rfl rfl hd_L_low.2 ⟨Nat.le_of_ble_eq_true rfl, Nat.le_of_ble_eq_true rfl⟩) rfl hl.1 rfl (Nat.le_of_ble_eq_true rfl) dL_changes_186 ⟨Nat.le_of_ble_eq_true rfl, Nat.le_of_ble_eq_true rfl⟩ (fun H locs hw => ?_)
                  refine lv_iload_n hx hb dL_changes_189 rfl (lv_at hl 3 rfl) ?_
                  refine lv_bipush (v := 12) hx hb dL_changes_190 (by decide) ?_
                  refine lv_ishr hx hb dL_changes_192 ?_
                  refine lv_sipush (v := 501) hx hb dL_changes_193 (by decide) ?_
                  obtain ⟨r_90, c_91, h⟩ := bd_ok h
                  refine x_Si (As := [.int (x1 >>> (12 &&& 31)), .int 501]) (w' := fl [xB ax ac af ah at_ ar ad, cB G ac vc, fB G af vf, hB G ah vh]) X hw (m_L_low (G := G) (l := l) c_91) Cut.nil (va_cwS 2 hts gL_changes_L_low rfl rfl rfl hd_L_low.2 ⟨Nat.le_of_ble_eq_true rfl, Nat.le_of_ble_eq_true rfl⟩) rfl hl.1 rfl (Nat.le_of_ble_eq_true rfl) dL_changes_196 ⟨Nat.le_of_ble_eq_true rfl, Nat.le_of_ble_eq_true rfl⟩ (fun H locs hw => ?_)
                  obtain ⟨r_92, v_93, w_94, g_95, c_96, h⟩ := bd4_ok h
                  refine x_Vi (As := [.int r_88, .int r_90]) (w' := fl [xB ax ac af ah at_ ar ad, cB G ac v_93, fB G af w_94, hB G ah g_95]) X hw (m_X4_setMetal (G := G) (l := l) (ax := ax) (ac := ac) (af := af) (ah := ah) (at_ := at_) (ar := ar) (ad := ad) c_96) Cut.all 0 0 rfl rfl rfl (cwV 2 hts gL_changes_X4_setMetal rfl rfl rfl hd_X4_setMetal ⟨Nat.le_of_ble_eq_true rfl, Nat.le_of_ble_eq_true rfl⟩) rfl hl.1 rfl (Nat.le_of_ble_eq_true rfl) dL_changes_199 ⟨Nat.le_of_ble_eq_true rfl, Nat.le_of_ble_eq_true rfl⟩ (fun H locs hw => ?_)
                  cases h
                  exact x_iret X (vp_nar_int _) hw rfl rfl dL_changes_202
                · have h := br_no h k_87
                  have nk_7 := lv_neT k_7 (show (0 : Int32).toInt = 0 by decide)
                  have nk_23 := lv_neT k_23 (show (1 : Int32).toInt = 1 by decide)
                  have nk_39 := lv_neT k_39 (show (2 : Int32).toInt = 2 by decide)
                  have nk_55 := lv_neT k_55 (show (3 : Int32).toInt = 3 by decide)
                  have nk_65 := lv_neT k_65 (show (4 : Int32).toInt = 4 by decide)
                  have nk_73 := lv_neT k_73 (show (5 : Int32).toInt = 5 by decide)
                  have nk_79 := lv_neT k_79 (show (6 : Int32).toInt = 6 by decide)
                  have nk_87 := lv_neT k_87 (show (7 : Int32).toInt = 7 by decide)
                  refine lv_tableOut (tgt := 203) hx hb dL_changes_25 (by omega) (by decide) ?_
                  refine lv_aload_n hx hb dL_changes_203 rfl (lv_at hl 2 rfl) ?_
                  refine lv_iload_n hx hb dL_changes_204 rfl (lv_at hl 1 rfl) ?_
                  refine lv_iload_n hx hb dL_changes_205 rfl (lv_at hl 0 rfl) ?_
                  obtain ⟨r_97, v_98, w_99, g_100, c_101, h⟩ := bd4_ok h
                  refine x_Vi (As := [.int r_1, .int r_3]) (w' := fl [xB ax ac af ah at_ ar ad, cB G ac v_98, fB G af w_99, hB G ah g_100]) X hw (m_X4_join (G := G) (l := l) (ax := ax) (ac := ac) (af := af) (ah := ah) (at_ := at_) (ar := ar) (ad := ad) c_101) Cut.all 0 0 rfl rfl rfl (cwV 2 hts gL_changes_X4_join rfl rfl rfl hd_X4_join ⟨Nat.le_of_ble_eq_true rfl, Nat.le_of_ble_eq_true rfl⟩) rfl hl.1 rfl (Nat.le_of_ble_eq_true rfl) dL_changes_206 ⟨Nat.le_of_ble_eq_true rfl, Nat.le_of_ble_eq_true rfl⟩ (fun H locs hw => ?_)
                  cases h
                  exact x_iret X (vp_nar_int _) hw rfl rfl dL_changes_209
