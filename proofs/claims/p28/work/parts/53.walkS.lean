def rL_isSound : Room := { frames := 5, cells := 0, slots := 0, locals := 109 }
theorem hd_L_isSound : yL_isSound.cls = RL ∧ yL_isSound.cls ≠ "java/lang/invoke/MethodHandle" ∧ yL_isSound.cls ≠ "java/lang/invoke/VarHandle" ∧ (parseMethodDescriptor yL_isSound.desc).map (fun d => d.parameters.length) = some 1 := by decide +kernel
noncomputable def f_L_isSound_b713  (vc : CV) (vf : FV) (x1 : Int32) (y0 : Int32) (y1 : Int32) : Option (Int32) :=
  br (y1 = y0)
    (bd (f_X4_atStep vc vf x1) fun r_2 =>
     br (r_2 = (-1))
       (some (1))
       (some (0)))
    (some (0))
set_option maxHeartbeats 4000000 in
set_option maxRecDepth 100000 in
theorem w_L_isSound_b713 {G : GG} {l : Launch} {p : Program} {e : Env} {s : State} {m : MethodId} {args : Array Value} {below : List Frame} {meth : Method} {c : Code} {A : Nat → Prop} {ax : Nat} {ac af ah at_ ar ad : Nat → Nat} {vc : CV} {vf : FV} {r : Int32}    (X : Cx p s m args meth c cL_isSound 28 (some .boolean) wsL_isSound RL G A)  :
    ∀ (x1 : Int32) (y0 : Int32) (y1 : Int32) (H : Heap) (locs : List Loc) (ls : Array Slot), f_L_isSound_b713 vc vf x1 y0 y1 = some (r) → Wd G A s H locs (fl [xB ax ac af ah at_ ar ad, cB G ac vc, fB G af vf]) → lv_has ls 28 [(0, .ref ax), (1, .int x1)] → W p l e rL_isSound s m args below meth c H locs 0 0 (MQ below (Qi G A r (fl [xB ax ac af ah at_ ar ad, cB G ac vc, fB G af vf])) args s 0 0 A) (F0 m 713 ls [.int y0, .int y1]) := by
  obtain ⟨⟨hx, hb, hml, hown, hts⟩, hK, hr, hlk, hA⟩ := id X
  intro x1 y0 y1 H locs ls h hw hl
  unfold f_L_isSound_b713 at h
  refine lv_icmp_ne (tgt := 729) hx hb dL_isSound_713 (by decide) (fun k_1 => ?_) (fun k_1 => ?_)
  · have h := br_no h k_1
    refine lv_iconst (v := 0) hx hb dL_isSound_729 (by decide) ?_
    cases h
    exact x_iret X (narz (Or.inl rfl)) hw rfl rfl dL_isSound_730
  · have h := br_yes h k_1
    refine lv_aload_n hx hb dL_isSound_716 rfl (lv_at hl 0 rfl) ?_
    refine lv_iload_n hx hb dL_isSound_717 rfl (lv_at hl 1 rfl) ?_
    obtain ⟨r_2, c_3, h⟩ := bd_ok h
    refine x_Vi (As := [.int x1]) (w' := fl [xB ax ac af ah at_ ar ad, cB G ac vc, fB G af vf]) X hw (m_X4_atStep (G := G) (l := l) (ax := ax) (ac := ac) (af := af) (ah := ah) (at_ := at_) (ar := ar) (ad := ad) c_3) Cut.all 0 0 rfl rfl rfl (cwV 1 hts gL_isSound_X4_atStep rfl rfl rfl hd_X4_atStep ⟨Nat.le_of_ble_eq_true rfl, Nat.le_of_ble_eq_true rfl⟩) rfl hl.1 rfl (Nat.le_of_ble_eq_true rfl) dL_isSound_718 ⟨Nat.le_of_ble_eq_true rfl, Nat.le_of_ble_eq_true rfl⟩ (fun H locs hw => ?_)
    refine lv_iconst (v := (-1)) hx hb dL_isSound_721 (by decide) ?_
    refine lv_icmp_ne (tgt := 729) hx hb dL_isSound_722 (by decide) (fun k_4 => ?_) (fun k_4 => ?_)
    · have h := br_no h k_4
      refine lv_iconst (v := 0) hx hb dL_isSound_729 (by decide) ?_
      cases h
      exact x_iret X (narz (Or.inl rfl)) hw rfl rfl dL_isSound_730
    · have h := br_yes h k_4
      refine lv_iconst (v := 1) hx hb dL_isSound_725 (by decide) ?_
      refine lv_goto (tgt := 730) hx hb dL_isSound_726 (by decide) ?_
      cases h
      exact x_iret X (narz (Or.inr rfl)) hw rfl rfl dL_isSound_730
noncomputable def f_L_isSound_b633  (k36 : Int32 → Int32 → Int32 → Int32 → Int32 → Int32 → Int64 → Int64 → Int32 → Int32 → Option (Int32)) (vc : CV) (vf : FV) (x1 : Int32) (x2 : Int32) (x3 : Int32) (x4 : Int32) (x5 : Int32) (x7 : Int32) (x8 : Int64) (x10 : Int64) (x12 : Int32) (x13 : Int32) (x14 : Int32) (y0 : Int32) (y1 : Int32) : Option (Int32) :=
  nm ((y1 + y0) : Int32) fun t_1 =>
  bd (f_X4_gathers vc vf x14) fun r_2 =>
  nm ((x7 + r_2) : Int32) fun t_4 =>
  nm (x13 + 1 : Int32) fun t_5 =>
  k36 x2 x3 x4 x5 t_1 t_4 x8 x10 x12 t_5
set_option maxHeartbeats 4000000 in
set_option maxRecDepth 100000 in
theorem w_L_isSound_b633 {G : GG} {l : Launch} {p : Program} {e : Env} {s : State} {m : MethodId} {args : Array Value} {below : List Frame} {meth : Method} {c : Code} {A : Nat → Prop} {ax : Nat} {ac af ah at_ ar ad : Nat → Nat} {vc : CV} {vf : FV} {x1 : Int32} {r : Int32}   {k36 : Int32 → Int32 → Int32 → Int32 → Int32 → Int32 → Int64 → Int64 → Int32 → Int32 → Option (Int32)} (X : Cx p s m args meth c cL_isSound 28 (some .boolean) wsL_isSound RL G A) (hk36 : ∀ (x2 : Int32) (x3 : Int32) (x4 : Int32) (x5 : Int32) (x6 : Int32) (x7 : Int32) (x8 : Int64) (x10 : Int64) (x12 : Int32) (x13 : Int32) (H : Heap) (locs : List Loc) (ls : Array Slot), k36 x2 x3 x4 x5 x6 x7 x8 x10 x12 x13 = some (r) → Wd G A s H locs (fl [xB ax ac af ah at_ ar ad, cB G ac vc, fB G af vf]) → lv_has ls 28 [(0, .ref ax), (1, .int x1), (2, .int x2), (3, .int x3), (4, .int x4), (5, .int x5), (6, .int x6), (7, .int x7), (8, .long x8), (10, .long x10), (12, .int x12), (13, .int x13)] → W p l e rL_isSound s m args below meth c H locs 0 0 (MQ below (Qi G A r (fl [xB ax ac af ah at_ ar ad, cB G ac vc, fB G af vf])) args s 0 0 A) (F0 m 36 ls [])) :
    ∀ (x2 : Int32) (x3 : Int32) (x4 : Int32) (x5 : Int32) (x7 : Int32) (x8 : Int64) (x10 : Int64) (x12 : Int32) (x13 : Int32) (x14 : Int32) (y0 : Int32) (y1 : Int32) (H : Heap) (locs : List Loc) (ls : Array Slot), f_L_isSound_b633 k36 vc vf x1 x2 x3 x4 x5 x7 x8 x10 x12 x13 x14 y0 y1 = some (r) → Wd G A s H locs (fl [xB ax ac af ah at_ ar ad, cB G ac vc, fB G af vf]) → lv_has ls 28 [(0, .ref ax), (1, .int x1), (2, .int x2), (3, .int x3), (4, .int x4), (5, .int x5), (7, .int x7), (8, .long x8), (10, .long x10), (12, .int x12), (13, .int x13), (14, .int x14)] → W p l e rL_isSound s m args below meth c H locs 0 0 (MQ below (Qi G A r (fl [xB ax ac af ah at_ ar ad, cB G ac vc, fB G af vf])) args s 0 0 A) (F0 m 633 ls [.int y0, .int y1]) := by
  obtain ⟨⟨hx, hb, hml, hown, hts⟩, hK, hr, hlk, hA⟩ := id X
  intro x2 x3 x4 x5 x7 x8 x10 x12 x13 x14 y0 y1 H locs ls h hw hl
  unfold f_L_isSound_b633 at h
  refine lv_iadd hx hb dL_isSound_633 ?_
  obtain ⟨t_1, et_1, h⟩ := nm_ok h
  refine lv_istore (lv' := [(6, .int t_1), (0, .ref ax), (1, .int x1), (2, .int x2), (3, .int x3), (4, .int x4), (5, .int x5), (7, .int x7), (8, .long x8), (10, .long x10), (12, .int x12), (13, .int x13), (14, .int x14)]) hx hb dL_isSound_634 hl (by decide) (by rw [et_1]; rfl) (fun ls hl => ?_)
  refine lv_iload hx hb dL_isSound_636 (lv_at hl 7 rfl) ?_
  refine lv_aload_n hx hb dL_isSound_638 rfl (lv_at hl 1 rfl) ?_
  refine lv_iload hx hb dL_isSound_639 (lv_at hl 12 rfl) ?_
  obtain ⟨r_2, c_3, h⟩ := bd_ok h
  refine x_Vi (As := [.int x14]) (w' := fl [xB ax ac af ah at_ ar ad, cB G ac vc, fB G af vf]) X hw (m_X4_gathers (G := G) (l := l) (ax := ax) (ac := ac) (af := af) (ah := ah) (at_ := at_) (ar := ar) (ad := ad) c_3) Cut.all 0 0 rfl rfl rfl (cwV 1 hts gL_isSound_X4_gathers rfl rfl rfl hd_X4_gathers ⟨Nat.le_of_ble_eq_true rfl, Nat.le_of_ble_eq_true rfl⟩) rfl hl.1 rfl (Nat.le_of_ble_eq_true rfl) dL_isSound_641 ⟨Nat.le_of_ble_eq_true rfl, Nat.le_of_ble_eq_true rfl⟩ (fun H locs hw => ?_)
  refine lv_iadd hx hb dL_isSound_644 ?_
  obtain ⟨t_4, et_4, h⟩ := nm_ok h
  refine lv_istore (lv' := [(7, .int t_4), (6, .int t_1), (0, .ref ax), (1, .int x1), (2, .int x2), (3, .int x3), (4, .int x4), (5, .int x5), (8, .long x8), (10, .long x10), (12, .int x12), (13, .int x13), (14, .int x14)]) hx hb dL_isSound_645 hl (by decide) (by rw [et_4]; rfl) (fun ls hl => ?_)
  obtain ⟨t_5, et_5, h⟩ := nm_ok h
  refine lv_iinc (v := t_5) (lv' := [(13, .int t_5), (7, .int t_4), (6, .int t_1), (0, .ref ax), (1, .int x1), (2, .int x2), (3, .int x3), (4, .int x4), (5, .int x5), (8, .long x8), (10, .long x10), (12, .int x12), (14, .int x14)]) hx hb dL_isSound_647 hl (k := 11) rfl (by rw [et_5]; rfl) (by decide) rfl (fun ls hl => ?_)
  refine lv_goto (tgt := 36) hx hb dL_isSound_650 (by decide) ?_
  exact hk36 x2 x3 x4 x5 t_1 t_4 x8 x10 x12 t_5 _ _ _ h hw (lv_sub hl [3, 4, 5, 6, 7, 8, 2, 1, 9, 10, 11, 0] rfl)
noncomputable def f_L_isSound_b485  (k36 : Int32 → Int32 → Int32 → Int32 → Int32 → Int32 → Int64 → Int64 → Int32 → Int32 → Option (Int32)) (vc : CV) (vf : FV) (x1 : Int32) (x2 : Int32) (x3 : Int32) (x4 : Int32) (x5 : Int32) (x6 : Int32) (x7 : Int32) (x8 : Int64) (x10 : Int64) (x12 : Int32) (x13 : Int32) (x14 : Int32) (x19 : Int32) (x20 : Int32) : Nat → Int32 → Int32 → Option (Int32)
  | 0 => fun _ _ => none
  | n + 1 => fun x26 x27 =>
    bd (f_X4_section vc vf x27 8) fun r_1 =>
    br (r_1 < 0)
      (bd (f_X4_way vc vf x14 x26) fun r_4 =>
       br (r_4 = x27)
         (bd (f_X4_way vc vf x14 (x26 + 1)) fun r_7 =>
          br (r_7 = (-1))
            (bd (f_X4_end vc vf x14) fun r_10 =>
             br (r_10 = x27)
               (bd (f_X4_gathers vc vf x14) fun r_13 =>
                bd (f_X4_section vc vf x14 6) fun r_15 =>
                br (r_13 = r_15)
                  (bd (f_X4_section vc vf x14 6) fun r_18 =>
                   nm ((x3 + r_18) : Int32) fun t_20 =>
                   bd (f_X4_section vc vf x14 7) fun r_21 =>
                   nm ((x5 + r_21) : Int32) fun t_23 =>
                   nm ((x4 + x19) : Int32) fun t_24 =>
                   br (0 ≤ x20)
                     (f_L_isSound_b633 k36 vc vf x1 x2 t_20 t_24 t_23 x7 x8 x10 x12 x13 x14 0 x6)
                     (f_L_isSound_b633 k36 vc vf x1 x2 t_20 t_24 t_23 x7 x8 x10 x12 x13 x14 1 x6))
                  (some (0)))
               (some (0)))
            (some (0)))
         (some (0)))
      (bd (f_X4_way vc vf x14 x26) fun r_26 =>
       br (r_26 = x27)
         (br (x26 ≤ x1)
            (bd (f_X4_section vc vf x27 8) fun r_30 =>
             nm (x26 + 1 : Int32) fun t_32 =>
             f_L_isSound_b485 k36 vc vf x1 x2 x3 x4 x5 x6 x7 x8 x10 x12 x13 x14 x19 x20 n t_32 r_30)
            (some (0)))
         (some (0)))
set_option maxHeartbeats 4000000 in
set_option maxRecDepth 100000 in
theorem w_L_isSound_b485 {G : GG} {l : Launch} {p : Program} {e : Env} {s : State} {m : MethodId} {args : Array Value} {below : List Frame} {meth : Method} {c : Code} {A : Nat → Prop} {ax : Nat} {ac af ah at_ ar ad : Nat → Nat} {vc : CV} {vf : FV} {x1 : Int32} {x2 : Int32} {x3 : Int32} {x4 : Int32} {x5 : Int32} {x6 : Int32} {x7 : Int32} {x8 : Int64} {x10 : Int64} {x12 : Int32} {x13 : Int32} {x14 : Int32} {x19 : Int32} {x20 : Int32} {r : Int32}   {k36 : Int32 → Int32 → Int32 → Int32 → Int32 → Int32 → Int64 → Int64 → Int32 → Int32 → Option (Int32)} (X : Cx p s m args meth c cL_isSound 28 (some .boolean) wsL_isSound RL G A) (hk36 : ∀ (x2 : Int32) (x3 : Int32) (x4 : Int32) (x5 : Int32) (x6 : Int32) (x7 : Int32) (x8 : Int64) (x10 : Int64) (x12 : Int32) (x13 : Int32) (H : Heap) (locs : List Loc) (ls : Array Slot), k36 x2 x3 x4 x5 x6 x7 x8 x10 x12 x13 = some (r) → Wd G A s H locs (fl [xB ax ac af ah at_ ar ad, cB G ac vc, fB G af vf]) → lv_has ls 28 [(0, .ref ax), (1, .int x1), (2, .int x2), (3, .int x3), (4, .int x4), (5, .int x5), (6, .int x6), (7, .int x7), (8, .long x8), (10, .long x10), (12, .int x12), (13, .int x13)] → W p l e rL_isSound s m args below meth c H locs 0 0 (MQ below (Qi G A r (fl [xB ax ac af ah at_ ar ad, cB G ac vc, fB G af vf])) args s 0 0 A) (F0 m 36 ls [])) :
    ∀ (n : Nat) (x26 : Int32) (x27 : Int32) (H : Heap) (locs : List Loc) (ls : Array Slot), f_L_isSound_b485 k36 vc vf x1 x2 x3 x4 x5 x6 x7 x8 x10 x12 x13 x14 x19 x20 n x26 x27 = some (r) → Wd G A s H locs (fl [xB ax ac af ah at_ ar ad, cB G ac vc, fB G af vf]) → lv_has ls 28 [(0, .ref ax), (1, .int x1), (2, .int x2), (3, .int x3), (4, .int x4), (5, .int x5), (6, .int x6), (7, .int x7), (8, .long x8), (10, .long x10), (12, .int x12), (13, .int x13), (14, .int x14), (19, .int x19), (20, .int x20), (26, .int x26), (27, .int x27)] → W p l e rL_isSound s m args below meth c H locs 0 0 (MQ below (Qi G A r (fl [xB ax ac af ah at_ ar ad, cB G ac vc, fB G af vf])) args s 0 0 A) (F0 m 485 ls []) := by
  obtain ⟨⟨hx, hb, hml, hown, hts⟩, hK, hr, hlk, hA⟩ := id X
  intro n
  induction n with
  | zero =>
    intro x26 x27 H locs ls h
    rw [f_L_isSound_b485] at h
    cases h
  | succ n ih =>
    intro x26 x27 H locs ls h hw hl
    rw [f_L_isSound_b485] at h
    refine lv_aload_n hx hb dL_isSound_485 rfl (lv_at hl 0 rfl) ?_
    refine lv_iload hx hb dL_isSound_486 (lv_at hl 16 rfl) ?_
    refine lv_bipush (v := 8) hx hb dL_isSound_488 (by decide) ?_
    obtain ⟨r_1, c_2, h⟩ := bd_ok h
    refine x_Vi (As := [.int x27, .int 8]) (w' := fl [xB ax ac af ah at_ ar ad, cB G ac vc, fB G af vf]) X hw (m_X4_section (G := G) (l := l) (ax := ax) (ac := ac) (af := af) (ah := ah) (at_ := at_) (ar := ar) (ad := ad) c_2) Cut.all 0 0 rfl rfl rfl (cwV 2 hts gL_isSound_X4_section rfl rfl rfl hd_X4_section ⟨Nat.le_of_ble_eq_true rfl, Nat.le_of_ble_eq_true rfl⟩) rfl hl.1 rfl (Nat.le_of_ble_eq_true rfl) dL_isSound_490 ⟨Nat.le_of_ble_eq_true rfl, Nat.le_of_ble_eq_true rfl⟩ (fun H locs hw => ?_)
    refine lv_if_lt (tgt := 533) hx hb dL_isSound_493 (by decide) (fun k_3 => ?_) (fun k_3 => ?_)
    · have h := br_yes h k_3
      refine lv_aload_n hx hb dL_isSound_533 rfl (lv_at hl 0 rfl) ?_
      refine lv_iload hx hb dL_isSound_534 (lv_at hl 12 rfl) ?_
      refine lv_iload hx hb dL_isSound_536 (lv_at hl 15 rfl) ?_
      obtain ⟨r_4, c_5, h⟩ := bd_ok h
      refine x_Vi (As := [.int x14, .int x26]) (w' := fl [xB ax ac af ah at_ ar ad, cB G ac vc, fB G af vf]) X hw (m_X4_way (G := G) (l := l) (ax := ax) (ac := ac) (af := af) (ah := ah) (at_ := at_) (ar := ar) (ad := ad) c_5) Cut.all 0 0 rfl rfl rfl (cwV 2 hts gL_isSound_X4_way rfl rfl rfl hd_X4_way ⟨Nat.le_of_ble_eq_true rfl, Nat.le_of_ble_eq_true rfl⟩) rfl hl.1 rfl (Nat.le_of_ble_eq_true rfl) dL_isSound_538 ⟨Nat.le_of_ble_eq_true rfl, Nat.le_of_ble_eq_true rfl⟩ (fun H locs hw => ?_)
      refine lv_iload hx hb dL_isSound_541 (lv_at hl 16 rfl) ?_
      refine lv_icmp_ne (tgt := 588) hx hb dL_isSound_543 (by decide) (fun k_6 => ?_) (fun k_6 => ?_)
      · have h := br_no h k_6
        refine lv_iconst (v := 0) hx hb dL_isSound_588 (by decide) ?_
        cases h
        exact x_iret X (narz (Or.inl rfl)) hw rfl rfl dL_isSound_589
      · have h := br_yes h k_6
        refine lv_aload_n hx hb dL_isSound_546 rfl (lv_at hl 0 rfl) ?_
        refine lv_iload hx hb dL_isSound_547 (lv_at hl 12 rfl) ?_
        refine lv_iload hx hb dL_isSound_549 (lv_at hl 15 rfl) ?_
        refine lv_iconst (v := 1) hx hb dL_isSound_551 (by decide) ?_
        refine lv_iadd hx hb dL_isSound_552 ?_
        obtain ⟨r_7, c_8, h⟩ := bd_ok h
        refine x_Vi (As := [.int x14, .int (x26 + 1)]) (w' := fl [xB ax ac af ah at_ ar ad, cB G ac vc, fB G af vf]) X hw (m_X4_way (G := G) (l := l) (ax := ax) (ac := ac) (af := af) (ah := ah) (at_ := at_) (ar := ar) (ad := ad) c_8) Cut.all 0 0 rfl rfl rfl (cwV 2 hts gL_isSound_X4_way rfl rfl rfl hd_X4_way ⟨Nat.le_of_ble_eq_true rfl, Nat.le_of_ble_eq_true rfl⟩) rfl hl.1 rfl (Nat.le_of_ble_eq_true rfl) dL_isSound_553 ⟨Nat.le_of_ble_eq_true rfl, Nat.le_of_ble_eq_true rfl⟩ (fun H locs hw => ?_)
        refine lv_iconst (v := (-1)) hx hb dL_isSound_556 (by decide) ?_
        refine lv_icmp_ne (tgt := 588) hx hb dL_isSound_557 (by decide) (fun k_9 => ?_) (fun k_9 => ?_)
        · have h := br_no h k_9
          refine lv_iconst (v := 0) hx hb dL_isSound_588 (by decide) ?_
          cases h
          exact x_iret X (narz (Or.inl rfl)) hw rfl rfl dL_isSound_589
        · have h := br_yes h k_9
          refine lv_aload_n hx hb dL_isSound_560 rfl (lv_at hl 0 rfl) ?_
          refine lv_iload hx hb dL_isSound_561 (lv_at hl 12 rfl) ?_
          obtain ⟨r_10, c_11, h⟩ := bd_ok h
          refine x_Vi (As := [.int x14]) (w' := fl [xB ax ac af ah at_ ar ad, cB G ac vc, fB G af vf]) X hw (m_X4_end (G := G) (l := l) (ax := ax) (ac := ac) (af := af) (ah := ah) (at_ := at_) (ar := ar) (ad := ad) c_11) Cut.all 0 0 rfl rfl rfl (cwV 1 hts gL_isSound_X4_end rfl rfl rfl hd_X4_end ⟨Nat.le_of_ble_eq_true rfl, Nat.le_of_ble_eq_true rfl⟩) rfl hl.1 rfl (Nat.le_of_ble_eq_true rfl) dL_isSound_563 ⟨Nat.le_of_ble_eq_true rfl, Nat.le_of_ble_eq_true rfl⟩ (fun H locs hw => ?_)
          refine lv_iload hx hb dL_isSound_566 (lv_at hl 16 rfl) ?_
          refine lv_icmp_ne (tgt := 588) hx hb dL_isSound_568 (by decide) (fun k_12 => ?_) (fun k_12 => ?_)
          · have h := br_no h k_12
            refine lv_iconst (v := 0) hx hb dL_isSound_588 (by decide) ?_
            cases h
            exact x_iret X (narz (Or.inl rfl)) hw rfl rfl dL_isSound_589
          · have h := br_yes h k_12
            refine lv_aload_n hx hb dL_isSound_571 rfl (lv_at hl 0 rfl) ?_
            refine lv_iload hx hb dL_isSound_572 (lv_at hl 12 rfl) ?_
            obtain ⟨r_13, c_14, h⟩ := bd_ok h
            refine x_Vi (As := [.int x14]) (w' := fl [xB ax ac af ah at_ ar ad, cB G ac vc, fB G af vf]) X hw (m_X4_gathers (G := G) (l := l) (ax := ax) (ac := ac) (af := af) (ah := ah) (at_ := at_) (ar := ar) (ad := ad) c_14) Cut.all 0 0 rfl rfl rfl (cwV 1 hts gL_isSound_X4_gathers rfl rfl rfl hd_X4_gathers ⟨Nat.le_of_ble_eq_true rfl, Nat.le_of_ble_eq_true rfl⟩) rfl hl.1 rfl (Nat.le_of_ble_eq_true rfl) dL_isSound_574 ⟨Nat.le_of_ble_eq_true rfl, Nat.le_of_ble_eq_true rfl⟩ (fun H locs hw => ?_)
            refine lv_aload_n hx hb dL_isSound_577 rfl (lv_at hl 0 rfl) ?_
            refine lv_iload hx hb dL_isSound_578 (lv_at hl 12 rfl) ?_
            refine lv_bipush (v := 6) hx hb dL_isSound_580 (by decide) ?_
            obtain ⟨r_15, c_16, h⟩ := bd_ok h
            refine x_Vi (As := [.int x14, .int 6]) (w' := fl [xB ax ac af ah at_ ar ad, cB G ac vc, fB G af vf]) X hw (m_X4_section (G := G) (l := l) (ax := ax) (ac := ac) (af := af) (ah := ah) (at_ := at_) (ar := ar) (ad := ad) c_16) Cut.all 0 0 rfl rfl rfl (cwV 2 hts gL_isSound_X4_section rfl rfl rfl hd_X4_section ⟨Nat.le_of_ble_eq_true rfl, Nat.le_of_ble_eq_true rfl⟩) rfl hl.1 rfl (Nat.le_of_ble_eq_true rfl) dL_isSound_582 ⟨Nat.le_of_ble_eq_true rfl, Nat.le_of_ble_eq_true rfl⟩ (fun H locs hw => ?_)
            refine lv_icmp_eq (tgt := 590) hx hb dL_isSound_585 (by decide) (fun k_17 => ?_) (fun k_17 => ?_)
            · have h := br_yes h k_17
              refine lv_iload_n hx hb dL_isSound_590 rfl (lv_at hl 3 rfl) ?_
              refine lv_aload_n hx hb dL_isSound_591 rfl (lv_at hl 0 rfl) ?_
              refine lv_iload hx hb dL_isSound_592 (lv_at hl 12 rfl) ?_
              refine lv_bipush (v := 6) hx hb dL_isSound_594 (by decide) ?_
              obtain ⟨r_18, c_19, h⟩ := bd_ok h
              refine x_Vi (As := [.int x14, .int 6]) (w' := fl [xB ax ac af ah at_ ar ad, cB G ac vc, fB G af vf]) X hw (m_X4_section (G := G) (l := l) (ax := ax) (ac := ac) (af := af) (ah := ah) (at_ := at_) (ar := ar) (ad := ad) c_19) Cut.all 0 0 rfl rfl rfl (cwV 2 hts gL_isSound_X4_section rfl rfl rfl hd_X4_section ⟨Nat.le_of_ble_eq_true rfl, Nat.le_of_ble_eq_true rfl⟩) rfl hl.1 rfl (Nat.le_of_ble_eq_true rfl) dL_isSound_596 ⟨Nat.le_of_ble_eq_true rfl, Nat.le_of_ble_eq_true rfl⟩ (fun H locs hw => ?_)
              refine lv_iadd hx hb dL_isSound_599 ?_
              obtain ⟨t_20, et_20, h⟩ := nm_ok h
              refine lv_istore_n (lv' := [(3, .int t_20), (0, .ref ax), (1, .int x1), (2, .int x2), (4, .int x4), (5, .int x5), (6, .int x6), (7, .int x7), (8, .long x8), (10, .long x10), (12, .int x12), (13, .int x13), (14, .int x14), (19, .int x19), (20, .int x20), (26, .int x26), (27, .int x27)]) hx hb dL_isSound_600 rfl hl (by decide) (by rw [et_20]; rfl) (fun ls hl => ?_)
              refine lv_iload hx hb dL_isSound_601 (lv_at hl 5 rfl) ?_
              refine lv_aload_n hx hb dL_isSound_603 rfl (lv_at hl 1 rfl) ?_
              refine lv_iload hx hb dL_isSound_604 (lv_at hl 12 rfl) ?_
              refine lv_bipush (v := 7) hx hb dL_isSound_606 (by decide) ?_
              obtain ⟨r_21, c_22, h⟩ := bd_ok h
              refine x_Vi (As := [.int x14, .int 7]) (w' := fl [xB ax ac af ah at_ ar ad, cB G ac vc, fB G af vf]) X hw (m_X4_section (G := G) (l := l) (ax := ax) (ac := ac) (af := af) (ah := ah) (at_ := at_) (ar := ar) (ad := ad) c_22) Cut.all 0 0 rfl rfl rfl (cwV 2 hts gL_isSound_X4_section rfl rfl rfl hd_X4_section ⟨Nat.le_of_ble_eq_true rfl, Nat.le_of_ble_eq_true rfl⟩) rfl hl.1 rfl (Nat.le_of_ble_eq_true rfl) dL_isSound_608 ⟨Nat.le_of_ble_eq_true rfl, Nat.le_of_ble_eq_true rfl⟩ (fun H locs hw => ?_)
              refine lv_iadd hx hb dL_isSound_611 ?_
              obtain ⟨t_23, et_23, h⟩ := nm_ok h
              refine lv_istore (lv' := [(5, .int t_23), (3, .int t_20), (0, .ref ax), (1, .int x1), (2, .int x2), (4, .int x4), (6, .int x6), (7, .int x7), (8, .long x8), (10, .long x10), (12, .int x12), (13, .int x13), (14, .int x14), (19, .int x19), (20, .int x20), (26, .int x26), (27, .int x27)]) hx hb dL_isSound_612 hl (by decide) (by rw [et_23]; rfl) (fun ls hl => ?_)
              refine lv_iload hx hb dL_isSound_614 (lv_at hl 5 rfl) ?_
              refine lv_iload hx hb dL_isSound_616 (lv_at hl 13 rfl) ?_
              refine lv_iadd hx hb dL_isSound_618 ?_
              obtain ⟨t_24, et_24, h⟩ := nm_ok h
              refine lv_istore (lv' := [(4, .int t_24), (5, .int t_23), (3, .int t_20), (0, .ref ax), (1, .int x1), (2, .int x2), (6, .int x6), (7, .int x7), (8, .long x8), (10, .long x10), (12, .int x12), (13, .int x13), (14, .int x14), (19, .int x19), (20, .int x20), (26, .int x26), (27, .int x27)]) hx hb dL_isSound_619 hl (by decide) (by rw [et_24]; rfl) (fun ls hl => ?_)
              refine lv_iload hx hb dL_isSound_621 (lv_at hl 6 rfl) ?_
              refine lv_iload hx hb dL_isSound_623 (lv_at hl 14 rfl) ?_
              refine lv_if_ge (tgt := 632) hx hb dL_isSound_625 (by decide) (fun k_25 => ?_) (fun k_25 => ?_)
              · have h := br_yes h k_25
                refine lv_iconst (v := 0) hx hb dL_isSound_632 (by decide) ?_
                exact w_L_isSound_b633 X hk36 x2 t_20 t_24 t_23 x7 x8 x10 x12 x13 x14 0 x6 _ _ _ h hw (lv_sub hl [3, 4, 5, 2, 0, 1, 7, 8, 9, 10, 11, 12] rfl)
              · have h := br_no h k_25
                refine lv_iconst (v := 1) hx hb dL_isSound_628 (by decide) ?_
                refine lv_goto (tgt := 633) hx hb dL_isSound_629 (by decide) ?_
                exact w_L_isSound_b633 X hk36 x2 t_20 t_24 t_23 x7 x8 x10 x12 x13 x14 1 x6 _ _ _ h hw (lv_sub hl [3, 4, 5, 2, 0, 1, 7, 8, 9, 10, 11, 12] rfl)
            · have h := br_no h k_17
              refine lv_iconst (v := 0) hx hb dL_isSound_588 (by decide) ?_
              cases h
              exact x_iret X (narz (Or.inl rfl)) hw rfl rfl dL_isSound_589
    · have h := br_no h k_3
      refine lv_aload_n hx hb dL_isSound_496 rfl (lv_at hl 0 rfl) ?_
      refine lv_iload hx hb dL_isSound_497 (lv_at hl 12 rfl) ?_
      refine lv_iload hx hb dL_isSound_499 (lv_at hl 15 rfl) ?_
      obtain ⟨r_26, c_27, h⟩ := bd_ok h
      refine x_Vi (As := [.int x14, .int x26]) (w' := fl [xB ax ac af ah at_ ar ad, cB G ac vc, fB G af vf]) X hw (m_X4_way (G := G) (l := l) (ax := ax) (ac := ac) (af := af) (ah := ah) (at_ := at_) (ar := ar) (ad := ad) c_27) Cut.all 0 0 rfl rfl rfl (cwV 2 hts gL_isSound_X4_way rfl rfl rfl hd_X4_way ⟨Nat.le_of_ble_eq_true rfl, Nat.le_of_ble_eq_true rfl⟩) rfl hl.1 rfl (Nat.le_of_ble_eq_true rfl) dL_isSound_501 ⟨Nat.le_of_ble_eq_true rfl, Nat.le_of_ble_eq_true rfl⟩ (fun H locs hw => ?_)
      refine lv_iload hx hb dL_isSound_504 (lv_at hl 16 rfl) ?_
      refine lv_icmp_ne (tgt := 515) hx hb dL_isSound_506 (by decide) (fun k_28 => ?_) (fun k_28 => ?_)
      · have h := br_no h k_28
        refine lv_iconst (v := 0) hx hb dL_isSound_515 (by decide) ?_
        cases h
        exact x_iret X (narz (Or.inl rfl)) hw rfl rfl dL_isSound_516
      · have h := br_yes h k_28
        refine lv_iload hx hb dL_isSound_509 (lv_at hl 15 rfl) ?_
        refine lv_iload_n hx hb dL_isSound_511 rfl (lv_at hl 1 rfl) ?_
        refine lv_icmp_le (tgt := 517) hx hb dL_isSound_512 (by decide) (fun k_29 => ?_) (fun k_29 => ?_)
        · have h := br_yes h k_29
          refine lv_aload_n hx hb dL_isSound_517 rfl (lv_at hl 0 rfl) ?_
          refine lv_iload hx hb dL_isSound_518 (lv_at hl 16 rfl) ?_
          refine lv_bipush (v := 8) hx hb dL_isSound_520 (by decide) ?_
          obtain ⟨r_30, c_31, h⟩ := bd_ok h
          refine x_Vi (As := [.int x27, .int 8]) (w' := fl [xB ax ac af ah at_ ar ad, cB G ac vc, fB G af vf]) X hw (m_X4_section (G := G) (l := l) (ax := ax) (ac := ac) (af := af) (ah := ah) (at_ := at_) (ar := ar) (ad := ad) c_31) Cut.all 0 0 rfl rfl rfl (cwV 2 hts gL_isSound_X4_section rfl rfl rfl hd_X4_section ⟨Nat.le_of_ble_eq_true rfl, Nat.le_of_ble_eq_true rfl⟩) rfl hl.1 rfl (Nat.le_of_ble_eq_true rfl) dL_isSound_522 ⟨Nat.le_of_ble_eq_true rfl, Nat.le_of_ble_eq_true rfl⟩ (fun H locs hw => ?_)
          refine lv_istore (lv' := [(27, .int r_30), (0, .ref ax), (1, .int x1), (2, .int x2), (3, .int x3), (4, .int x4), (5, .int x5), (6, .int x6), (7, .int x7), (8, .long x8), (10, .long x10), (12, .int x12), (13, .int x13), (14, .int x14), (19, .int x19), (20, .int x20), (26, .int x26)]) hx hb dL_isSound_525 hl (by decide) rfl (fun ls hl => ?_)
          obtain ⟨t_32, et_32, h⟩ := nm_ok h
          refine lv_iinc (v := t_32) (lv' := [(26, .int t_32), (27, .int r_30), (0, .ref ax), (1, .int x1), (2, .int x2), (3, .int x3), (4, .int x4), (5, .int x5), (6, .int x6), (7, .int x7), (8, .long x8), (10, .long x10), (12, .int x12), (13, .int x13), (14, .int x14), (19, .int x19), (20, .int x20)]) hx hb dL_isSound_527 hl (k := 16) rfl (by rw [et_32]; rfl) (by decide) rfl (fun ls hl => ?_)
          refine lv_goto (tgt := 485) hx hb dL_isSound_530 (by decide) ?_
          exact ih t_32 r_30 _ _ _ h hw (lv_sub hl [2, 3, 4, 5, 6, 7, 8, 9, 10, 11, 12, 13, 14, 15, 16, 0, 1] rfl)
        · have h := br_no h k_29
          refine lv_iconst (v := 0) hx hb dL_isSound_515 (by decide) ?_
          cases h
          exact x_iret X (narz (Or.inl rfl)) hw rfl rfl dL_isSound_516
noncomputable def f_L_isSound_b473  (k36 : Int32 → Int32 → Int32 → Int32 → Int32 → Int32 → Int64 → Int64 → Int32 → Int32 → Option (Int32)) (vc : CV) (vf : FV) (x1 : Int32) (x2 : Int32) (x3 : Int32) (x4 : Int32) (x5 : Int32) (x6 : Int32) (x7 : Int32) (x8 : Int64) (x10 : Int64) (x12 : Int32) (x13 : Int32) (x14 : Int32) (x19 : Int32) (x20 : Int32) (y0 : Int32) (y1 : Int32) : Option (Int32) :=
  br (y1 = y0)
    (f_L_isSound_b485 k36 vc vf x1 x2 x3 x4 x5 x6 x7 x8 x10 x12 x13 x14 x19 x20 FU 0 x14)
    (some (0))
set_option maxHeartbeats 4000000 in
set_option maxRecDepth 100000 in
theorem w_L_isSound_b473 {G : GG} {l : Launch} {p : Program} {e : Env} {s : State} {m : MethodId} {args : Array Value} {below : List Frame} {meth : Method} {c : Code} {A : Nat → Prop} {ax : Nat} {ac af ah at_ ar ad : Nat → Nat} {vc : CV} {vf : FV} {x1 : Int32} {r : Int32}   {k36 : Int32 → Int32 → Int32 → Int32 → Int32 → Int32 → Int64 → Int64 → Int32 → Int32 → Option (Int32)} (X : Cx p s m args meth c cL_isSound 28 (some .boolean) wsL_isSound RL G A) (hk36 : ∀ (x2 : Int32) (x3 : Int32) (x4 : Int32) (x5 : Int32) (x6 : Int32) (x7 : Int32) (x8 : Int64) (x10 : Int64) (x12 : Int32) (x13 : Int32) (H : Heap) (locs : List Loc) (ls : Array Slot), k36 x2 x3 x4 x5 x6 x7 x8 x10 x12 x13 = some (r) → Wd G A s H locs (fl [xB ax ac af ah at_ ar ad, cB G ac vc, fB G af vf]) → lv_has ls 28 [(0, .ref ax), (1, .int x1), (2, .int x2), (3, .int x3), (4, .int x4), (5, .int x5), (6, .int x6), (7, .int x7), (8, .long x8), (10, .long x10), (12, .int x12), (13, .int x13)] → W p l e rL_isSound s m args below meth c H locs 0 0 (MQ below (Qi G A r (fl [xB ax ac af ah at_ ar ad, cB G ac vc, fB G af vf])) args s 0 0 A) (F0 m 36 ls [])) :
    ∀ (x2 : Int32) (x3 : Int32) (x4 : Int32) (x5 : Int32) (x6 : Int32) (x7 : Int32) (x8 : Int64) (x10 : Int64) (x12 : Int32) (x13 : Int32) (x14 : Int32) (x19 : Int32) (x20 : Int32) (y0 : Int32) (y1 : Int32) (H : Heap) (locs : List Loc) (ls : Array Slot), f_L_isSound_b473 k36 vc vf x1 x2 x3 x4 x5 x6 x7 x8 x10 x12 x13 x14 x19 x20 y0 y1 = some (r) → Wd G A s H locs (fl [xB ax ac af ah at_ ar ad, cB G ac vc, fB G af vf]) → lv_has ls 28 [(0, .ref ax), (1, .int x1), (2, .int x2), (3, .int x3), (4, .int x4), (5, .int x5), (6, .int x6), (7, .int x7), (8, .long x8), (10, .long x10), (12, .int x12), (13, .int x13), (14, .int x14), (19, .int x19), (20, .int x20)] → W p l e rL_isSound s m args below meth c H locs 0 0 (MQ below (Qi G A r (fl [xB ax ac af ah at_ ar ad, cB G ac vc, fB G af vf])) args s 0 0 A) (F0 m 473 ls [.int y0, .int y1]) := by
  obtain ⟨⟨hx, hb, hml, hown, hts⟩, hK, hr, hlk, hA⟩ := id X
  intro x2 x3 x4 x5 x6 x7 x8 x10 x12 x13 x14 x19 x20 y0 y1 H locs ls h hw hl
  unfold f_L_isSound_b473 at h
  refine lv_icmp_eq (tgt := 478) hx hb dL_isSound_473 (by decide) (fun k_1 => ?_) (fun k_1 => ?_)
  · have h := br_yes h k_1
    refine lv_iconst (v := 0) hx hb dL_isSound_478 (by decide) ?_
    refine lv_istore (lv' := [(26, .int 0), (0, .ref ax), (1, .int x1), (2, .int x2), (3, .int x3), (4, .int x4), (5, .int x5), (6, .int x6), (7, .int x7), (8, .long x8), (10, .long x10), (12, .int x12), (13, .int x13), (14, .int x14), (19, .int x19), (20, .int x20)]) hx hb dL_isSound_479 hl (by decide) rfl (fun ls hl => ?_)
    refine lv_iload hx hb dL_isSound_481 (lv_at hl 13 rfl) ?_
    refine lv_istore (lv' := [(27, .int x14), (26, .int 0), (0, .ref ax), (1, .int x1), (2, .int x2), (3, .int x3), (4, .int x4), (5, .int x5), (6, .int x6), (7, .int x7), (8, .long x8), (10, .long x10), (12, .int x12), (13, .int x13), (14, .int x14), (19, .int x19), (20, .int x20)]) hx hb dL_isSound_483 hl (by decide) rfl (fun ls hl => ?_)
    exact w_L_isSound_b485 X hk36 FU 0 x14 _ _ _ h hw (lv_sub hl [2, 3, 4, 5, 6, 7, 8, 9, 10, 11, 12, 13, 14, 15, 16, 1, 0] rfl)
  · have h := br_no h k_1
    refine lv_iconst (v := 0) hx hb dL_isSound_476 (by decide) ?_
    cases h
    exact x_iret X (narz (Or.inl rfl)) hw rfl rfl dL_isSound_477
noncomputable def f_L_isSound_b439  (k36 : Int32 → Int32 → Int32 → Int32 → Int32 → Int32 → Int64 → Int64 → Int32 → Int32 → Option (Int32)) (vc : CV) (vf : FV) (x1 : Int32) (x2 : Int32) (x3 : Int32) (x4 : Int32) (x5 : Int32) (x6 : Int32) (x7 : Int32) (x8 : Int64) (x10 : Int64) (x12 : Int32) (x13 : Int32) (x14 : Int32) (x19 : Int32) (x20 : Int32) (y0 : Int32) : Option (Int32) :=
  bd (f_X4_section vc vf x14 6) fun r_1 =>
  nm ((r_1 - y0) : Int32) fun t_3 =>
  bd (f_X4_section vc vf x14 7) fun r_4 =>
  br (t_3 ≤ 0)
    (f_L_isSound_b473 k36 vc vf x1 x2 x3 x4 x5 x6 x7 x8 x10 x12 x13 x14 x19 x20 0 r_4)
    (f_L_isSound_b473 k36 vc vf x1 x2 x3 x4 x5 x6 x7 x8 x10 x12 x13 x14 x19 x20 t_3 r_4)
set_option maxHeartbeats 4000000 in
set_option maxRecDepth 100000 in
theorem w_L_isSound_b439 {G : GG} {l : Launch} {p : Program} {e : Env} {s : State} {m : MethodId} {args : Array Value} {below : List Frame} {meth : Method} {c : Code} {A : Nat → Prop} {ax : Nat} {ac af ah at_ ar ad : Nat → Nat} {vc : CV} {vf : FV} {x1 : Int32} {r : Int32}   {k36 : Int32 → Int32 → Int32 → Int32 → Int32 → Int32 → Int64 → Int64 → Int32 → Int32 → Option (Int32)} (X : Cx p s m args meth c cL_isSound 28 (some .boolean) wsL_isSound RL G A) (hk36 : ∀ (x2 : Int32) (x3 : Int32) (x4 : Int32) (x5 : Int32) (x6 : Int32) (x7 : Int32) (x8 : Int64) (x10 : Int64) (x12 : Int32) (x13 : Int32) (H : Heap) (locs : List Loc) (ls : Array Slot), k36 x2 x3 x4 x5 x6 x7 x8 x10 x12 x13 = some (r) → Wd G A s H locs (fl [xB ax ac af ah at_ ar ad, cB G ac vc, fB G af vf]) → lv_has ls 28 [(0, .ref ax), (1, .int x1), (2, .int x2), (3, .int x3), (4, .int x4), (5, .int x5), (6, .int x6), (7, .int x7), (8, .long x8), (10, .long x10), (12, .int x12), (13, .int x13)] → W p l e rL_isSound s m args below meth c H locs 0 0 (MQ below (Qi G A r (fl [xB ax ac af ah at_ ar ad, cB G ac vc, fB G af vf])) args s 0 0 A) (F0 m 36 ls [])) :
    ∀ (x2 : Int32) (x3 : Int32) (x4 : Int32) (x5 : Int32) (x6 : Int32) (x7 : Int32) (x8 : Int64) (x10 : Int64) (x12 : Int32) (x13 : Int32) (x14 : Int32) (x19 : Int32) (x20 : Int32) (y0 : Int32) (H : Heap) (locs : List Loc) (ls : Array Slot), f_L_isSound_b439 k36 vc vf x1 x2 x3 x4 x5 x6 x7 x8 x10 x12 x13 x14 x19 x20 y0 = some (r) → Wd G A s H locs (fl [xB ax ac af ah at_ ar ad, cB G ac vc, fB G af vf]) → lv_has ls 28 [(0, .ref ax), (1, .int x1), (2, .int x2), (3, .int x3), (4, .int x4), (5, .int x5), (6, .int x6), (7, .int x7), (8, .long x8), (10, .long x10), (12, .int x12), (13, .int x13), (14, .int x14), (19, .int x19), (20, .int x20)] → W p l e rL_isSound s m args below meth c H locs 0 0 (MQ below (Qi G A r (fl [xB ax ac af ah at_ ar ad, cB G ac vc, fB G af vf])) args s 0 0 A) (F0 m 439 ls [.int y0]) := by
  obtain ⟨⟨hx, hb, hml, hown, hts⟩, hK, hr, hlk, hA⟩ := id X
  intro x2 x3 x4 x5 x6 x7 x8 x10 x12 x13 x14 x19 x20 y0 H locs ls h hw hl
  unfold f_L_isSound_b439 at h
  refine lv_istore (lv' := [(24, .int y0), (0, .ref ax), (1, .int x1), (2, .int x2), (3, .int x3), (4, .int x4), (5, .int x5), (6, .int x6), (7, .int x7), (8, .long x8), (10, .long x10), (12, .int x12), (13, .int x13), (14, .int x14), (19, .int x19), (20, .int x20)]) hx hb dL_isSound_439 hl (by decide) rfl (fun ls hl => ?_)
  refine lv_aload_n hx hb dL_isSound_441 rfl (lv_at hl 1 rfl) ?_
  refine lv_iload hx hb dL_isSound_442 (lv_at hl 13 rfl) ?_
  refine lv_bipush (v := 6) hx hb dL_isSound_444 (by decide) ?_
  obtain ⟨r_1, c_2, h⟩ := bd_ok h
  refine x_Vi (As := [.int x14, .int 6]) (w' := fl [xB ax ac af ah at_ ar ad, cB G ac vc, fB G af vf]) X hw (m_X4_section (G := G) (l := l) (ax := ax) (ac := ac) (af := af) (ah := ah) (at_ := at_) (ar := ar) (ad := ad) c_2) Cut.all 0 0 rfl rfl rfl (cwV 2 hts gL_isSound_X4_section rfl rfl rfl hd_X4_section ⟨Nat.le_of_ble_eq_true rfl, Nat.le_of_ble_eq_true rfl⟩) rfl hl.1 rfl (Nat.le_of_ble_eq_true rfl) dL_isSound_446 ⟨Nat.le_of_ble_eq_true rfl, Nat.le_of_ble_eq_true rfl⟩ (fun H locs hw => ?_)
  refine lv_iload hx hb dL_isSound_449 (lv_at hl 0 rfl) ?_
  refine lv_isub hx hb dL_isSound_451 ?_
  obtain ⟨t_3, et_3, h⟩ := nm_ok h
  refine lv_istore (lv' := [(25, .int t_3), (24, .int y0), (0, .ref ax), (1, .int x1), (2, .int x2), (3, .int x3), (4, .int x4), (5, .int x5), (6, .int x6), (7, .int x7), (8, .long x8), (10, .long x10), (12, .int x12), (13, .int x13), (14, .int x14), (19, .int x19), (20, .int x20)]) hx hb dL_isSound_452 hl (by decide) (by rw [et_3]; rfl) (fun ls hl => ?_)
  refine lv_aload_n hx hb dL_isSound_454 rfl (lv_at hl 2 rfl) ?_
  refine lv_iload hx hb dL_isSound_455 (lv_at hl 14 rfl) ?_
  refine lv_bipush (v := 7) hx hb dL_isSound_457 (by decide) ?_
  obtain ⟨r_4, c_5, h⟩ := bd_ok h
  refine x_Vi (As := [.int x14, .int 7]) (w' := fl [xB ax ac af ah at_ ar ad, cB G ac vc, fB G af vf]) X hw (m_X4_section (G := G) (l := l) (ax := ax) (ac := ac) (af := af) (ah := ah) (at_ := at_) (ar := ar) (ad := ad) c_5) Cut.all 0 0 rfl rfl rfl (cwV 2 hts gL_isSound_X4_section rfl rfl rfl hd_X4_section ⟨Nat.le_of_ble_eq_true rfl, Nat.le_of_ble_eq_true rfl⟩) rfl hl.1 rfl (Nat.le_of_ble_eq_true rfl) dL_isSound_459 ⟨Nat.le_of_ble_eq_true rfl, Nat.le_of_ble_eq_true rfl⟩ (fun H locs hw => ?_)
  refine lv_iload hx hb dL_isSound_462 (lv_at hl 0 rfl) ?_
  refine lv_if_le (tgt := 472) hx hb dL_isSound_464 (by decide) (fun k_6 => ?_) (fun k_6 => ?_)
  · have h := br_yes h k_6
    refine lv_iconst (v := 0) hx hb dL_isSound_472 (by decide) ?_
    exact w_L_isSound_b473 X hk36 x2 x3 x4 x5 x6 x7 x8 x10 x12 x13 x14 x19 x20 0 r_4 _ _ _ h hw (lv_sub hl [2, 3, 4, 5, 6, 7, 8, 9, 10, 11, 12, 13, 14, 15, 16] rfl)
  · have h := br_no h k_6
    refine lv_iload hx hb dL_isSound_467 (lv_at hl 0 rfl) ?_
    refine lv_goto (tgt := 473) hx hb dL_isSound_469 (by decide) ?_
    exact w_L_isSound_b473 X hk36 x2 x3 x4 x5 x6 x7 x8 x10 x12 x13 x14 x19 x20 t_3 r_4 _ _ _ h hw (lv_sub hl [2, 3, 4, 5, 6, 7, 8, 9, 10, 11, 12, 13, 14, 15, 16] rfl)
noncomputable def f_L_isSound_b402  (k36 : Int32 → Int32 → Int32 → Int32 → Int32 → Int32 → Int64 → Int64 → Int32 → Int32 → Option (Int32)) (vc : CV) (vf : FV) (x1 : Int32) (x2 : Int32) (x3 : Int32) (x4 : Int32) (x5 : Int32) (x6 : Int32) (x7 : Int32) (x8 : Int64) (x10 : Int64) (x12 : Int32) (x13 : Int32) (x14 : Int32) (x19 : Int32) (x20 : Int32) (y0 : Int32) (y1 : Int32) : Option (Int32) :=
  br (y1 = y0)
    (bd (f_X4_section vc vf x14 3) fun r_2 =>
     br (r_2 = 1)
       (bd (f_X4_section vc vf x14 0) fun r_5 =>
        bd (f_X4_count vc vf 3) fun r_7 =>
        ck (¬ (1000 : Int32) = 0) <|
        nm ((r_5 * r_7) : Int32) fun t_10 =>
        f_L_isSound_b439 k36 vc vf x1 x2 x3 x4 x5 x6 x7 x8 x10 x12 x13 x14 x19 x20 (t_10 / 1000))
       (f_L_isSound_b439 k36 vc vf x1 x2 x3 x4 x5 x6 x7 x8 x10 x12 x13 x14 x19 x20 0))
    (some (0))
set_option maxHeartbeats 4000000 in
set_option maxRecDepth 100000 in
theorem w_L_isSound_b402 {G : GG} {l : Launch} {p : Program} {e : Env} {s : State} {m : MethodId} {args : Array Value} {below : List Frame} {meth : Method} {c : Code} {A : Nat → Prop} {ax : Nat} {ac af ah at_ ar ad : Nat → Nat} {vc : CV} {vf : FV} {x1 : Int32} {r : Int32}   {k36 : Int32 → Int32 → Int32 → Int32 → Int32 → Int32 → Int64 → Int64 → Int32 → Int32 → Option (Int32)} (X : Cx p s m args meth c cL_isSound 28 (some .boolean) wsL_isSound RL G A) (hk36 : ∀ (x2 : Int32) (x3 : Int32) (x4 : Int32) (x5 : Int32) (x6 : Int32) (x7 : Int32) (x8 : Int64) (x10 : Int64) (x12 : Int32) (x13 : Int32) (H : Heap) (locs : List Loc) (ls : Array Slot), k36 x2 x3 x4 x5 x6 x7 x8 x10 x12 x13 = some (r) → Wd G A s H locs (fl [xB ax ac af ah at_ ar ad, cB G ac vc, fB G af vf]) → lv_has ls 28 [(0, .ref ax), (1, .int x1), (2, .int x2), (3, .int x3), (4, .int x4), (5, .int x5), (6, .int x6), (7, .int x7), (8, .long x8), (10, .long x10), (12, .int x12), (13, .int x13)] → W p l e rL_isSound s m args below meth c H locs 0 0 (MQ below (Qi G A r (fl [xB ax ac af ah at_ ar ad, cB G ac vc, fB G af vf])) args s 0 0 A) (F0 m 36 ls [])) :
    ∀ (x2 : Int32) (x3 : Int32) (x4 : Int32) (x5 : Int32) (x6 : Int32) (x7 : Int32) (x8 : Int64) (x10 : Int64) (x12 : Int32) (x13 : Int32) (x14 : Int32) (x19 : Int32) (x20 : Int32) (y0 : Int32) (y1 : Int32) (H : Heap) (locs : List Loc) (ls : Array Slot), f_L_isSound_b402 k36 vc vf x1 x2 x3 x4 x5 x6 x7 x8 x10 x12 x13 x14 x19 x20 y0 y1 = some (r) → Wd G A s H locs (fl [xB ax ac af ah at_ ar ad, cB G ac vc, fB G af vf]) → lv_has ls 28 [(0, .ref ax), (1, .int x1), (2, .int x2), (3, .int x3), (4, .int x4), (5, .int x5), (6, .int x6), (7, .int x7), (8, .long x8), (10, .long x10), (12, .int x12), (13, .int x13), (14, .int x14), (19, .int x19), (20, .int x20)] → W p l e rL_isSound s m args below meth c H locs 0 0 (MQ below (Qi G A r (fl [xB ax ac af ah at_ ar ad, cB G ac vc, fB G af vf])) args s 0 0 A) (F0 m 402 ls [.int y0, .int y1]) := by
  obtain ⟨⟨hx, hb, hml, hown, hts⟩, hK, hr, hlk, hA⟩ := id X
  intro x2 x3 x4 x5 x6 x7 x8 x10 x12 x13 x14 x19 x20 y0 y1 H locs ls h hw hl
  unfold f_L_isSound_b402 at h
  refine lv_icmp_eq (tgt := 407) hx hb dL_isSound_402 (by decide) (fun k_1 => ?_) (fun k_1 => ?_)
  · have h := br_yes h k_1
    refine lv_aload_n hx hb dL_isSound_407 rfl (lv_at hl 0 rfl) ?_
    refine lv_iload hx hb dL_isSound_408 (lv_at hl 12 rfl) ?_
    refine lv_iconst (v := 3) hx hb dL_isSound_410 (by decide) ?_
    obtain ⟨r_2, c_3, h⟩ := bd_ok h
    refine x_Vi (As := [.int x14, .int 3]) (w' := fl [xB ax ac af ah at_ ar ad, cB G ac vc, fB G af vf]) X hw (m_X4_section (G := G) (l := l) (ax := ax) (ac := ac) (af := af) (ah := ah) (at_ := at_) (ar := ar) (ad := ad) c_3) Cut.all 0 0 rfl rfl rfl (cwV 2 hts gL_isSound_X4_section rfl rfl rfl hd_X4_section ⟨Nat.le_of_ble_eq_true rfl, Nat.le_of_ble_eq_true rfl⟩) rfl hl.1 rfl (Nat.le_of_ble_eq_true rfl) dL_isSound_411 ⟨Nat.le_of_ble_eq_true rfl, Nat.le_of_ble_eq_true rfl⟩ (fun H locs hw => ?_)
    refine lv_iconst (v := 1) hx hb dL_isSound_414 (by decide) ?_
    refine lv_icmp_ne (tgt := 438) hx hb dL_isSound_415 (by decide) (fun k_4 => ?_) (fun k_4 => ?_)
    · have h := br_no h k_4
      refine lv_iconst (v := 0) hx hb dL_isSound_438 (by decide) ?_
      exact w_L_isSound_b439 X hk36 x2 x3 x4 x5 x6 x7 x8 x10 x12 x13 x14 x19 x20 0 _ _ _ h hw (lv_sub hl [0, 1, 2, 3, 4, 5, 6, 7, 8, 9, 10, 11, 12, 13, 14] rfl)
    · have h := br_yes h k_4
      refine lv_aload_n hx hb dL_isSound_418 rfl (lv_at hl 0 rfl) ?_
      refine lv_iload hx hb dL_isSound_419 (lv_at hl 12 rfl) ?_
      refine lv_iconst (v := 0) hx hb dL_isSound_421 (by decide) ?_
      obtain ⟨r_5, c_6, h⟩ := bd_ok h
      refine x_Vi (As := [.int x14, .int 0]) (w' := fl [xB ax ac af ah at_ ar ad, cB G ac vc, fB G af vf]) X hw (m_X4_section (G := G) (l := l) (ax := ax) (ac := ac) (af := af) (ah := ah) (at_ := at_) (ar := ar) (ad := ad) c_6) Cut.all 0 0 rfl rfl rfl (cwV 2 hts gL_isSound_X4_section rfl rfl rfl hd_X4_section ⟨Nat.le_of_ble_eq_true rfl, Nat.le_of_ble_eq_true rfl⟩) rfl hl.1 rfl (Nat.le_of_ble_eq_true rfl) dL_isSound_422 ⟨Nat.le_of_ble_eq_true rfl, Nat.le_of_ble_eq_true rfl⟩ (fun H locs hw => ?_)
      refine lv_aload_n hx hb dL_isSound_425 rfl (lv_at hl 0 rfl) ?_
      refine lv_iconst (v := 3) hx hb dL_isSound_426 (by decide) ?_
      obtain ⟨r_7, c_8, h⟩ := bd_ok h
      refine x_Vi (As := [.int 3]) (w' := fl [xB ax ac af ah at_ ar ad, cB G ac vc, fB G af vf]) X hw (m_X4_count (G := G) (l := l) (ax := ax) (ac := ac) (af := af) (ah := ah) (at_ := at_) (ar := ar) (ad := ad) c_8) Cut.all 0 0 rfl rfl rfl (cwV 1 hts gL_isSound_X4_count rfl rfl rfl hd_X4_count ⟨Nat.le_of_ble_eq_true rfl, Nat.le_of_ble_eq_true rfl⟩) rfl hl.1 rfl (Nat.le_of_ble_eq_true rfl) dL_isSound_427 ⟨Nat.le_of_ble_eq_true rfl, Nat.le_of_ble_eq_true rfl⟩ (fun H locs hw => ?_)
      refine lv_imul hx hb dL_isSound_430 ?_
      refine lv_sipush (v := 1000) hx hb dL_isSound_431 (by decide) ?_
      obtain ⟨k_9, h⟩ := ck_ok h
      obtain ⟨t_10, et_10, h⟩ := nm_ok h
      rw [← et_10]
      refine lv_idiv hx hb dL_isSound_434 k_9 ?_
      refine lv_goto (tgt := 439) hx hb dL_isSound_435 (by decide) ?_
      exact w_L_isSound_b439 X hk36 x2 x3 x4 x5 x6 x7 x8 x10 x12 x13 x14 x19 x20 (t_10 / 1000) _ _ _ h hw (lv_sub hl [0, 1, 2, 3, 4, 5, 6, 7, 8, 9, 10, 11, 12, 13, 14] rfl)
  · have h := br_no h k_1
    refine lv_iconst (v := 0) hx hb dL_isSound_405 (by decide) ?_
    cases h
    exact x_iret X (narz (Or.inl rfl)) hw rfl rfl dL_isSound_406
noncomputable def f_L_isSound_b341  (k36 : Int32 → Int32 → Int32 → Int32 → Int32 → Int32 → Int64 → Int64 → Int32 → Int32 → Option (Int32)) (k237 : Int32 → Int32 → Int32 → Int32 → Option (Int32)) (vc : CV) (vf : FV) (x1 : Int32) (x2 : Int32) (x3 : Int32) (x4 : Int32) (x5 : Int32) (x6 : Int32) (x7 : Int32) (x8 : Int64) (x10 : Int64) (x12 : Int32) (x13 : Int32) (x14 : Int32) (x19 : Int32) (x20 : Int32) (x21 : Int32) (x22 : Int32) (x23 : Int32) (x24 : Int32) : Option (Int32) :=
  nm (x24 + 1 : Int32) fun t_1 =>
  k237 x21 x22 x23 t_1
set_option maxHeartbeats 4000000 in
set_option maxRecDepth 100000 in
theorem w_L_isSound_b341 {G : GG} {l : Launch} {p : Program} {e : Env} {s : State} {m : MethodId} {args : Array Value} {below : List Frame} {meth : Method} {c : Code} {A : Nat → Prop} {ax : Nat} {ac af ah at_ ar ad : Nat → Nat} {vc : CV} {vf : FV} {x1 : Int32} {x2 : Int32} {x3 : Int32} {x4 : Int32} {x5 : Int32} {x6 : Int32} {x7 : Int32} {x8 : Int64} {x10 : Int64} {x12 : Int32} {x13 : Int32} {x14 : Int32} {x19 : Int32} {x20 : Int32} {r : Int32}   {k36 : Int32 → Int32 → Int32 → Int32 → Int32 → Int32 → Int64 → Int64 → Int32 → Int32 → Option (Int32)} {k237 : Int32 → Int32 → Int32 → Int32 → Option (Int32)} (X : Cx p s m args meth c cL_isSound 28 (some .boolean) wsL_isSound RL G A) (hk36 : ∀ (x2 : Int32) (x3 : Int32) (x4 : Int32) (x5 : Int32) (x6 : Int32) (x7 : Int32) (x8 : Int64) (x10 : Int64) (x12 : Int32) (x13 : Int32) (H : Heap) (locs : List Loc) (ls : Array Slot), k36 x2 x3 x4 x5 x6 x7 x8 x10 x12 x13 = some (r) → Wd G A s H locs (fl [xB ax ac af ah at_ ar ad, cB G ac vc, fB G af vf]) → lv_has ls 28 [(0, .ref ax), (1, .int x1), (2, .int x2), (3, .int x3), (4, .int x4), (5, .int x5), (6, .int x6), (7, .int x7), (8, .long x8), (10, .long x10), (12, .int x12), (13, .int x13)] → W p l e rL_isSound s m args below meth c H locs 0 0 (MQ below (Qi G A r (fl [xB ax ac af ah at_ ar ad, cB G ac vc, fB G af vf])) args s 0 0 A) (F0 m 36 ls [])) (hk237 : ∀ (x21 : Int32) (x22 : Int32) (x23 : Int32) (x24 : Int32) (H : Heap) (locs : List Loc) (ls : Array Slot), k237 x21 x22 x23 x24 = some (r) → Wd G A s H locs (fl [xB ax ac af ah at_ ar ad, cB G ac vc, fB G af vf]) → lv_has ls 28 [(0, .ref ax), (1, .int x1), (2, .int x2), (3, .int x3), (4, .int x4), (5, .int x5), (6, .int x6), (7, .int x7), (8, .long x8), (10, .long x10), (12, .int x12), (13, .int x13), (14, .int x14), (19, .int x19), (20, .int x20), (21, .int x21), (22, .int x22), (23, .int x23), (24, .int x24)] → W p l e rL_isSound s m args below meth c H locs 0 0 (MQ below (Qi G A r (fl [xB ax ac af ah at_ ar ad, cB G ac vc, fB G af vf])) args s 0 0 A) (F0 m 237 ls [])) :
    ∀ (x21 : Int32) (x22 : Int32) (x23 : Int32) (x24 : Int32) (H : Heap) (locs : List Loc) (ls : Array Slot), f_L_isSound_b341 k36 k237 vc vf x1 x2 x3 x4 x5 x6 x7 x8 x10 x12 x13 x14 x19 x20 x21 x22 x23 x24 = some (r) → Wd G A s H locs (fl [xB ax ac af ah at_ ar ad, cB G ac vc, fB G af vf]) → lv_has ls 28 [(0, .ref ax), (1, .int x1), (2, .int x2), (3, .int x3), (4, .int x4), (5, .int x5), (6, .int x6), (7, .int x7), (8, .long x8), (10, .long x10), (12, .int x12), (13, .int x13), (14, .int x14), (19, .int x19), (20, .int x20), (21, .int x21), (22, .int x22), (23, .int x23), (24, .int x24)] → W p l e rL_isSound s m args below meth c H locs 0 0 (MQ below (Qi G A r (fl [xB ax ac af ah at_ ar ad, cB G ac vc, fB G af vf])) args s 0 0 A) (F0 m 341 ls []) := by
  obtain ⟨⟨hx, hb, hml, hown, hts⟩, hK, hr, hlk, hA⟩ := id X
  intro x21 x22 x23 x24 H locs ls h hw hl
  unfold f_L_isSound_b341 at h
  refine lv_iload hx hb dL_isSound_341 (lv_at hl 17 rfl) ?_
  refine lv_istore (lv' := [(23, .int x23), (0, .ref ax), (1, .int x1), (2, .int x2), (3, .int x3), (4, .int x4), (5, .int x5), (6, .int x6), (7, .int x7), (8, .long x8), (10, .long x10), (12, .int x12), (13, .int x13), (14, .int x14), (19, .int x19), (20, .int x20), (21, .int x21), (22, .int x22), (24, .int x24)]) hx hb dL_isSound_343 hl (by decide) rfl (fun ls hl => ?_)
  obtain ⟨t_1, et_1, h⟩ := nm_ok h
  refine lv_iinc (v := t_1) (lv' := [(24, .int t_1), (23, .int x23), (0, .ref ax), (1, .int x1), (2, .int x2), (3, .int x3), (4, .int x4), (5, .int x5), (6, .int x6), (7, .int x7), (8, .long x8), (10, .long x10), (12, .int x12), (13, .int x13), (14, .int x14), (19, .int x19), (20, .int x20), (21, .int x21), (22, .int x22)]) hx hb dL_isSound_345 hl (k := 18) rfl (by rw [et_1]; rfl) (by decide) rfl (fun ls hl => ?_)
  refine lv_goto (tgt := 237) hx hb dL_isSound_348 (by decide) ?_
  exact hk237 x21 x22 x23 t_1 _ _ _ h hw (lv_sub hl [2, 3, 4, 5, 6, 7, 8, 9, 10, 11, 12, 13, 14, 15, 16, 17, 18, 1, 0] rfl)
noncomputable def f_L_isSound_b336  (k36 : Int32 → Int32 → Int32 → Int32 → Int32 → Int32 → Int64 → Int64 → Int32 → Int32 → Option (Int32)) (k237 : Int32 → Int32 → Int32 → Int32 → Option (Int32)) (vc : CV) (vf : FV) (x1 : Int32) (x2 : Int32) (x3 : Int32) (x4 : Int32) (x5 : Int32) (x6 : Int32) (x7 : Int32) (x8 : Int64) (x10 : Int64) (x12 : Int32) (x13 : Int32) (x14 : Int32) (x19 : Int32) (x20 : Int32) (x21 : Int32) (x22 : Int32) (x24 : Int32) : Option (Int32) :=
  nm (x24 + 1 : Int32) fun t_1 =>
  k237 x21 x22 x24 t_1
set_option maxHeartbeats 4000000 in
set_option maxRecDepth 100000 in
theorem w_L_isSound_b336 {G : GG} {l : Launch} {p : Program} {e : Env} {s : State} {m : MethodId} {args : Array Value} {below : List Frame} {meth : Method} {c : Code} {A : Nat → Prop} {ax : Nat} {ac af ah at_ ar ad : Nat → Nat} {vc : CV} {vf : FV} {x1 : Int32} {x2 : Int32} {x3 : Int32} {x4 : Int32} {x5 : Int32} {x6 : Int32} {x7 : Int32} {x8 : Int64} {x10 : Int64} {x12 : Int32} {x13 : Int32} {x14 : Int32} {x19 : Int32} {x20 : Int32} {r : Int32}   {k36 : Int32 → Int32 → Int32 → Int32 → Int32 → Int32 → Int64 → Int64 → Int32 → Int32 → Option (Int32)} {k237 : Int32 → Int32 → Int32 → Int32 → Option (Int32)} (X : Cx p s m args meth c cL_isSound 28 (some .boolean) wsL_isSound RL G A) (hk36 : ∀ (x2 : Int32) (x3 : Int32) (x4 : Int32) (x5 : Int32) (x6 : Int32) (x7 : Int32) (x8 : Int64) (x10 : Int64) (x12 : Int32) (x13 : Int32) (H : Heap) (locs : List Loc) (ls : Array Slot), k36 x2 x3 x4 x5 x6 x7 x8 x10 x12 x13 = some (r) → Wd G A s H locs (fl [xB ax ac af ah at_ ar ad, cB G ac vc, fB G af vf]) → lv_has ls 28 [(0, .ref ax), (1, .int x1), (2, .int x2), (3, .int x3), (4, .int x4), (5, .int x5), (6, .int x6), (7, .int x7), (8, .long x8), (10, .long x10), (12, .int x12), (13, .int x13)] → W p l e rL_isSound s m args below meth c H locs 0 0 (MQ below (Qi G A r (fl [xB ax ac af ah at_ ar ad, cB G ac vc, fB G af vf])) args s 0 0 A) (F0 m 36 ls [])) (hk237 : ∀ (x21 : Int32) (x22 : Int32) (x23 : Int32) (x24 : Int32) (H : Heap) (locs : List Loc) (ls : Array Slot), k237 x21 x22 x23 x24 = some (r) → Wd G A s H locs (fl [xB ax ac af ah at_ ar ad, cB G ac vc, fB G af vf]) → lv_has ls 28 [(0, .ref ax), (1, .int x1), (2, .int x2), (3, .int x3), (4, .int x4), (5, .int x5), (6, .int x6), (7, .int x7), (8, .long x8), (10, .long x10), (12, .int x12), (13, .int x13), (14, .int x14), (19, .int x19), (20, .int x20), (21, .int x21), (22, .int x22), (23, .int x23), (24, .int x24)] → W p l e rL_isSound s m args below meth c H locs 0 0 (MQ below (Qi G A r (fl [xB ax ac af ah at_ ar ad, cB G ac vc, fB G af vf])) args s 0 0 A) (F0 m 237 ls [])) :
    ∀ (x21 : Int32) (x22 : Int32) (x24 : Int32) (H : Heap) (locs : List Loc) (ls : Array Slot), f_L_isSound_b336 k36 k237 vc vf x1 x2 x3 x4 x5 x6 x7 x8 x10 x12 x13 x14 x19 x20 x21 x22 x24 = some (r) → Wd G A s H locs (fl [xB ax ac af ah at_ ar ad, cB G ac vc, fB G af vf]) → lv_has ls 28 [(0, .ref ax), (1, .int x1), (2, .int x2), (3, .int x3), (4, .int x4), (5, .int x5), (6, .int x6), (7, .int x7), (8, .long x8), (10, .long x10), (12, .int x12), (13, .int x13), (14, .int x14), (19, .int x19), (20, .int x20), (21, .int x21), (22, .int x22), (24, .int x24)] → W p l e rL_isSound s m args below meth c H locs 0 0 (MQ below (Qi G A r (fl [xB ax ac af ah at_ ar ad, cB G ac vc, fB G af vf])) args s 0 0 A) (F0 m 336 ls []) := by
  obtain ⟨⟨hx, hb, hml, hown, hts⟩, hK, hr, hlk, hA⟩ := id X
  intro x21 x22 x24 H locs ls h hw hl
  unfold f_L_isSound_b336 at h
  refine lv_iload hx hb dL_isSound_336 (lv_at hl 17 rfl) ?_
  refine lv_goto (tgt := 343) hx hb dL_isSound_338 (by decide) ?_
  refine lv_istore (lv' := [(23, .int x24), (0, .ref ax), (1, .int x1), (2, .int x2), (3, .int x3), (4, .int x4), (5, .int x5), (6, .int x6), (7, .int x7), (8, .long x8), (10, .long x10), (12, .int x12), (13, .int x13), (14, .int x14), (19, .int x19), (20, .int x20), (21, .int x21), (22, .int x22), (24, .int x24)]) hx hb dL_isSound_343 hl (by decide) rfl (fun ls hl => ?_)
  obtain ⟨t_1, et_1, h⟩ := nm_ok h
  refine lv_iinc (v := t_1) (lv' := [(24, .int t_1), (23, .int x24), (0, .ref ax), (1, .int x1), (2, .int x2), (3, .int x3), (4, .int x4), (5, .int x5), (6, .int x6), (7, .int x7), (8, .long x8), (10, .long x10), (12, .int x12), (13, .int x13), (14, .int x14), (19, .int x19), (20, .int x20), (21, .int x21), (22, .int x22)]) hx hb dL_isSound_345 hl (k := 18) rfl (by rw [et_1]; rfl) (by decide) rfl (fun ls hl => ?_)
  refine lv_goto (tgt := 237) hx hb dL_isSound_348 (by decide) ?_
  exact hk237 x21 x22 x24 t_1 _ _ _ h hw (lv_sub hl [2, 3, 4, 5, 6, 7, 8, 9, 10, 11, 12, 13, 14, 15, 16, 17, 18, 1, 0] rfl)
noncomputable def f_L_isSound_b294  (k36 : Int32 → Int32 → Int32 → Int32 → Int32 → Int32 → Int64 → Int64 → Int32 → Int32 → Option (Int32)) (k237 : Int32 → Int32 → Int32 → Int32 → Option (Int32)) (vc : CV) (vf : FV) (x1 : Int32) (x2 : Int32) (x3 : Int32) (x4 : Int32) (x5 : Int32) (x6 : Int32) (x7 : Int32) (x8 : Int64) (x10 : Int64) (x12 : Int32) (x13 : Int32) (x14 : Int32) (x19 : Int32) (x20 : Int32) (x21 : Int32) (x23 : Int32) (x24 : Int32) (x25 : Int32) (y0 : Int32) (y1 : Int32) : Option (Int32) :=
  nm ((y1 + y0) : Int32) fun t_1 =>
  br (x25 = 0)
    (f_L_isSound_b341 k36 k237 vc vf x1 x2 x3 x4 x5 x6 x7 x8 x10 x12 x13 x14 x19 x20 x21 t_1 x23 x24)
    (bd (f_X4_section vc vf x24 4) fun r_3 =>
     br (r_3 ≤ x13)
       (f_L_isSound_b341 k36 k237 vc vf x1 x2 x3 x4 x5 x6 x7 x8 x10 x12 x13 x14 x19 x20 x21 t_1 x23 x24)
       (br (x23 < 0)
          (f_L_isSound_b336 k36 k237 vc vf x1 x2 x3 x4 x5 x6 x7 x8 x10 x12 x13 x14 x19 x20 x21 t_1 x24)
          (bd (f_X4_section vc vf x24 4) fun r_7 =>
           bd (f_X4_section vc vf x23 4) fun r_9 =>
           br (r_7 ≤ r_9)
             (f_L_isSound_b341 k36 k237 vc vf x1 x2 x3 x4 x5 x6 x7 x8 x10 x12 x13 x14 x19 x20 x21 t_1 x23 x24)
             (f_L_isSound_b336 k36 k237 vc vf x1 x2 x3 x4 x5 x6 x7 x8 x10 x12 x13 x14 x19 x20 x21 t_1 x24))))
set_option maxHeartbeats 4000000 in
set_option maxRecDepth 100000 in
theorem w_L_isSound_b294 {G : GG} {l : Launch} {p : Program} {e : Env} {s : State} {m : MethodId} {args : Array Value} {below : List Frame} {meth : Method} {c : Code} {A : Nat → Prop} {ax : Nat} {ac af ah at_ ar ad : Nat → Nat} {vc : CV} {vf : FV} {x1 : Int32} {x2 : Int32} {x3 : Int32} {x4 : Int32} {x5 : Int32} {x6 : Int32} {x7 : Int32} {x8 : Int64} {x10 : Int64} {x12 : Int32} {x13 : Int32} {x14 : Int32} {x19 : Int32} {x20 : Int32} {r : Int32}   {k36 : Int32 → Int32 → Int32 → Int32 → Int32 → Int32 → Int64 → Int64 → Int32 → Int32 → Option (Int32)} {k237 : Int32 → Int32 → Int32 → Int32 → Option (Int32)} (X : Cx p s m args meth c cL_isSound 28 (some .boolean) wsL_isSound RL G A) (hk36 : ∀ (x2 : Int32) (x3 : Int32) (x4 : Int32) (x5 : Int32) (x6 : Int32) (x7 : Int32) (x8 : Int64) (x10 : Int64) (x12 : Int32) (x13 : Int32) (H : Heap) (locs : List Loc) (ls : Array Slot), k36 x2 x3 x4 x5 x6 x7 x8 x10 x12 x13 = some (r) → Wd G A s H locs (fl [xB ax ac af ah at_ ar ad, cB G ac vc, fB G af vf]) → lv_has ls 28 [(0, .ref ax), (1, .int x1), (2, .int x2), (3, .int x3), (4, .int x4), (5, .int x5), (6, .int x6), (7, .int x7), (8, .long x8), (10, .long x10), (12, .int x12), (13, .int x13)] → W p l e rL_isSound s m args below meth c H locs 0 0 (MQ below (Qi G A r (fl [xB ax ac af ah at_ ar ad, cB G ac vc, fB G af vf])) args s 0 0 A) (F0 m 36 ls [])) (hk237 : ∀ (x21 : Int32) (x22 : Int32) (x23 : Int32) (x24 : Int32) (H : Heap) (locs : List Loc) (ls : Array Slot), k237 x21 x22 x23 x24 = some (r) → Wd G A s H locs (fl [xB ax ac af ah at_ ar ad, cB G ac vc, fB G af vf]) → lv_has ls 28 [(0, .ref ax), (1, .int x1), (2, .int x2), (3, .int x3), (4, .int x4), (5, .int x5), (6, .int x6), (7, .int x7), (8, .long x8), (10, .long x10), (12, .int x12), (13, .int x13), (14, .int x14), (19, .int x19), (20, .int x20), (21, .int x21), (22, .int x22), (23, .int x23), (24, .int x24)] → W p l e rL_isSound s m args below meth c H locs 0 0 (MQ below (Qi G A r (fl [xB ax ac af ah at_ ar ad, cB G ac vc, fB G af vf])) args s 0 0 A) (F0 m 237 ls [])) :
    ∀ (x21 : Int32) (x23 : Int32) (x24 : Int32) (x25 : Int32) (y0 : Int32) (y1 : Int32) (H : Heap) (locs : List Loc) (ls : Array Slot), f_L_isSound_b294 k36 k237 vc vf x1 x2 x3 x4 x5 x6 x7 x8 x10 x12 x13 x14 x19 x20 x21 x23 x24 x25 y0 y1 = some (r) → Wd G A s H locs (fl [xB ax ac af ah at_ ar ad, cB G ac vc, fB G af vf]) → lv_has ls 28 [(0, .ref ax), (1, .int x1), (2, .int x2), (3, .int x3), (4, .int x4), (5, .int x5), (6, .int x6), (7, .int x7), (8, .long x8), (10, .long x10), (12, .int x12), (13, .int x13), (14, .int x14), (19, .int x19), (20, .int x20), (21, .int x21), (23, .int x23), (24, .int x24), (25, .int x25)] → W p l e rL_isSound s m args below meth c H locs 0 0 (MQ below (Qi G A r (fl [xB ax ac af ah at_ ar ad, cB G ac vc, fB G af vf])) args s 0 0 A) (F0 m 294 ls [.int y0, .int y1]) := by
  obtain ⟨⟨hx, hb, hml, hown, hts⟩, hK, hr, hlk, hA⟩ := id X
  intro x21 x23 x24 x25 y0 y1 H locs ls h hw hl
  unfold f_L_isSound_b294 at h
  refine lv_iadd hx hb dL_isSound_294 ?_
  obtain ⟨t_1, et_1, h⟩ := nm_ok h
  refine lv_istore (lv' := [(22, .int t_1), (0, .ref ax), (1, .int x1), (2, .int x2), (3, .int x3), (4, .int x4), (5, .int x5), (6, .int x6), (7, .int x7), (8, .long x8), (10, .long x10), (12, .int x12), (13, .int x13), (14, .int x14), (19, .int x19), (20, .int x20), (21, .int x21), (23, .int x23), (24, .int x24), (25, .int x25)]) hx hb dL_isSound_295 hl (by decide) (by rw [et_1]; rfl) (fun ls hl => ?_)
  refine lv_iload hx hb dL_isSound_297 (lv_at hl 19 rfl) ?_
  refine lv_if_eq (tgt := 341) hx hb dL_isSound_299 (by decide) (fun k_2 => ?_) (fun k_2 => ?_)
  · have h := br_yes h k_2
    exact w_L_isSound_b341 X hk36 hk237 x21 t_1 x23 x24 _ _ _ h hw (lv_sub hl [1, 2, 3, 4, 5, 6, 7, 8, 9, 10, 11, 12, 13, 14, 15, 16, 0, 17, 18] rfl)
  · have h := br_no h k_2
    refine lv_aload_n hx hb dL_isSound_302 rfl (lv_at hl 1 rfl) ?_
    refine lv_iload hx hb dL_isSound_303 (lv_at hl 18 rfl) ?_
    refine lv_iconst (v := 4) hx hb dL_isSound_305 (by decide) ?_
    obtain ⟨r_3, c_4, h⟩ := bd_ok h
    refine x_Vi (As := [.int x24, .int 4]) (w' := fl [xB ax ac af ah at_ ar ad, cB G ac vc, fB G af vf]) X hw (m_X4_section (G := G) (l := l) (ax := ax) (ac := ac) (af := af) (ah := ah) (at_ := at_) (ar := ar) (ad := ad) c_4) Cut.all 0 0 rfl rfl rfl (cwV 2 hts gL_isSound_X4_section rfl rfl rfl hd_X4_section ⟨Nat.le_of_ble_eq_true rfl, Nat.le_of_ble_eq_true rfl⟩) rfl hl.1 rfl (Nat.le_of_ble_eq_true rfl) dL_isSound_306 ⟨Nat.le_of_ble_eq_true rfl, Nat.le_of_ble_eq_true rfl⟩ (fun H locs hw => ?_)
    refine lv_iload hx hb dL_isSound_309 (lv_at hl 12 rfl) ?_
    refine lv_icmp_le (tgt := 341) hx hb dL_isSound_311 (by decide) (fun k_5 => ?_) (fun k_5 => ?_)
    · have h := br_yes h k_5
      exact w_L_isSound_b341 X hk36 hk237 x21 t_1 x23 x24 _ _ _ h hw (lv_sub hl [1, 2, 3, 4, 5, 6, 7, 8, 9, 10, 11, 12, 13, 14, 15, 16, 0, 17, 18] rfl)
    · have h := br_no h k_5
      refine lv_iload hx hb dL_isSound_314 (lv_at hl 17 rfl) ?_
      refine lv_if_lt (tgt := 336) hx hb dL_isSound_316 (by decide) (fun k_6 => ?_) (fun k_6 => ?_)
      · have h := br_yes h k_6
        exact w_L_isSound_b336 X hk36 hk237 x21 t_1 x24 _ _ _ h hw (lv_sub hl [1, 2, 3, 4, 5, 6, 7, 8, 9, 10, 11, 12, 13, 14, 15, 16, 0, 18] rfl)
      · have h := br_no h k_6
        refine lv_aload_n hx hb dL_isSound_319 rfl (lv_at hl 1 rfl) ?_
        refine lv_iload hx hb dL_isSound_320 (lv_at hl 18 rfl) ?_
        refine lv_iconst (v := 4) hx hb dL_isSound_322 (by decide) ?_
        obtain ⟨r_7, c_8, h⟩ := bd_ok h
        refine x_Vi (As := [.int x24, .int 4]) (w' := fl [xB ax ac af ah at_ ar ad, cB G ac vc, fB G af vf]) X hw (m_X4_section (G := G) (l := l) (ax := ax) (ac := ac) (af := af) (ah := ah) (at_ := at_) (ar := ar) (ad := ad) c_8) Cut.all 0 0 rfl rfl rfl (cwV 2 hts gL_isSound_X4_section rfl rfl rfl hd_X4_section ⟨Nat.le_of_ble_eq_true rfl, Nat.le_of_ble_eq_true rfl⟩) rfl hl.1 rfl (Nat.le_of_ble_eq_true rfl) dL_isSound_323 ⟨Nat.le_of_ble_eq_true rfl, Nat.le_of_ble_eq_true rfl⟩ (fun H locs hw => ?_)
        refine lv_aload_n hx hb dL_isSound_326 rfl (lv_at hl 1 rfl) ?_
        refine lv_iload hx hb dL_isSound_327 (lv_at hl 17 rfl) ?_
        refine lv_iconst (v := 4) hx hb dL_isSound_329 (by decide) ?_
        obtain ⟨r_9, c_10, h⟩ := bd_ok h
        refine x_Vi (As := [.int x23, .int 4]) (w' := fl [xB ax ac af ah at_ ar ad, cB G ac vc, fB G af vf]) X hw (m_X4_section (G := G) (l := l) (ax := ax) (ac := ac) (af := af) (ah := ah) (at_ := at_) (ar := ar) (ad := ad) c_10) Cut.all 0 0 rfl rfl rfl (cwV 2 hts gL_isSound_X4_section rfl rfl rfl hd_X4_section ⟨Nat.le_of_ble_eq_true rfl, Nat.le_of_ble_eq_true rfl⟩) rfl hl.1 rfl (Nat.le_of_ble_eq_true rfl) dL_isSound_330 ⟨Nat.le_of_ble_eq_true rfl, Nat.le_of_ble_eq_true rfl⟩ (fun H locs hw => ?_)
        refine lv_icmp_le (tgt := 341) hx hb dL_isSound_333 (by decide) (fun k_11 => ?_) (fun k_11 => ?_)
        · have h := br_yes h k_11
          exact w_L_isSound_b341 X hk36 hk237 x21 t_1 x23 x24 _ _ _ h hw (lv_sub hl [1, 2, 3, 4, 5, 6, 7, 8, 9, 10, 11, 12, 13, 14, 15, 16, 0, 17, 18] rfl)
        · have h := br_no h k_11
          exact w_L_isSound_b336 X hk36 hk237 x21 t_1 x24 _ _ _ h hw (lv_sub hl [1, 2, 3, 4, 5, 6, 7, 8, 9, 10, 11, 12, 13, 14, 15, 16, 0, 18] rfl)
noncomputable def f_L_isSound_b269  (k36 : Int32 → Int32 → Int32 → Int32 → Int32 → Int32 → Int64 → Int64 → Int32 → Int32 → Option (Int32)) (k237 : Int32 → Int32 → Int32 → Int32 → Option (Int32)) (vc : CV) (vf : FV) (x1 : Int32) (x2 : Int32) (x3 : Int32) (x4 : Int32) (x5 : Int32) (x6 : Int32) (x7 : Int32) (x8 : Int64) (x10 : Int64) (x12 : Int32) (x13 : Int32) (x14 : Int32) (x19 : Int32) (x20 : Int32) (x22 : Int32) (x23 : Int32) (x24 : Int32) (y0 : Int32) (y1 : Int32) : Option (Int32) :=
  nm ((y1 + y0) : Int32) fun t_1 =>
  bd (f_L_areNeighbours vc vf x14 x24) fun r_2 =>
  br (r_2 = 0)
    (f_L_isSound_b294 k36 k237 vc vf x1 x2 x3 x4 x5 x6 x7 x8 x10 x12 x13 x14 x19 x20 t_1 x23 x24 r_2 0 x22)
    (f_L_isSound_b294 k36 k237 vc vf x1 x2 x3 x4 x5 x6 x7 x8 x10 x12 x13 x14 x19 x20 t_1 x23 x24 r_2 1 x22)
set_option maxHeartbeats 4000000 in
set_option maxRecDepth 100000 in
theorem w_L_isSound_b269 {G : GG} {l : Launch} {p : Program} {e : Env} {s : State} {m : MethodId} {args : Array Value} {below : List Frame} {meth : Method} {c : Code} {A : Nat → Prop} {ax : Nat} {ac af ah at_ ar ad : Nat → Nat} {vc : CV} {vf : FV} {x1 : Int32} {x2 : Int32} {x3 : Int32} {x4 : Int32} {x5 : Int32} {x6 : Int32} {x7 : Int32} {x8 : Int64} {x10 : Int64} {x12 : Int32} {x13 : Int32} {x14 : Int32} {x19 : Int32} {x20 : Int32} {r : Int32}   {k36 : Int32 → Int32 → Int32 → Int32 → Int32 → Int32 → Int64 → Int64 → Int32 → Int32 → Option (Int32)} {k237 : Int32 → Int32 → Int32 → Int32 → Option (Int32)} (X : Cx p s m args meth c cL_isSound 28 (some .boolean) wsL_isSound RL G A) (hk36 : ∀ (x2 : Int32) (x3 : Int32) (x4 : Int32) (x5 : Int32) (x6 : Int32) (x7 : Int32) (x8 : Int64) (x10 : Int64) (x12 : Int32) (x13 : Int32) (H : Heap) (locs : List Loc) (ls : Array Slot), k36 x2 x3 x4 x5 x6 x7 x8 x10 x12 x13 = some (r) → Wd G A s H locs (fl [xB ax ac af ah at_ ar ad, cB G ac vc, fB G af vf]) → lv_has ls 28 [(0, .ref ax), (1, .int x1), (2, .int x2), (3, .int x3), (4, .int x4), (5, .int x5), (6, .int x6), (7, .int x7), (8, .long x8), (10, .long x10), (12, .int x12), (13, .int x13)] → W p l e rL_isSound s m args below meth c H locs 0 0 (MQ below (Qi G A r (fl [xB ax ac af ah at_ ar ad, cB G ac vc, fB G af vf])) args s 0 0 A) (F0 m 36 ls [])) (hk237 : ∀ (x21 : Int32) (x22 : Int32) (x23 : Int32) (x24 : Int32) (H : Heap) (locs : List Loc) (ls : Array Slot), k237 x21 x22 x23 x24 = some (r) → Wd G A s H locs (fl [xB ax ac af ah at_ ar ad, cB G ac vc, fB G af vf]) → lv_has ls 28 [(0, .ref ax), (1, .int x1), (2, .int x2), (3, .int x3), (4, .int x4), (5, .int x5), (6, .int x6), (7, .int x7), (8, .long x8), (10, .long x10), (12, .int x12), (13, .int x13), (14, .int x14), (19, .int x19), (20, .int x20), (21, .int x21), (22, .int x22), (23, .int x23), (24, .int x24)] → W p l e rL_isSound s m args below meth c H locs 0 0 (MQ below (Qi G A r (fl [xB ax ac af ah at_ ar ad, cB G ac vc, fB G af vf])) args s 0 0 A) (F0 m 237 ls [])) :
    ∀ (x22 : Int32) (x23 : Int32) (x24 : Int32) (y0 : Int32) (y1 : Int32) (H : Heap) (locs : List Loc) (ls : Array Slot), f_L_isSound_b269 k36 k237 vc vf x1 x2 x3 x4 x5 x6 x7 x8 x10 x12 x13 x14 x19 x20 x22 x23 x24 y0 y1 = some (r) → Wd G A s H locs (fl [xB ax ac af ah at_ ar ad, cB G ac vc, fB G af vf]) → lv_has ls 28 [(0, .ref ax), (1, .int x1), (2, .int x2), (3, .int x3), (4, .int x4), (5, .int x5), (6, .int x6), (7, .int x7), (8, .long x8), (10, .long x10), (12, .int x12), (13, .int x13), (14, .int x14), (19, .int x19), (20, .int x20), (22, .int x22), (23, .int x23), (24, .int x24)] → W p l e rL_isSound s m args below meth c H locs 0 0 (MQ below (Qi G A r (fl [xB ax ac af ah at_ ar ad, cB G ac vc, fB G af vf])) args s 0 0 A) (F0 m 269 ls [.int y0, .int y1]) := by
  obtain ⟨⟨hx, hb, hml, hown, hts⟩, hK, hr, hlk, hA⟩ := id X
  intro x22 x23 x24 y0 y1 H locs ls h hw hl
  unfold f_L_isSound_b269 at h
  refine lv_iadd hx hb dL_isSound_269 ?_
  obtain ⟨t_1, et_1, h⟩ := nm_ok h
  refine lv_istore (lv' := [(21, .int t_1), (0, .ref ax), (1, .int x1), (2, .int x2), (3, .int x3), (4, .int x4), (5, .int x5), (6, .int x6), (7, .int x7), (8, .long x8), (10, .long x10), (12, .int x12), (13, .int x13), (14, .int x14), (19, .int x19), (20, .int x20), (22, .int x22), (23, .int x23), (24, .int x24)]) hx hb dL_isSound_270 hl (by decide) (by rw [et_1]; rfl) (fun ls hl => ?_)
  refine lv_aload_n hx hb dL_isSound_272 rfl (lv_at hl 1 rfl) ?_
  refine lv_iload hx hb dL_isSound_273 (lv_at hl 13 rfl) ?_
  refine lv_iload hx hb dL_isSound_275 (lv_at hl 18 rfl) ?_
  obtain ⟨r_2, c_3, h⟩ := bd_ok h
  refine x_Si (As := [.ref ax, .int x14, .int x24]) (w' := fl [xB ax ac af ah at_ ar ad, cB G ac vc, fB G af vf]) X hw (m_L_areNeighbours (G := G) (l := l) (ax := ax) (ac := ac) (af := af) (ah := ah) (at_ := at_) (ar := ar) (ad := ad) c_3) Cut.all (va_cwS 3 hts gL_isSound_L_areNeighbours rfl rfl rfl hd_L_areNeighbours.2 ⟨Nat.le_of_ble_eq_true rfl, Nat.le_of_ble_eq_true rfl⟩) rfl hl.1 rfl (Nat.le_of_ble_eq_true rfl) dL_isSound_277 ⟨Nat.le_of_ble_eq_true rfl, Nat.le_of_ble_eq_true rfl⟩ (fun H locs hw => ?_)
  refine lv_istore (lv' := [(25, .int r_2), (21, .int t_1), (0, .ref ax), (1, .int x1), (2, .int x2), (3, .int x3), (4, .int x4), (5, .int x5), (6, .int x6), (7, .int x7), (8, .long x8), (10, .long x10), (12, .int x12), (13, .int x13), (14, .int x14), (19, .int x19), (20, .int x20), (22, .int x22), (23, .int x23), (24, .int x24)]) hx hb dL_isSound_280 hl (by decide) rfl (fun ls hl => ?_)
  refine lv_iload hx hb dL_isSound_282 (lv_at hl 17 rfl) ?_
  refine lv_iload hx hb dL_isSound_284 (lv_at hl 0 rfl) ?_
  refine lv_if_eq (tgt := 293) hx hb dL_isSound_286 (by decide) (fun k_4 => ?_) (fun k_4 => ?_)
  · have h := br_yes h k_4
    refine lv_iconst (v := 0) hx hb dL_isSound_293 (by decide) ?_
    exact w_L_isSound_b294 X hk36 hk237 t_1 x23 x24 r_2 0 x22 _ _ _ h hw (lv_sub hl [2, 3, 4, 5, 6, 7, 8, 9, 10, 11, 12, 13, 14, 15, 16, 1, 18, 19, 0] rfl)
  · have h := br_no h k_4
    refine lv_iconst (v := 1) hx hb dL_isSound_289 (by decide) ?_
    refine lv_goto (tgt := 294) hx hb dL_isSound_290 (by decide) ?_
    exact w_L_isSound_b294 X hk36 hk237 t_1 x23 x24 r_2 1 x22 _ _ _ h hw (lv_sub hl [2, 3, 4, 5, 6, 7, 8, 9, 10, 11, 12, 13, 14, 15, 16, 1, 18, 19, 0] rfl)
noncomputable def f_L_isSound_b237  (k36 : Int32 → Int32 → Int32 → Int32 → Int32 → Int32 → Int64 → Int64 → Int32 → Int32 → Option (Int32)) (vc : CV) (vf : FV) (x1 : Int32) (x2 : Int32) (x3 : Int32) (x4 : Int32) (x5 : Int32) (x6 : Int32) (x7 : Int32) (x8 : Int64) (x10 : Int64) (x12 : Int32) (x13 : Int32) (x14 : Int32) (x19 : Int32) (x20 : Int32) : Nat → Int32 → Int32 → Int32 → Int32 → Option (Int32)
  | 0 => fun _ _ _ _ => none
  | n + 1 => fun x21 x22 x23 x24 =>
    br (x1 ≤ x24)
      (br (x20 = x23)
         (bd (f_X4_section vc vf x14 5) fun r_3 =>
          br (x21 = r_3)
            (bd (f_X4_section vc vf x14 10) fun r_6 =>
             br (x22 = r_6)
               (bd (f_X4_section vc vf x14 6) fun r_9 =>
                br (0 ≤ x20)
                  (f_L_isSound_b402 k36 vc vf x1 x2 x3 x4 x5 x6 x7 x8 x10 x12 x13 x14 x19 x20 0 r_9)
                  (f_L_isSound_b402 k36 vc vf x1 x2 x3 x4 x5 x6 x7 x8 x10 x12 x13 x14 x19 x20 x21 r_9))
               (some (0)))
            (some (0)))
         (some (0)))
      (bd (f_X4_section vc vf x24 8) fun r_12 =>
       br (r_12 = x14)
         (bd (f_X4_section vc vf x24 5) fun r_15 =>
          f_L_isSound_b269 k36 (f_L_isSound_b237 k36 vc vf x1 x2 x3 x4 x5 x6 x7 x8 x10 x12 x13 x14 x19 x20 n) vc vf x1 x2 x3 x4 x5 x6 x7 x8 x10 x12 x13 x14 x19 x20 x22 x23 x24 r_15 x21)
         (f_L_isSound_b269 k36 (f_L_isSound_b237 k36 vc vf x1 x2 x3 x4 x5 x6 x7 x8 x10 x12 x13 x14 x19 x20 n) vc vf x1 x2 x3 x4 x5 x6 x7 x8 x10 x12 x13 x14 x19 x20 x22 x23 x24 0 x21))
set_option maxHeartbeats 4000000 in
set_option maxRecDepth 100000 in
theorem w_L_isSound_b237 {G : GG} {l : Launch} {p : Program} {e : Env} {s : State} {m : MethodId} {args : Array Value} {below : List Frame} {meth : Method} {c : Code} {A : Nat → Prop} {ax : Nat} {ac af ah at_ ar ad : Nat → Nat} {vc : CV} {vf : FV} {x1 : Int32} {x2 : Int32} {x3 : Int32} {x4 : Int32} {x5 : Int32} {x6 : Int32} {x7 : Int32} {x8 : Int64} {x10 : Int64} {x12 : Int32} {x13 : Int32} {x14 : Int32} {x19 : Int32} {x20 : Int32} {r : Int32}   {k36 : Int32 → Int32 → Int32 → Int32 → Int32 → Int32 → Int64 → Int64 → Int32 → Int32 → Option (Int32)} (X : Cx p s m args meth c cL_isSound 28 (some .boolean) wsL_isSound RL G A) (hk36 : ∀ (x2 : Int32) (x3 : Int32) (x4 : Int32) (x5 : Int32) (x6 : Int32) (x7 : Int32) (x8 : Int64) (x10 : Int64) (x12 : Int32) (x13 : Int32) (H : Heap) (locs : List Loc) (ls : Array Slot), k36 x2 x3 x4 x5 x6 x7 x8 x10 x12 x13 = some (r) → Wd G A s H locs (fl [xB ax ac af ah at_ ar ad, cB G ac vc, fB G af vf]) → lv_has ls 28 [(0, .ref ax), (1, .int x1), (2, .int x2), (3, .int x3), (4, .int x4), (5, .int x5), (6, .int x6), (7, .int x7), (8, .long x8), (10, .long x10), (12, .int x12), (13, .int x13)] → W p l e rL_isSound s m args below meth c H locs 0 0 (MQ below (Qi G A r (fl [xB ax ac af ah at_ ar ad, cB G ac vc, fB G af vf])) args s 0 0 A) (F0 m 36 ls [])) :
    ∀ (n : Nat) (x21 : Int32) (x22 : Int32) (x23 : Int32) (x24 : Int32) (H : Heap) (locs : List Loc) (ls : Array Slot), f_L_isSound_b237 k36 vc vf x1 x2 x3 x4 x5 x6 x7 x8 x10 x12 x13 x14 x19 x20 n x21 x22 x23 x24 = some (r) → Wd G A s H locs (fl [xB ax ac af ah at_ ar ad, cB G ac vc, fB G af vf]) → lv_has ls 28 [(0, .ref ax), (1, .int x1), (2, .int x2), (3, .int x3), (4, .int x4), (5, .int x5), (6, .int x6), (7, .int x7), (8, .long x8), (10, .long x10), (12, .int x12), (13, .int x13), (14, .int x14), (19, .int x19), (20, .int x20), (21, .int x21), (22, .int x22), (23, .int x23), (24, .int x24)] → W p l e rL_isSound s m args below meth c H locs 0 0 (MQ below (Qi G A r (fl [xB ax ac af ah at_ ar ad, cB G ac vc, fB G af vf])) args s 0 0 A) (F0 m 237 ls []) := by
  obtain ⟨⟨hx, hb, hml, hown, hts⟩, hK, hr, hlk, hA⟩ := id X
  intro n
  induction n with
  | zero =>
    intro x21 x22 x23 x24 H locs ls h
    rw [f_L_isSound_b237] at h
    cases h
  | succ n ih =>
    intro x21 x22 x23 x24 H locs ls h hw hl
    rw [f_L_isSound_b237] at h
    refine lv_iload hx hb dL_isSound_237 (lv_at hl 18 rfl) ?_
    refine lv_iload_n hx hb dL_isSound_239 rfl (lv_at hl 1 rfl) ?_
    refine lv_icmp_ge (tgt := 351) hx hb dL_isSound_240 (by decide) (fun k_1 => ?_) (fun k_1 => ?_)
    · have h := br_yes h k_1
      refine lv_iload hx hb dL_isSound_351 (lv_at hl 14 rfl) ?_
      refine lv_iload hx hb dL_isSound_353 (lv_at hl 17 rfl) ?_
      refine lv_icmp_ne (tgt := 405) hx hb dL_isSound_355 (by decide) (fun k_2 => ?_) (fun k_2 => ?_)
      · have h := br_no h k_2
        refine lv_iconst (v := 0) hx hb dL_isSound_405 (by decide) ?_
        cases h
        exact x_iret X (narz (Or.inl rfl)) hw rfl rfl dL_isSound_406
      · have h := br_yes h k_2
        refine lv_iload hx hb dL_isSound_358 (lv_at hl 15 rfl) ?_
        refine lv_aload_n hx hb dL_isSound_360 rfl (lv_at hl 0 rfl) ?_
        refine lv_iload hx hb dL_isSound_361 (lv_at hl 12 rfl) ?_
        refine lv_iconst (v := 5) hx hb dL_isSound_363 (by decide) ?_
        obtain ⟨r_3, c_4, h⟩ := bd_ok h
        refine x_Vi (As := [.int x14, .int 5]) (w' := fl [xB ax ac af ah at_ ar ad, cB G ac vc, fB G af vf]) X hw (m_X4_section (G := G) (l := l) (ax := ax) (ac := ac) (af := af) (ah := ah) (at_ := at_) (ar := ar) (ad := ad) c_4) Cut.all 0 0 rfl rfl rfl (cwV 2 hts gL_isSound_X4_section rfl rfl rfl hd_X4_section ⟨Nat.le_of_ble_eq_true rfl, Nat.le_of_ble_eq_true rfl⟩) rfl hl.1 rfl (Nat.le_of_ble_eq_true rfl) dL_isSound_364 ⟨Nat.le_of_ble_eq_true rfl, Nat.le_of_ble_eq_true rfl⟩ (fun H locs hw => ?_)
        refine lv_icmp_ne (tgt := 405) hx hb dL_isSound_367 (by decide) (fun k_5 => ?_) (fun k_5 => ?_)
        · have h := br_no h k_5
          refine lv_iconst (v := 0) hx hb dL_isSound_405 (by decide) ?_
          cases h
          exact x_iret X (narz (Or.inl rfl)) hw rfl rfl dL_isSound_406
        · have h := br_yes h k_5
          refine lv_iload hx hb dL_isSound_370 (lv_at hl 16 rfl) ?_
          refine lv_aload_n hx hb dL_isSound_372 rfl (lv_at hl 0 rfl) ?_
          refine lv_iload hx hb dL_isSound_373 (lv_at hl 12 rfl) ?_
          refine lv_bipush (v := 10) hx hb dL_isSound_375 (by decide) ?_
          obtain ⟨r_6, c_7, h⟩ := bd_ok h
          refine x_Vi (As := [.int x14, .int 10]) (w' := fl [xB ax ac af ah at_ ar ad, cB G ac vc, fB G af vf]) X hw (m_X4_section (G := G) (l := l) (ax := ax) (ac := ac) (af := af) (ah := ah) (at_ := at_) (ar := ar) (ad := ad) c_7) Cut.all 0 0 rfl rfl rfl (cwV 2 hts gL_isSound_X4_section rfl rfl rfl hd_X4_section ⟨Nat.le_of_ble_eq_true rfl, Nat.le_of_ble_eq_true rfl⟩) rfl hl.1 rfl (Nat.le_of_ble_eq_true rfl) dL_isSound_377 ⟨Nat.le_of_ble_eq_true rfl, Nat.le_of_ble_eq_true rfl⟩ (fun H locs hw => ?_)
          refine lv_icmp_ne (tgt := 405) hx hb dL_isSound_380 (by decide) (fun k_8 => ?_) (fun k_8 => ?_)
          · have h := br_no h k_8
            refine lv_iconst (v := 0) hx hb dL_isSound_405 (by decide) ?_
            cases h
            exact x_iret X (narz (Or.inl rfl)) hw rfl rfl dL_isSound_406
          · have h := br_yes h k_8
            refine lv_aload_n hx hb dL_isSound_383 rfl (lv_at hl 0 rfl) ?_
            refine lv_iload hx hb dL_isSound_384 (lv_at hl 12 rfl) ?_
            refine lv_bipush (v := 6) hx hb dL_isSound_386 (by decide) ?_
            obtain ⟨r_9, c_10, h⟩ := bd_ok h
            refine x_Vi (As := [.int x14, .int 6]) (w' := fl [xB ax ac af ah at_ ar ad, cB G ac vc, fB G af vf]) X hw (m_X4_section (G := G) (l := l) (ax := ax) (ac := ac) (af := af) (ah := ah) (at_ := at_) (ar := ar) (ad := ad) c_10) Cut.all 0 0 rfl rfl rfl (cwV 2 hts gL_isSound_X4_section rfl rfl rfl hd_X4_section ⟨Nat.le_of_ble_eq_true rfl, Nat.le_of_ble_eq_true rfl⟩) rfl hl.1 rfl (Nat.le_of_ble_eq_true rfl) dL_isSound_388 ⟨Nat.le_of_ble_eq_true rfl, Nat.le_of_ble_eq_true rfl⟩ (fun H locs hw => ?_)
            refine lv_iload hx hb dL_isSound_391 (lv_at hl 14 rfl) ?_
            refine lv_if_ge (tgt := 401) hx hb dL_isSound_393 (by decide) (fun k_11 => ?_) (fun k_11 => ?_)
            · have h := br_yes h k_11
              refine lv_iconst (v := 0) hx hb dL_isSound_401 (by decide) ?_
              exact w_L_isSound_b402 X hk36 x2 x3 x4 x5 x6 x7 x8 x10 x12 x13 x14 x19 x20 0 r_9 _ _ _ h hw (lv_sub hl [0, 1, 2, 3, 4, 5, 6, 7, 8, 9, 10, 11, 12, 13, 14] rfl)
            · have h := br_no h k_11
              refine lv_iload hx hb dL_isSound_396 (lv_at hl 15 rfl) ?_
              refine lv_goto (tgt := 402) hx hb dL_isSound_398 (by decide) ?_
              exact w_L_isSound_b402 X hk36 x2 x3 x4 x5 x6 x7 x8 x10 x12 x13 x14 x19 x20 x21 r_9 _ _ _ h hw (lv_sub hl [0, 1, 2, 3, 4, 5, 6, 7, 8, 9, 10, 11, 12, 13, 14] rfl)
    · have h := br_no h k_1
      refine lv_iload hx hb dL_isSound_243 (lv_at hl 15 rfl) ?_
      refine lv_aload_n hx hb dL_isSound_245 rfl (lv_at hl 0 rfl) ?_
      refine lv_iload hx hb dL_isSound_246 (lv_at hl 18 rfl) ?_
      refine lv_bipush (v := 8) hx hb dL_isSound_248 (by decide) ?_
      obtain ⟨r_12, c_13, h⟩ := bd_ok h
      refine x_Vi (As := [.int x24, .int 8]) (w' := fl [xB ax ac af ah at_ ar ad, cB G ac vc, fB G af vf]) X hw (m_X4_section (G := G) (l := l) (ax := ax) (ac := ac) (af := af) (ah := ah) (at_ := at_) (ar := ar) (ad := ad) c_13) Cut.all 0 0 rfl rfl rfl (cwV 2 hts gL_isSound_X4_section rfl rfl rfl hd_X4_section ⟨Nat.le_of_ble_eq_true rfl, Nat.le_of_ble_eq_true rfl⟩) rfl hl.1 rfl (Nat.le_of_ble_eq_true rfl) dL_isSound_250 ⟨Nat.le_of_ble_eq_true rfl, Nat.le_of_ble_eq_true rfl⟩ (fun H locs hw => ?_)
      refine lv_iload hx hb dL_isSound_253 (lv_at hl 12 rfl) ?_
      refine lv_icmp_ne (tgt := 268) hx hb dL_isSound_255 (by decide) (fun k_14 => ?_) (fun k_14 => ?_)
      · have h := br_no h k_14
        refine lv_iconst (v := 0) hx hb dL_isSound_268 (by decide) ?_
        exact w_L_isSound_b269 X hk36 ih x22 x23 x24 0 x21 _ _ _ h hw (lv_sub hl [0, 1, 2, 3, 4, 5, 6, 7, 8, 9, 10, 11, 12, 13, 14, 16, 17, 18] rfl)
      · have h := br_yes h k_14
        refine lv_aload_n hx hb dL_isSound_258 rfl (lv_at hl 0 rfl) ?_
        refine lv_iload hx hb dL_isSound_259 (lv_at hl 18 rfl) ?_
        refine lv_iconst (v := 5) hx hb dL_isSound_261 (by decide) ?_
        obtain ⟨r_15, c_16, h⟩ := bd_ok h
        refine x_Vi (As := [.int x24, .int 5]) (w' := fl [xB ax ac af ah at_ ar ad, cB G ac vc, fB G af vf]) X hw (m_X4_section (G := G) (l := l) (ax := ax) (ac := ac) (af := af) (ah := ah) (at_ := at_) (ar := ar) (ad := ad) c_16) Cut.all 0 0 rfl rfl rfl (cwV 2 hts gL_isSound_X4_section rfl rfl rfl hd_X4_section ⟨Nat.le_of_ble_eq_true rfl, Nat.le_of_ble_eq_true rfl⟩) rfl hl.1 rfl (Nat.le_of_ble_eq_true rfl) dL_isSound_262 ⟨Nat.le_of_ble_eq_true rfl, Nat.le_of_ble_eq_true rfl⟩ (fun H locs hw => ?_)
        refine lv_goto (tgt := 269) hx hb dL_isSound_265 (by decide) ?_
        exact w_L_isSound_b269 X hk36 ih x22 x23 x24 r_15 x21 _ _ _ h hw (lv_sub hl [0, 1, 2, 3, 4, 5, 6, 7, 8, 9, 10, 11, 12, 13, 14, 16, 17, 18] rfl)
noncomputable def f_L_isSound_b183  (k36 : Int32 → Int32 → Int32 → Int32 → Int32 → Int32 → Int64 → Int64 → Int32 → Int32 → Option (Int32)) (vc : CV) (vf : FV) (x1 : Int32) (x2 : Int32) (x3 : Int32) (x4 : Int32) (x5 : Int32) (x6 : Int32) (x7 : Int32) (x13 : Int32) (x14 : Int32) (x15 : Int64) (x17 : Int64) : Option (Int32) :=
  bd (f_X4_section vc vf x14 0) fun r_1 =>
  bd (f_X4_count vc vf 2) fun r_3 =>
  ck (¬ (1000 : Int32) = 0) <|
  nm ((r_1 * r_3) : Int32) fun t_6 =>
  nm ((t_6 / 1000) : Int32) fun t_7 =>
  bd (f_X4_section vc vf x14 8) fun r_8 =>
  f_L_isSound_b237 k36 vc vf x1 x2 x3 x4 x5 x6 x7 x15 x17 x14 x13 x14 t_7 r_8 FU t_7 0 (-1) 0
set_option maxHeartbeats 4000000 in
set_option maxRecDepth 100000 in
theorem w_L_isSound_b183 {G : GG} {l : Launch} {p : Program} {e : Env} {s : State} {m : MethodId} {args : Array Value} {below : List Frame} {meth : Method} {c : Code} {A : Nat → Prop} {ax : Nat} {ac af ah at_ ar ad : Nat → Nat} {vc : CV} {vf : FV} {x1 : Int32} {r : Int32}   {k36 : Int32 → Int32 → Int32 → Int32 → Int32 → Int32 → Int64 → Int64 → Int32 → Int32 → Option (Int32)} (X : Cx p s m args meth c cL_isSound 28 (some .boolean) wsL_isSound RL G A) (hk36 : ∀ (x2 : Int32) (x3 : Int32) (x4 : Int32) (x5 : Int32) (x6 : Int32) (x7 : Int32) (x8 : Int64) (x10 : Int64) (x12 : Int32) (x13 : Int32) (H : Heap) (locs : List Loc) (ls : Array Slot), k36 x2 x3 x4 x5 x6 x7 x8 x10 x12 x13 = some (r) → Wd G A s H locs (fl [xB ax ac af ah at_ ar ad, cB G ac vc, fB G af vf]) → lv_has ls 28 [(0, .ref ax), (1, .int x1), (2, .int x2), (3, .int x3), (4, .int x4), (5, .int x5), (6, .int x6), (7, .int x7), (8, .long x8), (10, .long x10), (12, .int x12), (13, .int x13)] → W p l e rL_isSound s m args below meth c H locs 0 0 (MQ below (Qi G A r (fl [xB ax ac af ah at_ ar ad, cB G ac vc, fB G af vf])) args s 0 0 A) (F0 m 36 ls [])) :
    ∀ (x2 : Int32) (x3 : Int32) (x4 : Int32) (x5 : Int32) (x6 : Int32) (x7 : Int32) (x13 : Int32) (x14 : Int32) (x15 : Int64) (x17 : Int64) (H : Heap) (locs : List Loc) (ls : Array Slot), f_L_isSound_b183 k36 vc vf x1 x2 x3 x4 x5 x6 x7 x13 x14 x15 x17 = some (r) → Wd G A s H locs (fl [xB ax ac af ah at_ ar ad, cB G ac vc, fB G af vf]) → lv_has ls 28 [(0, .ref ax), (1, .int x1), (2, .int x2), (3, .int x3), (4, .int x4), (5, .int x5), (6, .int x6), (7, .int x7), (13, .int x13), (14, .int x14), (15, .long x15), (17, .long x17)] → W p l e rL_isSound s m args below meth c H locs 0 0 (MQ below (Qi G A r (fl [xB ax ac af ah at_ ar ad, cB G ac vc, fB G af vf])) args s 0 0 A) (F0 m 183 ls []) := by
  obtain ⟨⟨hx, hb, hml, hown, hts⟩, hK, hr, hlk, hA⟩ := id X
  intro x2 x3 x4 x5 x6 x7 x13 x14 x15 x17 H locs ls h hw hl
  unfold f_L_isSound_b183 at h
  refine lv_lload hx hb dL_isSound_183 (lv_at hl 10 rfl) ?_
  refine lv_lstore (lv' := [(8, .long x15), (0, .ref ax), (1, .int x1), (2, .int x2), (3, .int x3), (4, .int x4), (5, .int x5), (6, .int x6), (7, .int x7), (13, .int x13), (14, .int x14), (15, .long x15), (17, .long x17)]) hx hb dL_isSound_185 hl (by decide) rfl (fun ls hl => ?_)
  refine lv_lload hx hb dL_isSound_187 (lv_at hl 12 rfl) ?_
  refine lv_lstore (lv' := [(10, .long x17), (8, .long x15), (0, .ref ax), (1, .int x1), (2, .int x2), (3, .int x3), (4, .int x4), (5, .int x5), (6, .int x6), (7, .int x7), (13, .int x13), (14, .int x14), (15, .long x15), (17, .long x17)]) hx hb dL_isSound_189 hl (by decide) rfl (fun ls hl => ?_)
  refine lv_iload hx hb dL_isSound_191 (lv_at hl 11 rfl) ?_
  refine lv_istore (lv' := [(12, .int x14), (10, .long x17), (8, .long x15), (0, .ref ax), (1, .int x1), (2, .int x2), (3, .int x3), (4, .int x4), (5, .int x5), (6, .int x6), (7, .int x7), (13, .int x13), (14, .int x14), (15, .long x15), (17, .long x17)]) hx hb dL_isSound_193 hl (by decide) rfl (fun ls hl => ?_)
  refine lv_aload_n hx hb dL_isSound_195 rfl (lv_at hl 3 rfl) ?_
  refine lv_iload hx hb dL_isSound_196 (lv_at hl 12 rfl) ?_
  refine lv_iconst (v := 0) hx hb dL_isSound_198 (by decide) ?_
  obtain ⟨r_1, c_2, h⟩ := bd_ok h
  refine x_Vi (As := [.int x14, .int 0]) (w' := fl [xB ax ac af ah at_ ar ad, cB G ac vc, fB G af vf]) X hw (m_X4_section (G := G) (l := l) (ax := ax) (ac := ac) (af := af) (ah := ah) (at_ := at_) (ar := ar) (ad := ad) c_2) Cut.all 0 0 rfl rfl rfl (cwV 2 hts gL_isSound_X4_section rfl rfl rfl hd_X4_section ⟨Nat.le_of_ble_eq_true rfl, Nat.le_of_ble_eq_true rfl⟩) rfl hl.1 rfl (Nat.le_of_ble_eq_true rfl) dL_isSound_199 ⟨Nat.le_of_ble_eq_true rfl, Nat.le_of_ble_eq_true rfl⟩ (fun H locs hw => ?_)
  refine lv_aload_n hx hb dL_isSound_202 rfl (lv_at hl 3 rfl) ?_
  refine lv_iconst (v := 2) hx hb dL_isSound_203 (by decide) ?_
  obtain ⟨r_3, c_4, h⟩ := bd_ok h
  refine x_Vi (As := [.int 2]) (w' := fl [xB ax ac af ah at_ ar ad, cB G ac vc, fB G af vf]) X hw (m_X4_count (G := G) (l := l) (ax := ax) (ac := ac) (af := af) (ah := ah) (at_ := at_) (ar := ar) (ad := ad) c_4) Cut.all 0 0 rfl rfl rfl (cwV 1 hts gL_isSound_X4_count rfl rfl rfl hd_X4_count ⟨Nat.le_of_ble_eq_true rfl, Nat.le_of_ble_eq_true rfl⟩) rfl hl.1 rfl (Nat.le_of_ble_eq_true rfl) dL_isSound_204 ⟨Nat.le_of_ble_eq_true rfl, Nat.le_of_ble_eq_true rfl⟩ (fun H locs hw => ?_)
  refine lv_imul hx hb dL_isSound_207 ?_
  refine lv_sipush (v := 1000) hx hb dL_isSound_208 (by decide) ?_
  obtain ⟨k_5, h⟩ := ck_ok h
  obtain ⟨t_6, et_6, h⟩ := nm_ok h
  rw [← et_6]
  refine lv_idiv hx hb dL_isSound_211 k_5 ?_
  obtain ⟨t_7, et_7, h⟩ := nm_ok h
  refine lv_istore (lv' := [(19, .int t_7), (12, .int x14), (10, .long x17), (8, .long x15), (0, .ref ax), (1, .int x1), (2, .int x2), (3, .int x3), (4, .int x4), (5, .int x5), (6, .int x6), (7, .int x7), (13, .int x13), (14, .int x14), (15, .long x15), (17, .long x17)]) hx hb dL_isSound_212 hl (by decide) (by rw [et_7]; rfl) (fun ls hl => ?_)
  refine lv_aload_n hx hb dL_isSound_214 rfl (lv_at hl 4 rfl) ?_
  refine lv_iload hx hb dL_isSound_215 (lv_at hl 13 rfl) ?_
  refine lv_bipush (v := 8) hx hb dL_isSound_217 (by decide) ?_
  obtain ⟨r_8, c_9, h⟩ := bd_ok h
  refine x_Vi (As := [.int x14, .int 8]) (w' := fl [xB ax ac af ah at_ ar ad, cB G ac vc, fB G af vf]) X hw (m_X4_section (G := G) (l := l) (ax := ax) (ac := ac) (af := af) (ah := ah) (at_ := at_) (ar := ar) (ad := ad) c_9) Cut.all 0 0 rfl rfl rfl (cwV 2 hts gL_isSound_X4_section rfl rfl rfl hd_X4_section ⟨Nat.le_of_ble_eq_true rfl, Nat.le_of_ble_eq_true rfl⟩) rfl hl.1 rfl (Nat.le_of_ble_eq_true rfl) dL_isSound_219 ⟨Nat.le_of_ble_eq_true rfl, Nat.le_of_ble_eq_true rfl⟩ (fun H locs hw => ?_)
  refine lv_istore (lv' := [(20, .int r_8), (19, .int t_7), (12, .int x14), (10, .long x17), (8, .long x15), (0, .ref ax), (1, .int x1), (2, .int x2), (3, .int x3), (4, .int x4), (5, .int x5), (6, .int x6), (7, .int x7), (13, .int x13), (14, .int x14), (15, .long x15), (17, .long x17)]) hx hb dL_isSound_222 hl (by decide) rfl (fun ls hl => ?_)
  refine lv_iload hx hb dL_isSound_224 (lv_at hl 1 rfl) ?_
  refine lv_istore (lv' := [(21, .int t_7), (20, .int r_8), (19, .int t_7), (12, .int x14), (10, .long x17), (8, .long x15), (0, .ref ax), (1, .int x1), (2, .int x2), (3, .int x3), (4, .int x4), (5, .int x5), (6, .int x6), (7, .int x7), (13, .int x13), (14, .int x14), (15, .long x15), (17, .long x17)]) hx hb dL_isSound_226 hl (by decide) rfl (fun ls hl => ?_)
  refine lv_iconst (v := 0) hx hb dL_isSound_228 (by decide) ?_
  refine lv_istore (lv' := [(22, .int 0), (21, .int t_7), (20, .int r_8), (19, .int t_7), (12, .int x14), (10, .long x17), (8, .long x15), (0, .ref ax), (1, .int x1), (2, .int x2), (3, .int x3), (4, .int x4), (5, .int x5), (6, .int x6), (7, .int x7), (13, .int x13), (14, .int x14), (15, .long x15), (17, .long x17)]) hx hb dL_isSound_229 hl (by decide) rfl (fun ls hl => ?_)
  refine lv_iconst (v := (-1)) hx hb dL_isSound_231 (by decide) ?_
  refine lv_istore (lv' := [(23, .int (-1)), (22, .int 0), (21, .int t_7), (20, .int r_8), (19, .int t_7), (12, .int x14), (10, .long x17), (8, .long x15), (0, .ref ax), (1, .int x1), (2, .int x2), (3, .int x3), (4, .int x4), (5, .int x5), (6, .int x6), (7, .int x7), (13, .int x13), (14, .int x14), (15, .long x15), (17, .long x17)]) hx hb dL_isSound_232 hl (by decide) rfl (fun ls hl => ?_)
  refine lv_iconst (v := 0) hx hb dL_isSound_234 (by decide) ?_
  refine lv_istore (lv' := [(24, .int 0), (23, .int (-1)), (22, .int 0), (21, .int t_7), (20, .int r_8), (19, .int t_7), (12, .int x14), (10, .long x17), (8, .long x15), (0, .ref ax), (1, .int x1), (2, .int x2), (3, .int x3), (4, .int x4), (5, .int x5), (6, .int x6), (7, .int x7), (13, .int x13), (14, .int x14), (15, .long x15), (17, .long x17)]) hx hb dL_isSound_235 hl (by decide) rfl (fun ls hl => ?_)
  exact w_L_isSound_b237 X hk36 FU t_7 0 (-1) 0 _ _ _ h hw (lv_sub hl [9, 10, 11, 12, 13, 14, 15, 16, 8, 7, 6, 17, 18, 5, 4, 3, 2, 1, 0] rfl)
noncomputable def f_L_isSound_b36  (vc : CV) (vf : FV) (x1 : Int32) : Nat → Int32 → Int32 → Int32 → Int32 → Int32 → Int32 → Int64 → Int64 → Int32 → Int32 → Option (Int32)
  | 0 => fun _ _ _ _ _ _ _ _ _ _ => none
  | n + 1 => fun x2 x3 x4 x5 x6 x7 x8 x10 x12 x13 =>
    br (x1 ≤ x13)
      (br (x3 = x4)
         (br (x7 = x4)
            (bd (f_X4_count vc vf 5) fun r_4 =>
             br (r_4 = x6)
               (bd (f_X4_count vc vf 6) fun r_7 =>
                br (r_7 = x3)
                  (bd (f_X4_count vc vf 7) fun r_10 =>
                   br (r_10 = x5)
                     (bd (f_X4_count vc vf 9) fun r_13 =>
                      br (x5 = 0)
                        (f_L_isSound_b713 vc vf x1 1 r_13)
                        (f_L_isSound_b713 vc vf x1 0 r_13))
                     (some (0)))
                  (some (0)))
               (some (0)))
            (some (0)))
         (some (0)))
      (bd (f_X4_atStep vc vf x13) fun r_16 =>
       br (r_16 < 0)
         (some (0))
         (br (x1 ≤ r_16)
            (some (0))
            (br (((x2 >>> (r_16 &&& 31)) &&& 1) = 1)
               (some (0))
               (bd (f_X4_section vc vf r_16 4) fun r_21 =>
                br (r_21 = x13)
                  (nm ((x2 ||| (1 <<< (r_16 &&& 31))) : Int32) fun t_24 =>
                   bd (f_X4_modulus vc r_16 0) fun r_25 =>
                   nm ((r_25).toInt64 : Int64) fun t_27 =>
                   bd (f_X4_modulus vc r_16 1) fun r_28 =>
                   nm ((r_28).toInt64 : Int64) fun t_30 =>
                   bd (f_X4_section vc vf r_16 1) fun r_31 =>
                   bd (f_X4_section vc vf r_16 2) fun r_33 =>
                   bd (f_X4_section vc vf r_16 0) fun r_35 =>
                   br ((lg_cmp (t_27 * ((r_31 + r_33)).toInt64) ((r_35).toInt64 * t_30)) = 0)
                     (br (0 < (lg_cmp (x8 * t_30) (t_27 * x10)))
                        (some (0))
                        (br ((lg_cmp (x8 * t_30) (t_27 * x10)) = 0)
                           (br (x12 ≤ r_16)
                              (f_L_isSound_b183 (f_L_isSound_b36 vc vf x1 n) vc vf x1 t_24 x3 x4 x5 x6 x7 x13 r_16 t_27 t_30)
                              (some (0)))
                           (f_L_isSound_b183 (f_L_isSound_b36 vc vf x1 n) vc vf x1 t_24 x3 x4 x5 x6 x7 x13 r_16 t_27 t_30)))
                     (some (0)))
                  (some (0))))))
set_option maxHeartbeats 4000000 in
set_option maxRecDepth 100000 in
theorem w_L_isSound_b36 {G : GG} {l : Launch} {p : Program} {e : Env} {s : State} {m : MethodId} {args : Array Value} {below : List Frame} {meth : Method} {c : Code} {A : Nat → Prop} {ax : Nat} {ac af ah at_ ar ad : Nat → Nat} {vc : CV} {vf : FV} {x1 : Int32} {r : Int32}    (X : Cx p s m args meth c cL_isSound 28 (some .boolean) wsL_isSound RL G A)  :
    ∀ (n : Nat) (x2 : Int32) (x3 : Int32) (x4 : Int32) (x5 : Int32) (x6 : Int32) (x7 : Int32) (x8 : Int64) (x10 : Int64) (x12 : Int32) (x13 : Int32) (H : Heap) (locs : List Loc) (ls : Array Slot), f_L_isSound_b36 vc vf x1 n x2 x3 x4 x5 x6 x7 x8 x10 x12 x13 = some (r) → Wd G A s H locs (fl [xB ax ac af ah at_ ar ad, cB G ac vc, fB G af vf]) → lv_has ls 28 [(0, .ref ax), (1, .int x1), (2, .int x2), (3, .int x3), (4, .int x4), (5, .int x5), (6, .int x6), (7, .int x7), (8, .long x8), (10, .long x10), (12, .int x12), (13, .int x13)] → W p l e rL_isSound s m args below meth c H locs 0 0 (MQ below (Qi G A r (fl [xB ax ac af ah at_ ar ad, cB G ac vc, fB G af vf])) args s 0 0 A) (F0 m 36 ls []) := by
  obtain ⟨⟨hx, hb, hml, hown, hts⟩, hK, hr, hlk, hA⟩ := id X
  intro n
  induction n with
  | zero =>
    intro x2 x3 x4 x5 x6 x7 x8 x10 x12 x13 H locs ls h
    rw [f_L_isSound_b36] at h
    cases h
  | succ n ih =>
    intro x2 x3 x4 x5 x6 x7 x8 x10 x12 x13 H locs ls h hw hl
    rw [f_L_isSound_b36] at h
    refine lv_iload hx hb dL_isSound_36 (lv_at hl 11 rfl) ?_
    refine lv_iload_n hx hb dL_isSound_38 rfl (lv_at hl 1 rfl) ?_
    refine lv_icmp_ge (tgt := 653) hx hb dL_isSound_39 (by decide) (fun k_1 => ?_) (fun k_1 => ?_)
    · have h := br_yes h k_1
      refine lv_iload_n hx hb dL_isSound_653 rfl (lv_at hl 3 rfl) ?_
      refine lv_iload hx hb dL_isSound_654 (lv_at hl 4 rfl) ?_
      refine lv_icmp_ne (tgt := 729) hx hb dL_isSound_656 (by decide) (fun k_2 => ?_) (fun k_2 => ?_)
      · have h := br_no h k_2
        refine lv_iconst (v := 0) hx hb dL_isSound_729 (by decide) ?_
        cases h
        exact x_iret X (narz (Or.inl rfl)) hw rfl rfl dL_isSound_730
      · have h := br_yes h k_2
        refine lv_iload hx hb dL_isSound_659 (lv_at hl 7 rfl) ?_
        refine lv_iload hx hb dL_isSound_661 (lv_at hl 4 rfl) ?_
        refine lv_icmp_ne (tgt := 729) hx hb dL_isSound_663 (by decide) (fun k_3 => ?_) (fun k_3 => ?_)
        · have h := br_no h k_3
          refine lv_iconst (v := 0) hx hb dL_isSound_729 (by decide) ?_
          cases h
          exact x_iret X (narz (Or.inl rfl)) hw rfl rfl dL_isSound_730
        · have h := br_yes h k_3
          refine lv_aload_n hx hb dL_isSound_666 rfl (lv_at hl 0 rfl) ?_
          refine lv_iconst (v := 5) hx hb dL_isSound_667 (by decide) ?_
          obtain ⟨r_4, c_5, h⟩ := bd_ok h
          refine x_Vi (As := [.int 5]) (w' := fl [xB ax ac af ah at_ ar ad, cB G ac vc, fB G af vf]) X hw (m_X4_count (G := G) (l := l) (ax := ax) (ac := ac) (af := af) (ah := ah) (at_ := at_) (ar := ar) (ad := ad) c_5) Cut.all 0 0 rfl rfl rfl (cwV 1 hts gL_isSound_X4_count rfl rfl rfl hd_X4_count ⟨Nat.le_of_ble_eq_true rfl, Nat.le_of_ble_eq_true rfl⟩) rfl hl.1 rfl (Nat.le_of_ble_eq_true rfl) dL_isSound_668 ⟨Nat.le_of_ble_eq_true rfl, Nat.le_of_ble_eq_true rfl⟩ (fun H locs hw => ?_)
          refine lv_iload hx hb dL_isSound_671 (lv_at hl 6 rfl) ?_
          refine lv_icmp_ne (tgt := 729) hx hb dL_isSound_673 (by decide) (fun k_6 => ?_) (fun k_6 => ?_)
          · have h := br_no h k_6
            refine lv_iconst (v := 0) hx hb dL_isSound_729 (by decide) ?_
            cases h
            exact x_iret X (narz (Or.inl rfl)) hw rfl rfl dL_isSound_730
          · have h := br_yes h k_6
            refine lv_aload_n hx hb dL_isSound_676 rfl (lv_at hl 0 rfl) ?_
            refine lv_bipush (v := 6) hx hb dL_isSound_677 (by decide) ?_
            obtain ⟨r_7, c_8, h⟩ := bd_ok h
            refine x_Vi (As := [.int 6]) (w' := fl [xB ax ac af ah at_ ar ad, cB G ac vc, fB G af vf]) X hw (m_X4_count (G := G) (l := l) (ax := ax) (ac := ac) (af := af) (ah := ah) (at_ := at_) (ar := ar) (ad := ad) c_8) Cut.all 0 0 rfl rfl rfl (cwV 1 hts gL_isSound_X4_count rfl rfl rfl hd_X4_count ⟨Nat.le_of_ble_eq_true rfl, Nat.le_of_ble_eq_true rfl⟩) rfl hl.1 rfl (Nat.le_of_ble_eq_true rfl) dL_isSound_679 ⟨Nat.le_of_ble_eq_true rfl, Nat.le_of_ble_eq_true rfl⟩ (fun H locs hw => ?_)
            refine lv_iload_n hx hb dL_isSound_682 rfl (lv_at hl 3 rfl) ?_
            refine lv_icmp_ne (tgt := 729) hx hb dL_isSound_683 (by decide) (fun k_9 => ?_) (fun k_9 => ?_)
            · have h := br_no h k_9
              refine lv_iconst (v := 0) hx hb dL_isSound_729 (by decide) ?_
              cases h
              exact x_iret X (narz (Or.inl rfl)) hw rfl rfl dL_isSound_730
            · have h := br_yes h k_9
              refine lv_aload_n hx hb dL_isSound_686 rfl (lv_at hl 0 rfl) ?_
              refine lv_bipush (v := 7) hx hb dL_isSound_687 (by decide) ?_
              obtain ⟨r_10, c_11, h⟩ := bd_ok h
              refine x_Vi (As := [.int 7]) (w' := fl [xB ax ac af ah at_ ar ad, cB G ac vc, fB G af vf]) X hw (m_X4_count (G := G) (l := l) (ax := ax) (ac := ac) (af := af) (ah := ah) (at_ := at_) (ar := ar) (ad := ad) c_11) Cut.all 0 0 rfl rfl rfl (cwV 1 hts gL_isSound_X4_count rfl rfl rfl hd_X4_count ⟨Nat.le_of_ble_eq_true rfl, Nat.le_of_ble_eq_true rfl⟩) rfl hl.1 rfl (Nat.le_of_ble_eq_true rfl) dL_isSound_689 ⟨Nat.le_of_ble_eq_true rfl, Nat.le_of_ble_eq_true rfl⟩ (fun H locs hw => ?_)
              refine lv_iload hx hb dL_isSound_692 (lv_at hl 5 rfl) ?_
              refine lv_icmp_ne (tgt := 729) hx hb dL_isSound_694 (by decide) (fun k_12 => ?_) (fun k_12 => ?_)
              · have h := br_no h k_12
                refine lv_iconst (v := 0) hx hb dL_isSound_729 (by decide) ?_
                cases h
                exact x_iret X (narz (Or.inl rfl)) hw rfl rfl dL_isSound_730
              · have h := br_yes h k_12
                refine lv_aload_n hx hb dL_isSound_697 rfl (lv_at hl 0 rfl) ?_
                refine lv_bipush (v := 9) hx hb dL_isSound_698 (by decide) ?_
                obtain ⟨r_13, c_14, h⟩ := bd_ok h
                refine x_Vi (As := [.int 9]) (w' := fl [xB ax ac af ah at_ ar ad, cB G ac vc, fB G af vf]) X hw (m_X4_count (G := G) (l := l) (ax := ax) (ac := ac) (af := af) (ah := ah) (at_ := at_) (ar := ar) (ad := ad) c_14) Cut.all 0 0 rfl rfl rfl (cwV 1 hts gL_isSound_X4_count rfl rfl rfl hd_X4_count ⟨Nat.le_of_ble_eq_true rfl, Nat.le_of_ble_eq_true rfl⟩) rfl hl.1 rfl (Nat.le_of_ble_eq_true rfl) dL_isSound_700 ⟨Nat.le_of_ble_eq_true rfl, Nat.le_of_ble_eq_true rfl⟩ (fun H locs hw => ?_)
                refine lv_iload hx hb dL_isSound_703 (lv_at hl 5 rfl) ?_
                refine lv_if_ne (tgt := 712) hx hb dL_isSound_705 (by decide) (fun k_15 => ?_) (fun k_15 => ?_)
                · have h := br_no h k_15
                  refine lv_iconst (v := 0) hx hb dL_isSound_712 (by decide) ?_
                  exact w_L_isSound_b713 X x1 0 r_13 _ _ _ h hw (lv_sub hl [0, 1] rfl)
                · have h := br_yes h k_15
                  refine lv_iconst (v := 1) hx hb dL_isSound_708 (by decide) ?_
                  refine lv_goto (tgt := 713) hx hb dL_isSound_709 (by decide) ?_
                  exact w_L_isSound_b713 X x1 1 r_13 _ _ _ h hw (lv_sub hl [0, 1] rfl)
    · have h := br_no h k_1
      refine lv_aload_n hx hb dL_isSound_42 rfl (lv_at hl 0 rfl) ?_
      refine lv_iload hx hb dL_isSound_43 (lv_at hl 11 rfl) ?_
      obtain ⟨r_16, c_17, h⟩ := bd_ok h
      refine x_Vi (As := [.int x13]) (w' := fl [xB ax ac af ah at_ ar ad, cB G ac vc, fB G af vf]) X hw (m_X4_atStep (G := G) (l := l) (ax := ax) (ac := ac) (af := af) (ah := ah) (at_ := at_) (ar := ar) (ad := ad) c_17) Cut.all 0 0 rfl rfl rfl (cwV 1 hts gL_isSound_X4_atStep rfl rfl rfl hd_X4_atStep ⟨Nat.le_of_ble_eq_true rfl, Nat.le_of_ble_eq_true rfl⟩) rfl hl.1 rfl (Nat.le_of_ble_eq_true rfl) dL_isSound_45 ⟨Nat.le_of_ble_eq_true rfl, Nat.le_of_ble_eq_true rfl⟩ (fun H locs hw => ?_)
      refine lv_istore (lv' := [(14, .int r_16), (0, .ref ax), (1, .int x1), (2, .int x2), (3, .int x3), (4, .int x4), (5, .int x5), (6, .int x6), (7, .int x7), (8, .long x8), (10, .long x10), (12, .int x12), (13, .int x13)]) hx hb dL_isSound_48 hl (by decide) rfl (fun ls hl => ?_)
      refine lv_iload hx hb dL_isSound_50 (lv_at hl 0 rfl) ?_
      refine lv_if_lt (tgt := 83) hx hb dL_isSound_52 (by decide) (fun k_18 => ?_) (fun k_18 => ?_)
      · have h := br_yes h k_18
        refine lv_iconst (v := 0) hx hb dL_isSound_83 (by decide) ?_
        cases h
        exact x_iret X (narz (Or.inl rfl)) hw rfl rfl dL_isSound_84
      · have h := br_no h k_18
        refine lv_iload hx hb dL_isSound_55 (lv_at hl 0 rfl) ?_
        refine lv_iload_n hx hb dL_isSound_57 rfl (lv_at hl 2 rfl) ?_
        refine lv_icmp_ge (tgt := 83) hx hb dL_isSound_58 (by decide) (fun k_19 => ?_) (fun k_19 => ?_)
        · have h := br_yes h k_19
          refine lv_iconst (v := 0) hx hb dL_isSound_83 (by decide) ?_
          cases h
          exact x_iret X (narz (Or.inl rfl)) hw rfl rfl dL_isSound_84
        · have h := br_no h k_19
          refine lv_iload_n hx hb dL_isSound_61 rfl (lv_at hl 3 rfl) ?_
          refine lv_iload hx hb dL_isSound_62 (lv_at hl 0 rfl) ?_
          refine lv_ishr hx hb dL_isSound_64 ?_
          refine lv_iconst (v := 1) hx hb dL_isSound_65 (by decide) ?_
          refine lv_iand hx hb dL_isSound_66 ?_
          refine lv_iconst (v := 1) hx hb dL_isSound_67 (by decide) ?_
          refine lv_icmp_eq (tgt := 83) hx hb dL_isSound_68 (by decide) (fun k_20 => ?_) (fun k_20 => ?_)
          · have h := br_yes h k_20
            refine lv_iconst (v := 0) hx hb dL_isSound_83 (by decide) ?_
            cases h
            exact x_iret X (narz (Or.inl rfl)) hw rfl rfl dL_isSound_84
          · have h := br_no h k_20
            refine lv_aload_n hx hb dL_isSound_71 rfl (lv_at hl 1 rfl) ?_
            refine lv_iload hx hb dL_isSound_72 (lv_at hl 0 rfl) ?_
            refine lv_iconst (v := 4) hx hb dL_isSound_74 (by decide) ?_
            obtain ⟨r_21, c_22, h⟩ := bd_ok h
            refine x_Vi (As := [.int r_16, .int 4]) (w' := fl [xB ax ac af ah at_ ar ad, cB G ac vc, fB G af vf]) X hw (m_X4_section (G := G) (l := l) (ax := ax) (ac := ac) (af := af) (ah := ah) (at_ := at_) (ar := ar) (ad := ad) c_22) Cut.all 0 0 rfl rfl rfl (cwV 2 hts gL_isSound_X4_section rfl rfl rfl hd_X4_section ⟨Nat.le_of_ble_eq_true rfl, Nat.le_of_ble_eq_true rfl⟩) rfl hl.1 rfl (Nat.le_of_ble_eq_true rfl) dL_isSound_75 ⟨Nat.le_of_ble_eq_true rfl, Nat.le_of_ble_eq_true rfl⟩ (fun H locs hw => ?_)
            refine lv_iload hx hb dL_isSound_78 (lv_at hl 12 rfl) ?_
            refine lv_icmp_eq (tgt := 85) hx hb dL_isSound_80 (by decide) (fun k_23 => ?_) (fun k_23 => ?_)
            · have h := br_yes h k_23
              refine lv_iload_n hx hb dL_isSound_85 rfl (lv_at hl 3 rfl) ?_
              refine lv_iconst (v := 1) hx hb dL_isSound_86 (by decide) ?_
              refine lv_iload hx hb dL_isSound_87 (lv_at hl 0 rfl) ?_
              refine lv_ishl hx hb dL_isSound_89 ?_
              refine lv_ior hx hb dL_isSound_90 ?_
              obtain ⟨t_24, et_24, h⟩ := nm_ok h
              refine lv_istore_n (lv' := [(2, .int t_24), (14, .int r_16), (0, .ref ax), (1, .int x1), (3, .int x3), (4, .int x4), (5, .int x5), (6, .int x6), (7, .int x7), (8, .long x8), (10, .long x10), (12, .int x12), (13, .int x13)]) hx hb dL_isSound_91 rfl hl (by decide) (by rw [et_24]; rfl) (fun ls hl => ?_)
              refine lv_aload_n hx hb dL_isSound_92 rfl (lv_at hl 2 rfl) ?_
              refine lv_iload hx hb dL_isSound_93 (lv_at hl 1 rfl) ?_
              refine lv_iconst (v := 0) hx hb dL_isSound_95 (by decide) ?_
              obtain ⟨r_25, c_26, h⟩ := bd_ok h
              refine x_Vi (As := [.int r_16, .int 0]) (w' := fl [xB ax ac af ah at_ ar ad, cB G ac vc, fB G af vf]) X hw (m_X4_modulus (G := G) (l := l) (ax := ax) (ac := ac) (af := af) (ah := ah) (at_ := at_) (ar := ar) (ad := ad) c_26) (cut8 (bs' := [xB ax ac af ah at_ ar ad, cB G ac vc, fB G af vf]) 3 [0, 1] [2] [0, 1, 2] [xB ax ac af ah at_ ar ad, cB G ac vc] rfl (by decide +kernel) rfl rfl rfl (by decide +kernel) rfl) 0 0 rfl rfl rfl (cwV 2 hts gL_isSound_X4_modulus rfl rfl rfl hd_X4_modulus ⟨Nat.le_of_ble_eq_true rfl, Nat.le_of_ble_eq_true rfl⟩) rfl hl.1 rfl (Nat.le_of_ble_eq_true rfl) dL_isSound_96 ⟨Nat.le_of_ble_eq_true rfl, Nat.le_of_ble_eq_true rfl⟩ (fun H locs hw => ?_)
              refine lv_i2l hx hb dL_isSound_99 rfl ?_
              obtain ⟨t_27, et_27, h⟩ := nm_ok h
              refine lv_lstore (lv' := [(15, .long t_27), (2, .int t_24), (14, .int r_16), (0, .ref ax), (1, .int x1), (3, .int x3), (4, .int x4), (5, .int x5), (6, .int x6), (7, .int x7), (8, .long x8), (10, .long x10), (12, .int x12), (13, .int x13)]) hx hb dL_isSound_100 hl (by decide) (by rw [et_27]; rfl) (fun ls hl => ?_)
              refine lv_aload_n hx hb dL_isSound_102 rfl (lv_at hl 3 rfl) ?_
              refine lv_iload hx hb dL_isSound_103 (lv_at hl 2 rfl) ?_
              refine lv_iconst (v := 1) hx hb dL_isSound_105 (by decide) ?_
              obtain ⟨r_28, c_29, h⟩ := bd_ok h
              refine x_Vi (As := [.int r_16, .int 1]) (w' := fl [xB ax ac af ah at_ ar ad, cB G ac vc, fB G af vf]) X hw (m_X4_modulus (G := G) (l := l) (ax := ax) (ac := ac) (af := af) (ah := ah) (at_ := at_) (ar := ar) (ad := ad) c_29) (cut8 (bs' := [xB ax ac af ah at_ ar ad, cB G ac vc, fB G af vf]) 3 [0, 1] [2] [0, 1, 2] [xB ax ac af ah at_ ar ad, cB G ac vc] rfl (by decide +kernel) rfl rfl rfl (by decide +kernel) rfl) 0 0 rfl rfl rfl (cwV 2 hts gL_isSound_X4_modulus rfl rfl rfl hd_X4_modulus ⟨Nat.le_of_ble_eq_true rfl, Nat.le_of_ble_eq_true rfl⟩) rfl hl.1 rfl (Nat.le_of_ble_eq_true rfl) dL_isSound_106 ⟨Nat.le_of_ble_eq_true rfl, Nat.le_of_ble_eq_true rfl⟩ (fun H locs hw => ?_)
              refine lv_i2l hx hb dL_isSound_109 rfl ?_
              obtain ⟨t_30, et_30, h⟩ := nm_ok h
              refine lv_lstore (lv' := [(17, .long t_30), (15, .long t_27), (2, .int t_24), (14, .int r_16), (0, .ref ax), (1, .int x1), (3, .int x3), (4, .int x4), (5, .int x5), (6, .int x6), (7, .int x7), (8, .long x8), (10, .long x10), (12, .int x12), (13, .int x13)]) hx hb dL_isSound_110 hl (by decide) (by rw [et_30]; rfl) (fun ls hl => ?_)
              refine lv_lload hx hb dL_isSound_112 (lv_at hl 1 rfl) ?_
              refine lv_aload_n hx hb dL_isSound_114 rfl (lv_at hl 4 rfl) ?_
              refine lv_iload hx hb dL_isSound_115 (lv_at hl 3 rfl) ?_
              refine lv_iconst (v := 1) hx hb dL_isSound_117 (by decide) ?_
              obtain ⟨r_31, c_32, h⟩ := bd_ok h
              refine x_Vi (As := [.int r_16, .int 1]) (w' := fl [xB ax ac af ah at_ ar ad, cB G ac vc, fB G af vf]) X hw (m_X4_section (G := G) (l := l) (ax := ax) (ac := ac) (af := af) (ah := ah) (at_ := at_) (ar := ar) (ad := ad) c_32) Cut.all 0 0 rfl rfl rfl (cwV 2 hts gL_isSound_X4_section rfl rfl rfl hd_X4_section ⟨Nat.le_of_ble_eq_true rfl, Nat.le_of_ble_eq_true rfl⟩) rfl hl.1 rfl (Nat.le_of_ble_eq_true rfl) dL_isSound_118 ⟨Nat.le_of_ble_eq_true rfl, Nat.le_of_ble_eq_true rfl⟩ (fun H locs hw => ?_)
              refine lv_aload_n hx hb dL_isSound_121 rfl (lv_at hl 4 rfl) ?_
              refine lv_iload hx hb dL_isSound_122 (lv_at hl 3 rfl) ?_
              refine lv_iconst (v := 2) hx hb dL_isSound_124 (by decide) ?_
              obtain ⟨r_33, c_34, h⟩ := bd_ok h
              refine x_Vi (As := [.int r_16, .int 2]) (w' := fl [xB ax ac af ah at_ ar ad, cB G ac vc, fB G af vf]) X hw (m_X4_section (G := G) (l := l) (ax := ax) (ac := ac) (af := af) (ah := ah) (at_ := at_) (ar := ar) (ad := ad) c_34) Cut.all 0 0 rfl rfl rfl (cwV 2 hts gL_isSound_X4_section rfl rfl rfl hd_X4_section ⟨Nat.le_of_ble_eq_true rfl, Nat.le_of_ble_eq_true rfl⟩) rfl hl.1 rfl (Nat.le_of_ble_eq_true rfl) dL_isSound_125 ⟨Nat.le_of_ble_eq_true rfl, Nat.le_of_ble_eq_true rfl⟩ (fun H locs hw => ?_)
              refine lv_iadd hx hb dL_isSound_128 ?_
              refine lv_i2l hx hb dL_isSound_129 rfl ?_
              refine lv_lmul hx hb dL_isSound_130 ?_
              refine lv_aload_n hx hb dL_isSound_131 rfl (lv_at hl 4 rfl) ?_
              refine lv_iload hx hb dL_isSound_132 (lv_at hl 3 rfl) ?_
              refine lv_iconst (v := 0) hx hb dL_isSound_134 (by decide) ?_
              obtain ⟨r_35, c_36, h⟩ := bd_ok h
              refine x_Vi (As := [.int r_16, .int 0]) (w' := fl [xB ax ac af ah at_ ar ad, cB G ac vc, fB G af vf]) X hw (m_X4_section (G := G) (l := l) (ax := ax) (ac := ac) (af := af) (ah := ah) (at_ := at_) (ar := ar) (ad := ad) c_36) Cut.all 0 0 rfl rfl rfl (cwV 2 hts gL_isSound_X4_section rfl rfl rfl hd_X4_section ⟨Nat.le_of_ble_eq_true rfl, Nat.le_of_ble_eq_true rfl⟩) rfl hl.1 rfl (Nat.le_of_ble_eq_true rfl) dL_isSound_135 ⟨Nat.le_of_ble_eq_true rfl, Nat.le_of_ble_eq_true rfl⟩ (fun H locs hw => ?_)
              refine lv_i2l hx hb dL_isSound_138 rfl ?_
              refine lv_lload hx hb dL_isSound_139 (lv_at hl 0 rfl) ?_
              refine lv_lmul hx hb dL_isSound_141 ?_
              refine W.lcmp hx hb dL_isSound_142 ?_
              refine lv_if_ne (tgt := 181) hx hb dL_isSound_143 (by decide) (fun k_37 => ?_) (fun k_37 => ?_)
              · have h := br_no h k_37
                refine lv_iconst (v := 0) hx hb dL_isSound_181 (by decide) ?_
                cases h
                exact x_iret X (narz (Or.inl rfl)) hw rfl rfl dL_isSound_182
              · have h := br_yes h k_37
                refine lv_lload hx hb dL_isSound_146 (lv_at hl 11 rfl) ?_
                refine lv_lload hx hb dL_isSound_148 (lv_at hl 0 rfl) ?_
                refine lv_lmul hx hb dL_isSound_150 ?_
                refine lv_lload hx hb dL_isSound_151 (lv_at hl 1 rfl) ?_
                refine lv_lload hx hb dL_isSound_153 (lv_at hl 12 rfl) ?_
                refine lv_lmul hx hb dL_isSound_155 ?_
                refine W.lcmp hx hb dL_isSound_156 ?_
                refine lv_if_gt (tgt := 181) hx hb dL_isSound_157 (by decide) (fun k_38 => ?_) (fun k_38 => ?_)
                · have h := br_yes h k_38
                  refine lv_iconst (v := 0) hx hb dL_isSound_181 (by decide) ?_
                  cases h
                  exact x_iret X (narz (Or.inl rfl)) hw rfl rfl dL_isSound_182
                · have h := br_no h k_38
                  refine lv_lload hx hb dL_isSound_160 (lv_at hl 11 rfl) ?_
                  refine lv_lload hx hb dL_isSound_162 (lv_at hl 0 rfl) ?_
                  refine lv_lmul hx hb dL_isSound_164 ?_
                  refine lv_lload hx hb dL_isSound_165 (lv_at hl 1 rfl) ?_
                  refine lv_lload hx hb dL_isSound_167 (lv_at hl 12 rfl) ?_
                  refine lv_lmul hx hb dL_isSound_169 ?_
                  refine W.lcmp hx hb dL_isSound_170 ?_
                  refine lv_if_ne (tgt := 183) hx hb dL_isSound_171 (by decide) (fun k_39 => ?_) (fun k_39 => ?_)
                  · have h := br_no h k_39
                    exact w_L_isSound_b183 X ih t_24 x3 x4 x5 x6 x7 x13 r_16 t_27 t_30 _ _ _ h hw (lv_sub hl [4, 5, 2, 6, 7, 8, 9, 10, 14, 3, 1, 0] rfl)
                  · have h := br_yes h k_39
                    refine lv_iload hx hb dL_isSound_174 (lv_at hl 3 rfl) ?_
                    refine lv_iload hx hb dL_isSound_176 (lv_at hl 13 rfl) ?_
                    refine lv_icmp_ge (tgt := 183) hx hb dL_isSound_178 (by decide) (fun k_40 => ?_) (fun k_40 => ?_)
                    · have h := br_yes h k_40
                      exact w_L_isSound_b183 X ih t_24 x3 x4 x5 x6 x7 x13 r_16 t_27 t_30 _ _ _ h hw (lv_sub hl [4, 5, 2, 6, 7, 8, 9, 10, 14, 3, 1, 0] rfl)
                    · have h := br_no h k_40
                      refine lv_iconst (v := 0) hx hb dL_isSound_181 (by decide) ?_
                      cases h
                      exact x_iret X (narz (Or.inl rfl)) hw rfl rfl dL_isSound_182
            · have h := br_no h k_23
              refine lv_iconst (v := 0) hx hb dL_isSound_83 (by decide) ?_
              cases h
              exact x_iret X (narz (Or.inl rfl)) hw rfl rfl dL_isSound_84
noncomputable def f_L_isSound  (vc : CV) (vf : FV)  : Option (Int32) :=
  bd (f_X4_count vc vf 0) fun r_1 =>
  f_L_isSound_b36 vc vf r_1 FU 0 0 0 0 0 0 (-1) 1 (-1) 0
set_option maxHeartbeats 4000000 in
set_option maxRecDepth 100000 in
theorem m_L_isSound {G : GG} {l : Launch} {ax : Nat} {ac af ah at_ ar ad : Nat → Nat} {vc : CV} {vf : FV}  {r : Int32}  (h : f_L_isSound vc vf = some (r)) : Ci G l yL_isSound wsL_isSound rL_isSound [.ref ax] (fl [xB ax ac af ah at_ ar ad, cB G ac vc, fB G af vf]) r (fl [xB ax ac af ah at_ ar ad, cB G ac vc, fB G af vf]) := by
  refine Ci.intro cL_isSound 28 (some .boolean) RL (by decide) rfl rfl (Nat.le_of_ble_eq_true rfl) ?_
  intro p e s m below meth c A ls X hw hl
  obtain ⟨⟨hx, hb, hml, hown, hts⟩, hK, hr, hlk, hA⟩ := id X
  unfold f_L_isSound at h
  have hl : lv_has ls 28 [(0, .ref ax)] := hl
  refine lv_aload_n hx hb dL_isSound_0 rfl (lv_at hl 0 rfl) ?_
  refine lv_iconst (v := 0) hx hb dL_isSound_1 (by decide) ?_
  obtain ⟨r_1, c_2, h⟩ := bd_ok h
  refine x_Vi (As := [.int 0]) (w' := fl [xB ax ac af ah at_ ar ad, cB G ac vc, fB G af vf]) X hw (m_X4_count (G := G) (l := l) (ax := ax) (ac := ac) (af := af) (ah := ah) (at_ := at_) (ar := ar) (ad := ad) c_2) Cut.all 0 0 rfl rfl rfl (cwV 1 hts gL_isSound_X4_count rfl rfl rfl hd_X4_count ⟨Nat.le_of_ble_eq_true rfl, Nat.le_of_ble_eq_true rfl⟩) rfl hl.1 rfl (Nat.le_of_ble_eq_true rfl) dL_isSound_2 ⟨Nat.le_of_ble_eq_true rfl, Nat.le_of_ble_eq_true rfl⟩ (fun H locs hw => ?_)
  refine lv_istore_n (lv' := [(1, .int r_1), (0, .ref ax)]) hx hb dL_isSound_5 rfl hl (by decide) rfl (fun ls hl => ?_)
  refine lv_iconst (v := 0) hx hb dL_isSound_6 (by decide) ?_
  refine lv_istore_n (lv' := [(2, .int 0), (1, .int r_1), (0, .ref ax)]) hx hb dL_isSound_7 rfl hl (by decide) rfl (fun ls hl => ?_)
  refine lv_iconst (v := 0) hx hb dL_isSound_8 (by decide) ?_
  refine lv_istore_n (lv' := [(3, .int 0), (2, .int 0), (1, .int r_1), (0, .ref ax)]) hx hb dL_isSound_9 rfl hl (by decide) rfl (fun ls hl => ?_)
  refine lv_iconst (v := 0) hx hb dL_isSound_10 (by decide) ?_
  refine lv_istore (lv' := [(4, .int 0), (3, .int 0), (2, .int 0), (1, .int r_1), (0, .ref ax)]) hx hb dL_isSound_11 hl (by decide) rfl (fun ls hl => ?_)
  refine lv_iconst (v := 0) hx hb dL_isSound_13 (by decide) ?_
  refine lv_istore (lv' := [(5, .int 0), (4, .int 0), (3, .int 0), (2, .int 0), (1, .int r_1), (0, .ref ax)]) hx hb dL_isSound_14 hl (by decide) rfl (fun ls hl => ?_)
  refine lv_iconst (v := 0) hx hb dL_isSound_16 (by decide) ?_
  refine lv_istore (lv' := [(6, .int 0), (5, .int 0), (4, .int 0), (3, .int 0), (2, .int 0), (1, .int r_1), (0, .ref ax)]) hx hb dL_isSound_17 hl (by decide) rfl (fun ls hl => ?_)
  refine lv_iconst (v := 0) hx hb dL_isSound_19 (by decide) ?_
  refine lv_istore (lv' := [(7, .int 0), (6, .int 0), (5, .int 0), (4, .int 0), (3, .int 0), (2, .int 0), (1, .int r_1), (0, .ref ax)]) hx hb dL_isSound_20 hl (by decide) rfl (fun ls hl => ?_)
  refine lv_ldc2 (v := (-1)) hx hb hown (hts _ (List.mem_of_getElem? (i := 1) rfl)) dL_isSound_22 ?_
  refine lv_lstore (lv' := [(8, .long (-1)), (7, .int 0), (6, .int 0), (5, .int 0), (4, .int 0), (3, .int 0), (2, .int 0), (1, .int r_1), (0, .ref ax)]) hx hb dL_isSound_25 hl (by decide) rfl (fun ls hl => ?_)
  refine lv_lconst (v := 1) hx hb dL_isSound_27 rfl ?_
  refine lv_lstore (lv' := [(10, .long 1), (8, .long (-1)), (7, .int 0), (6, .int 0), (5, .int 0), (4, .int 0), (3, .int 0), (2, .int 0), (1, .int r_1), (0, .ref ax)]) hx hb dL_isSound_28 hl (by decide) rfl (fun ls hl => ?_)
  refine lv_iconst (v := (-1)) hx hb dL_isSound_30 (by decide) ?_
  refine lv_istore (lv' := [(12, .int (-1)), (10, .long 1), (8, .long (-1)), (7, .int 0), (6, .int 0), (5, .int 0), (4, .int 0), (3, .int 0), (2, .int 0), (1, .int r_1), (0, .ref ax)]) hx hb dL_isSound_31 hl (by decide) rfl (fun ls hl => ?_)
  refine lv_iconst (v := 0) hx hb dL_isSound_33 (by decide) ?_
  refine lv_istore (lv' := [(13, .int 0), (12, .int (-1)), (10, .long 1), (8, .long (-1)), (7, .int 0), (6, .int 0), (5, .int 0), (4, .int 0), (3, .int 0), (2, .int 0), (1, .int r_1), (0, .ref ax)]) hx hb dL_isSound_34 hl (by decide) rfl (fun ls hl => ?_)
  exact w_L_isSound_b36 X FU 0 0 0 0 0 0 (-1) 1 (-1) 0 _ _ _ h hw (lv_sub hl [11, 10, 9, 8, 7, 6, 5, 4, 3, 2, 1, 0] rfl)
