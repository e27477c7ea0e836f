def rX4_isWithin : Room := { frames := 0, cells := 0, slots := 0, locals := 0 }
theorem hd_X4_isWithin : yX4_isWithin.cls = RX4 ∧ yX4_isWithin.cls ≠ "java/lang/invoke/MethodHandle" ∧ yX4_isWithin.cls ≠ "java/lang/invoke/VarHandle" ∧ (parseMethodDescriptor yX4_isWithin.desc).map (fun d => d.parameters.length) = some 3 := by decide +kernel
noncomputable def f_X4_isWithin   (x0 : Int32) (x1 : Int32) (x2 : Int32) : Option (Int32) :=
  br (x0 < x1)
    (some (0))
    (br (x2 < x0)
       (some (0))
       (some (1)))
set_option maxHeartbeats 4000000 in
set_option maxRecDepth 100000 in
theorem m_X4_isWithin {G : GG} {l : Launch}   {x0 : Int32} {x1 : Int32} {x2 : Int32} {r : Int32}  (h : f_X4_isWithin x0 x1 x2 = some (r)) : Ci G l yX4_isWithin wsX4_isWithin rX4_isWithin [.int x0, .int x1, .int x2] (fl []) r (fl []) := by
  refine Ci.intro cX4_isWithin 3 (some .boolean) RX4 (by decide) rfl rfl (Nat.le_of_ble_eq_true rfl) ?_
  intro p e s m below meth c A ls X hw hl
  obtain ⟨⟨hx, hb, hml, hown, hts⟩, hK, hr, hlk, hA⟩ := id X
  unfold f_X4_isWithin at h
  have hl : lv_has ls 3 [(0, .int x0), (1, .int x1), (2, .int x2)] := hl
  refine lv_iload_n hx hb dX4_isWithin_0 rfl (lv_at hl 0 rfl) ?_
  refine lv_iload_n hx hb dX4_isWithin_1 rfl (lv_at hl 1 rfl) ?_
  refine lv_icmp_lt (tgt := 14) hx hb dX4_isWithin_2 (by decide) (fun k_1 => ?_) (fun k_1 => ?_)
  · have h := br_yes h k_1
    refine lv_iconst (v := 0) hx hb dX4_isWithin_14 (by decide) ?_
    cases h
    exact x_iret X (narz (Or.inl rfl)) hw rfl rfl dX4_isWithin_15
  · have h := br_no h k_1
    refine lv_iload_n hx hb dX4_isWithin_5 rfl (lv_at hl 0 rfl) ?_
    refine lv_iload_n hx hb dX4_isWithin_6 rfl (lv_at hl 2 rfl) ?_
    refine lv_icmp_gt (tgt := 14) hx hb dX4_isWithin_7 (by decide) (fun k_2 => ?_) (fun k_2 => ?_)
    · have h := br_yes h k_2
      refine lv_iconst (v := 0) hx hb dX4_isWithin_14 (by decide) ?_
      cases h
      exact x_iret X (narz (Or.inl rfl)) hw rfl rfl dX4_isWithin_15
    · have h := br_no h k_2
      refine lv_iconst (v := 1) hx hb dX4_isWithin_10 (by decide) ?_
      refine lv_goto (tgt := 15) hx hb dX4_isWithin_11 (by decide) ?_
      cases h
      exact x_iret X (narz (Or.inr rfl)) hw rfl rfl dX4_isWithin_15

def rX4_isSize : Room := { frames := 1, cells := 0, slots := 0, locals := 22 }
theorem hd_X4_isSize : yX4_isSize.cls = RX4 ∧ yX4_isSize.cls ≠ "java/lang/invoke/MethodHandle" ∧ yX4_isSize.cls ≠ "java/lang/invoke/VarHandle" ∧ (parseMethodDescriptor yX4_isSize.desc).map (fun d => d.parameters.length) = some 1 := by decide +kernel
noncomputable def f_X4_isSize   (x0 : Int32) : Option (Int32) :=
  bd (f_X4_isWithin x0 1 5000) fun r_1 =>
  ck (r_1 = 0 ∨ r_1 = 1) <|
  some (r_1)
set_option maxHeartbeats 4000000 in
set_option maxRecDepth 100000 in
theorem m_X4_isSize {G : GG} {l : Launch}   {x0 : Int32} {r : Int32}  (h : f_X4_isSize x0 = some (r)) : Ci G l yX4_isSize wsX4_isSize rX4_isSize [.int x0] (fl []) r (fl []) := by
  refine Ci.intro cX4_isSize 1 (some .boolean) RX4 (by decide) rfl rfl (Nat.le_of_ble_eq_true rfl) ?_
  intro p e s m below meth c A ls X hw hl
  obtain ⟨⟨hx, hb, hml, hown, hts⟩, hK, hr, hlk, hA⟩ := id X
  unfold f_X4_isSize at h
  have hl : lv_has ls 1 [(0, .int x0)] := hl
  refine lv_iload_n hx hb dX4_isSize_0 rfl (lv_at hl 0 rfl) ?_
  refine lv_iconst (v := 1) hx hb dX4_isSize_1 (by decide) ?_
  refine lv_sipush (v := 5000) hx hb dX4_isSize_2 (by decide) ?_
  obtain ⟨r_1, c_2, h⟩ := bd_ok h
  refine x_Si (As := [.int x0, .int 1, .int 5000]) (w' := fl []) X hw (m_X4_isWithin (G := G) (l := l) c_2) Cut.nil (va_cwS 3 hts gX4_isSize_X4_isWithin rfl rfl rfl hd_X4_isWithin.2 ⟨Nat.le_of_ble_eq_true rfl, Nat.le_of_ble_eq_true rfl⟩) rfl hl.1 rfl (Nat.le_of_ble_eq_true rfl) dX4_isSize_5 ⟨Nat.le_of_ble_eq_true rfl, Nat.le_of_ble_eq_true rfl⟩ (fun H locs hw => ?_)
  obtain ⟨k_3, h⟩ := ck_ok h
  cases h
  exact x_iret X (narz k_3) hw rfl rfl dX4_isSize_8

def rX4_at : Room := { frames := 0, cells := 0, slots := 0, locals := 0 }
theorem hd_X4_at : yX4_at.cls = RX4 ∧ yX4_at.cls ≠ "java/lang/invoke/MethodHandle" ∧ yX4_at.cls ≠ "java/lang/invoke/VarHandle" ∧ (parseMethodDescriptor yX4_at.desc).map (fun d => d.parameters.length) = some 2 := by decide +kernel
noncomputable def f_X4_at (n_q : Nat) (y : AF) (x1 : Int32) : Option (Int32) :=
  br (x1 < 0)
    (some ((-1)))
    (br ((nI n_q) ≤ x1)
       (some ((-1)))
       (ck (vp_in x1 n_q) <|
        some ((y x1.toNatClampNeg))))
set_option maxHeartbeats 4000000 in
set_option maxRecDepth 100000 in
theorem m_X4_at {G : GG} {l : Launch} {q : Nat} {n_q : Nat} {y : AF} {x1 : Int32} {r : Int32}  (h : f_X4_at n_q y x1 = some (r)) : Ci G l yX4_at wsX4_at rX4_at [.ref q, .int x1] (fl [rB G q n_q y]) r (fl [rB G q n_q y]) := by
  refine Ci.intro cX4_at 2 (some .int) RX4 (by decide) rfl rfl (Nat.le_of_ble_eq_true rfl) ?_
  intro p e s m below meth c A ls X hw hl
  obtain ⟨⟨hx, hb, hml, hown, hts⟩, hK, hr, hlk, hA⟩ := id X
  unfold f_X4_at at h
  have hl : lv_has ls 2 [(0, .ref q), (1, .int x1)] := hl
  refine lv_iload_n hx hb dX4_at_0 rfl (lv_at hl 1 rfl) ?_
  refine lv_if_lt (tgt := 16) hx hb dX4_at_1 (by decide) (fun k_1 => ?_) (fun k_1 => ?_)
  · have h := br_yes h k_1
    refine lv_iconst (v := (-1)) hx hb dX4_at_16 (by decide) ?_
    cases h
    exact x_iret X (vp_nar_int _) hw rfl rfl dX4_at_17
  · have h := br_no h k_1
    refine lv_iload_n hx hb dX4_at_4 rfl (lv_at hl 1 rfl) ?_
    refine lv_aload_n hx hb dX4_at_5 rfl (lv_at hl 0 rfl) ?_
    refine x_alen (n := n_q) (t0 := 0) 0 0 X hw rfl rfl rfl rfl dX4_at_6 ?_
    refine lv_icmp_ge (tgt := 16) hx hb dX4_at_7 (by decide) (fun k_2 => ?_) (fun k_2 => ?_)
    · have h := br_yes h k_2
      refine lv_iconst (v := (-1)) hx hb dX4_at_16 (by decide) ?_
      cases h
      exact x_iret X (vp_nar_int _) hw rfl rfl dX4_at_17
    · have h := br_no h k_2
      refine lv_aload_n hx hb dX4_at_10 rfl (lv_at hl 0 rfl) ?_
      refine lv_iload_n hx hb dX4_at_11 rfl (lv_at hl 1 rfl) ?_
      obtain ⟨k_3, h⟩ := ck_ok h
      refine x_iald (f := y) 0 0 X hw rfl rfl k_3 dX4_at_12 ?_
      refine lv_goto (tgt := 17) hx hb dX4_at_13 (by decide) ?_
      cases h
      exact x_iret X (vp_nar_int _) hw rfl rfl dX4_at_17

def rX4_put : Room := { frames := 0, cells := 0, slots := 0, locals := 0 }
theorem hd_X4_put : yX4_put.cls = RX4 ∧ yX4_put.cls ≠ "java/lang/invoke/MethodHandle" ∧ yX4_put.cls ≠ "java/lang/invoke/VarHandle" ∧ (parseMethodDescriptor yX4_put.desc).map (fun d => d.parameters.length) = some 3 := by decide +kernel
noncomputable def f_X4_put (n_q : Nat) (y : AF) (x1 : Int32) (x2 : Int32) : Option (AF) :=
  br (x1 < 0)
    (some (y))
    (br ((nI n_q) ≤ x1)
       (some (y))
       (ck (vp_in x1 n_q) <|
        nm (upd y x1.toNatClampNeg x2) fun g_4 =>
        some (g_4)))
set_option maxHeartbeats 4000000 in
set_option maxRecDepth 100000 in
theorem m_X4_put {G : GG} {l : Launch} {q : Nat} {n_q : Nat} {y : AF} {x1 : Int32} {x2 : Int32} {zy : AF} (h : f_X4_put n_q y x1 x2 = some (zy)) : Cv G l yX4_put wsX4_put rX4_put [.ref q, .int x1, .int x2] (fl [rB G q n_q y]) (fl [rB G q n_q zy]) := by
  refine Cv.intro cX4_put 3 none RX4 (by decide) rfl rfl (Nat.le_of_ble_eq_true rfl) ?_
  intro p e s m below meth c A ls X hw hl
  obtain ⟨⟨hx, hb, hml, hown, hts⟩, hK, hr, hlk, hA⟩ := id X
  unfold f_X4_put at h
  have hl : lv_has ls 3 [(0, .ref q), (1, .int x1), (2, .int x2)] := hl
  refine lv_iload_n hx hb dX4_put_0 rfl (lv_at hl 1 rfl) ?_
  refine lv_if_lt (tgt := 14) hx hb dX4_put_1 (by decide) (fun k_1 => ?_) (fun k_1 => ?_)
  · have h := br_yes h k_1
    cases h
    exact x_vret X hw rfl dX4_put_14
  · have h := br_no h k_1
    refine lv_iload_n hx hb dX4_put_4 rfl (lv_at hl 1 rfl) ?_
    refine lv_aload_n hx hb dX4_put_5 rfl (lv_at hl 0 rfl) ?_
    refine x_alen (n := n_q) (t0 := 0) 0 0 X hw rfl rfl rfl rfl dX4_put_6 ?_
    refine lv_icmp_ge (tgt := 14) hx hb dX4_put_7 (by decide) (fun k_2 => ?_) (fun k_2 => ?_)
    · have h := br_yes h k_2
      cases h
      exact x_vret X hw rfl dX4_put_14
    · have h := br_no h k_2
      refine lv_aload_n hx hb dX4_put_10 rfl (lv_at hl 0 rfl) ?_
      refine lv_iload_n hx hb dX4_put_11 rfl (lv_at hl 1 rfl) ?_
      refine lv_iload_n hx hb dX4_put_12 rfl (lv_at hl 2 rfl) ?_
      obtain ⟨k_3, h⟩ := ck_ok h
      obtain ⟨g_4, eg_4, h⟩ := nm_ok h
      refine x_iast (f := y) (bs' := [rB G q n_q g_4]) 0 0 X hw rfl rfl k_3 dX4_put_13 (by rw [eg_4]; rfl) (fun H locs hw => ?_)
      cases h
      exact x_vret X hw rfl dX4_put_14

def rX4_sum : Room := { frames := 0, cells := 0, slots := 0, locals := 0 }
theorem hd_X4_sum : yX4_sum.cls = RX4 ∧ yX4_sum.cls ≠ "java/lang/invoke/MethodHandle" ∧ yX4_sum.cls ≠ "java/lang/invoke/VarHandle" ∧ (parseMethodDescriptor yX4_sum.desc).map (fun d => d.parameters.length) = some 2 := by decide +kernel
noncomputable def f_X4_sum_b4 (n_q : Nat) (y : AF) (x1 : Int32) : Nat → Int32 → Int32 → Option (Int32)
  | 0 => fun _ _ => none
  | n + 1 => fun x2 x3 =>
    br (x1 ≤ x3)
      (some (x2))
      (br ((nI n_q) ≤ x3)
         (some (x2))
         (ck (vp_in x3 n_q) <|
          nm ((x2 + (y x3.toNatClampNeg)) : Int32) fun t_4 =>
          nm (x3 + 1 : Int32) fun t_5 =>
          f_X4_sum_b4 n_q y x1 n t_4 t_5))
set_option maxHeartbeats 4000000 in
set_option maxRecDepth 100000 in
theorem w_X4_sum_b4 {G : GG} {l : Launch} {p : Program} {e : Env} {s : State} {m : MethodId} {args : Array Value} {below : List Frame} {meth : Method} {c : Code} {A : Nat → Prop} {q : Nat} {n_q : Nat} {y : AF} {x1 : Int32} {r : Int32}    (X : Cx p s m args meth c cX4_sum 4 (some .int) wsX4_sum RX4 G A)  :
    ∀ (n : Nat) (x2 : Int32) (x3 : Int32) (H : Heap) (locs : List Loc) (ls : Array Slot), f_X4_sum_b4 n_q y x1 n x2 x3 = some (r) → Wd G A s H locs (fl [rB G q n_q y]) → lv_has ls 4 [(0, .ref q), (1, .int x1), (2, .int x2), (3, .int x3)] → W p l e rX4_sum s m args below meth c H locs 0 0 (MQ below (Qi G A r (fl [rB G q n_q y])) args s 0 0 A) (F0 m 4 ls []) := by
  obtain ⟨⟨hx, hb, hml, hown, hts⟩, hK, hr, hlk, hA⟩ := id X
  intro n
  induction n with
  | zero =>
    intro x2 x3 H locs ls h
    rw [f_X4_sum_b4] at h
    cases h
  | succ n ih =>
    intro x2 x3 H locs ls h hw hl
    rw [f_X4_sum_b4] at h
    refine lv_iload_n hx hb dX4_sum_4 rfl (lv_at hl 3 rfl) ?_
    refine lv_iload_n hx hb dX4_sum_5 rfl (lv_at hl 1 rfl) ?_
    refine lv_icmp_ge (tgt := 27) hx hb dX4_sum_6 (by decide) (fun k_1 => ?_) (fun k_1 => ?_)
    · have h := br_yes h k_1
      refine lv_iload_n hx hb dX4_sum_27 rfl (lv_at hl 2 rfl) ?_
      cases h
      exact x_iret X (vp_nar_int _) hw rfl rfl dX4_sum_28
    · have h := br_no h k_1
      refine lv_iload_n hx hb dX4_sum_9 rfl (lv_at hl 3 rfl) ?_
      refine lv_aload_n hx hb dX4_sum_10 rfl (lv_at hl 0 rfl) ?_
      refine x_alen (n := n_q) (t0 := 0) 0 0 X hw rfl rfl rfl rfl dX4_sum_11 ?_
      refine lv_icmp_ge (tgt := 27) hx hb dX4_sum_12 (by decide) (fun k_2 => ?_) (fun k_2 => ?_)
      · have h := br_yes h k_2
        refine lv_iload_n hx hb dX4_sum_27 rfl (lv_at hl 2 rfl) ?_
        cases h
        exact x_iret X (vp_nar_int _) hw rfl rfl dX4_sum_28
      · have h := br_no h k_2
        refine lv_iload_n hx hb dX4_sum_15 rfl (lv_at hl 2 rfl) ?_
        refine lv_aload_n hx hb dX4_sum_16 rfl (lv_at hl 0 rfl) ?_
        refine lv_iload_n hx hb dX4_sum_17 rfl (lv_at hl 3 rfl) ?_
        obtain ⟨k_3, h⟩ := ck_ok h
        refine x_iald (f := y) 0 0 X hw rfl rfl k_3 dX4_sum_18 ?_
        refine lv_iadd hx hb dX4_sum_19 ?_
        obtain ⟨t_4, et_4, h⟩ := nm_ok h
        refine lv_istore_n (lv' := [(2, .int t_4), (0, .ref q), (1, .int x1), (3, .int x3)]) hx hb dX4_sum_20 rfl hl (by decide) (by rw [et_4]; rfl) (fun ls hl => ?_)
        obtain ⟨t_5, et_5, h⟩ := nm_ok h
        refine lv_iinc (v := t_5) (lv' := [(3, .int t_5), (2, .int t_4), (0, .ref q), (1, .int x1)]) hx hb dX4_sum_21 hl (k := 3) rfl (by rw [et_5]; rfl) (by decide) rfl (fun ls hl => ?_)
        refine lv_goto (tgt := 4) hx hb dX4_sum_24 (by decide) ?_
        exact ih t_4 t_5 _ _ _ h hw (lv_sub hl [2, 3, 1, 0] rfl)
noncomputable def f_X4_sum (n_q : Nat) (y : AF) (x1 : Int32) : Option (Int32) :=
  f_X4_sum_b4 n_q y x1 FU 0 0
set_option maxHeartbeats 4000000 in
set_option maxRecDepth 100000 in
theorem m_X4_sum {G : GG} {l : Launch} {q : Nat} {n_q : Nat} {y : AF} {x1 : Int32} {r : Int32}  (h : f_X4_sum n_q y x1 = some (r)) : Ci G l yX4_sum wsX4_sum rX4_sum [.ref q, .int x1] (fl [rB G q n_q y]) r (fl [rB G q n_q y]) := by
  refine Ci.intro cX4_sum 4 (some .int) RX4 (by decide) rfl rfl (Nat.le_of_ble_eq_true rfl) ?_
  intro p e s m below meth c A ls X hw hl
  obtain ⟨⟨hx, hb, hml, hown, hts⟩, hK, hr, hlk, hA⟩ := id X
  unfold f_X4_sum at h
  have hl : lv_has ls 4 [(0, .ref q), (1, .int x1)] := hl
  refine lv_iconst (v := 0) hx hb dX4_sum_0 (by decide) ?_
  refine lv_istore_n (lv' := [(2, .int 0), (0, .ref q), (1, .int x1)]) hx hb dX4_sum_1 rfl hl (by decide) rfl (fun ls hl => ?_)
  refine lv_iconst (v := 0) hx hb dX4_sum_2 (by decide) ?_
  refine lv_istore_n (lv' := [(3, .int 0), (2, .int 0), (0, .ref q), (1, .int x1)]) hx hb dX4_sum_3 rfl hl (by decide) rfl (fun ls hl => ?_)
  exact w_X4_sum_b4 X FU 0 0 _ _ _ h hw (lv_sub hl [2, 3, 1, 0] rfl)

def rX4_commonDivisor : Room := { frames := 0, cells := 0, slots := 0, locals := 0 }
theorem hd_X4_commonDivisor : yX4_commonDivisor.cls = RX4 ∧ yX4_commonDivisor.cls ≠ "java/lang/invoke/MethodHandle" ∧ yX4_commonDivisor.cls ≠ "java/lang/invoke/VarHandle" ∧ (parseMethodDescriptor yX4_commonDivisor.desc).map (fun d => d.parameters.length) = some 2 := by decide +kernel
noncomputable def f_X4_commonDivisor_b7   : Nat → Int32 → Int32 → Int32 → Option (Int32)
  | 0 => fun _ _ _ => none
  | n + 1 => fun x2 x3 x4 =>
    br (1000 ≤ x4)
      (some (x2))
      (br (x3 = 0)
         (some (x2))
         (ck (¬ (x3 : Int32) = 0) <|
          nm ((x2 - x2 / x3 * x3) : Int32) fun t_4 =>
          nm (x4 + 1 : Int32) fun t_5 =>
          f_X4_commonDivisor_b7 n x3 t_4 t_5))
set_option maxHeartbeats 4000000 in
set_option maxRecDepth 100000 in
theorem w_X4_commonDivisor_b7 {G : GG} {l : Launch} {p : Program} {e : Env} {s : State} {m : MethodId} {args : Array Value} {below : List Frame} {meth : Method} {c : Code} {A : Nat → Prop}   {r : Int32}    (X : Cx p s m args meth c cX4_commonDivisor 6 (some .int) wsX4_commonDivisor RX4 G A)  :
    ∀ (n : Nat) (x2 : Int32) (x3 : Int32) (x4 : Int32) (H : Heap) (locs : List Loc) (ls : Array Slot), f_X4_commonDivisor_b7 n x2 x3 x4 = some (r) → Wd G A s H locs (fl []) → lv_has ls 6 [(2, .int x2), (3, .int x3), (4, .int x4)] → W p l e rX4_commonDivisor s m args below meth c H locs 0 0 (MQ below (Qi G A r (fl [])) args s 0 0 A) (F0 m 7 ls []) := by
  obtain ⟨⟨hx, hb, hml, hown, hts⟩, hK, hr, hlk, hA⟩ := id X
  intro n
  induction n with
  | zero =>
    intro x2 x3 x4 H locs ls h
    rw [f_X4_commonDivisor_b7] at h
    cases h
  | succ n ih =>
    intro x2 x3 x4 H locs ls h hw hl
    rw [f_X4_commonDivisor_b7] at h
    refine lv_iload hx hb dX4_commonDivisor_7 (lv_at hl 2 rfl) ?_
    refine lv_sipush (v := 1000) hx hb dX4_commonDivisor_9 (by decide) ?_
    refine lv_icmp_ge (tgt := 35) hx hb dX4_commonDivisor_12 (by decide) (fun k_1 => ?_) (fun k_1 => ?_)
    · have h := br_yes h k_1
      refine lv_iload_n hx hb dX4_commonDivisor_35 rfl (lv_at hl 0 rfl) ?_
      cases h
      exact x_iret X (vp_nar_int _) hw rfl rfl dX4_commonDivisor_36
    · have h := br_no h k_1
      refine lv_iload_n hx hb dX4_commonDivisor_15 rfl (lv_at hl 1 rfl) ?_
      refine lv_if_eq (tgt := 35) hx hb dX4_commonDivisor_16 (by decide) (fun k_2 => ?_) (fun k_2 => ?_)
      · have h := br_yes h k_2
        refine lv_iload_n hx hb dX4_commonDivisor_35 rfl (lv_at hl 0 rfl) ?_
        cases h
        exact x_iret X (vp_nar_int _) hw rfl rfl dX4_commonDivisor_36
      · have h := br_no h k_2
        refine lv_iload_n hx hb dX4_commonDivisor_19 rfl (lv_at hl 0 rfl) ?_
        refine lv_iload_n hx hb dX4_commonDivisor_20 rfl (lv_at hl 1 rfl) ?_
        obtain ⟨k_3, h⟩ := ck_ok h
        refine lv_irem hx hb dX4_commonDivisor_21 k_3 ?_
        obtain ⟨t_4, et_4, h⟩ := nm_ok h
        refine lv_istore (lv' := [(5, .int t_4), (2, .int x2), (3, .int x3), (4, .int x4)]) hx hb dX4_commonDivisor_22 hl (by decide) (by rw [et_4]; rfl) (fun ls hl => ?_)
        refine lv_iload_n hx hb dX4_commonDivisor_24 rfl (lv_at hl 2 rfl) ?_
        refine lv_istore_n (lv' := [(2, .int x3), (5, .int t_4), (3, .int x3), (4, .int x4)]) hx hb dX4_commonDivisor_25 rfl hl (by decide) rfl (fun ls hl => ?_)
        refine lv_iload hx hb dX4_commonDivisor_26 (lv_at hl 1 rfl) ?_
        refine lv_istore_n (lv' := [(3, .int t_4), (2, .int x3), (5, .int t_4), (4, .int x4)]) hx hb dX4_commonDivisor_28 rfl hl (by decide) rfl (fun ls hl => ?_)
        obtain ⟨t_5, et_5, h⟩ := nm_ok h
        refine lv_iinc (v := t_5) (lv' := [(4, .int t_5), (3, .int t_4), (2, .int x3), (5, .int t_4)]) hx hb dX4_commonDivisor_29 hl (k := 3) rfl (by rw [et_5]; rfl) (by decide) rfl (fun ls hl => ?_)
        refine lv_goto (tgt := 7) hx hb dX4_commonDivisor_32 (by decide) ?_
        exact ih x3 t_4 t_5 _ _ _ h hw (lv_sub hl [2, 1, 0] rfl)
noncomputable def f_X4_commonDivisor   (x0 : Int32) (x1 : Int32) : Option (Int32) :=
  f_X4_commonDivisor_b7 FU x0 x1 0
set_option maxHeartbeats 4000000 in
set_option maxRecDepth 100000 in
theorem m_X4_commonDivisor {G : GG} {l : Launch}   {x0 : Int32} {x1 : Int32} {r : Int32}  (h : f_X4_commonDivisor x0 x1 = some (r)) : Ci G l yX4_commonDivisor wsX4_commonDivisor rX4_commonDivisor [.int x0, .int x1] (fl []) r (fl []) := by
  refine Ci.intro cX4_commonDivisor 6 (some .int) RX4 (by decide) rfl rfl (Nat.le_of_ble_eq_true rfl) ?_
  intro p e s m below meth c A ls X hw hl
  obtain ⟨⟨hx, hb, hml, hown, hts⟩, hK, hr, hlk, hA⟩ := id X
  unfold f_X4_commonDivisor at h
  have hl : lv_has ls 6 [(0, .int x0), (1, .int x1)] := hl
  refine lv_iload_n hx hb dX4_commonDivisor_0 rfl (lv_at hl 0 rfl) ?_
  refine lv_istore_n (lv' := [(2, .int x0), (0, .int x0), (1, .int x1)]) hx hb dX4_commonDivisor_1 rfl hl (by decide) rfl (fun ls hl => ?_)
  refine lv_iload_n hx hb dX4_commonDivisor_2 rfl (lv_at hl 2 rfl) ?_
  refine lv_istore_n (lv' := [(3, .int x1), (2, .int x0), (0, .int x0), (1, .int x1)]) hx hb dX4_commonDivisor_3 rfl hl (by decide) rfl (fun ls hl => ?_)
  refine lv_iconst (v := 0) hx hb dX4_commonDivisor_4 (by decide) ?_
  refine lv_istore (lv' := [(4, .int 0), (3, .int x1), (2, .int x0), (0, .int x0), (1, .int x1)]) hx hb dX4_commonDivisor_5 hl (by decide) rfl (fun ls hl => ?_)
  exact w_X4_commonDivisor_b7 X FU x0 x1 0 _ _ _ h hw (lv_sub hl [2, 1, 0] rfl)
