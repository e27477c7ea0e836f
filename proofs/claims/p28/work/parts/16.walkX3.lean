def rX3_codeAt : Room := { frames := 0, cells := 0, slots := 0, locals := 0 }
theorem hd_X3_codeAt : yX3_codeAt.cls = RX3 ∧ yX3_codeAt.cls ≠ "java/lang/invoke/MethodHandle" ∧ yX3_codeAt.cls ≠ "java/lang/invoke/VarHandle" ∧ (parseMethodDescriptor yX3_codeAt.desc).map (fun d => d.parameters.length) = some 1 := by decide +kernel
theorem in_X3_codeAt_3 : ∀ w ∈ u_ws RX3 TX3 5, w ∈ wsX3_codeAt := fun w h => (List.mem_cons_of_mem _ (List.mem_append_right _ h))
noncomputable def f_X3_codeAt  (u : TV) (x1 : Int32) : Option (Int32) :=
  br (x1 < 0)
    (some ((-1)))
    (br ((T_le u) ≤ x1)
       (some ((-1)))
       (br (120 ≤ x1)
          (some ((-1)))
          (ck (vp_in x1 120) <|
           some (((T_co u) x1.toNatClampNeg)))))
set_option maxHeartbeats 4000000 in
set_option maxRecDepth 100000 in
theorem m_X3_codeAt {G : GG} {l : Launch} {t : Nat → Nat} {u : TV} {x1 : Int32} {r : Int32}  (h : f_X3_codeAt u x1 = some (r)) : Ci G l yX3_codeAt wsX3_codeAt rX3_codeAt [.ref (t 0), .int x1] (fl [tB G t u]) r (fl [tB G t u]) := by
  refine Ci.intro cX3_codeAt 2 (some .int) RX3 (by decide) rfl rfl (Nat.le_of_ble_eq_true rfl) ?_
  intro p e s m below meth c A ls X hw hl
  obtain ⟨⟨hx, hb, hml, hown, hts⟩, hK, hr, hlk, hA⟩ := id X
  unfold f_X3_codeAt at h
  have hl : lv_has ls 2 [(0, .ref (t 0)), (1, .int x1)] := hl
  refine lv_iload_n hx hb dX3_codeAt_0 rfl (lv_at hl 1 rfl) ?_
  refine lv_if_lt (tgt := 27) hx hb dX3_codeAt_1 (by decide) (fun k_1 => ?_) (fun k_1 => ?_)
  · have h := br_yes h k_1
    refine lv_iconst (v := (-1)) hx hb dX3_codeAt_27 (by decide) ?_
    cases h
    exact x_iret X (vp_nar_int _) hw rfl rfl dX3_codeAt_28
  · have h := br_no h k_1
    refine lv_iload_n hx hb dX3_codeAt_4 rfl (lv_at hl 1 rfl) ?_
    refine lv_aload_n hx hb dX3_codeAt_5 rfl (lv_at hl 0 rfl) ?_
    refine x_get (v := .int (T_le u)) 0 0 X hw in_X3_codeAt_3 rfl rfl rfl 1 (by decide) (List.mem_of_getElem? (i := 1) rfl) rfl rfl dX3_codeAt_6 ?_
    refine lv_icmp_ge (tgt := 27) hx hb dX3_codeAt_9 (by decide) (fun k_2 => ?_) (fun k_2 => ?_)
    · have h := br_yes h k_2
      refine lv_iconst (v := (-1)) hx hb dX3_codeAt_27 (by decide) ?_
      cases h
      exact x_iret X (vp_nar_int _) hw rfl rfl dX3_codeAt_28
    · have h := br_no h k_2
      refine lv_iload_n hx hb dX3_codeAt_12 rfl (lv_at hl 1 rfl) ?_
      refine lv_bipush (v := 120) hx hb dX3_codeAt_13 (by decide) ?_
      refine lv_icmp_ge (tgt := 27) hx hb dX3_codeAt_15 (by decide) (fun k_3 => ?_) (fun k_3 => ?_)
      · have h := br_yes h k_3
        refine lv_iconst (v := (-1)) hx hb dX3_codeAt_27 (by decide) ?_
        cases h
        exact x_iret X (vp_nar_int _) hw rfl rfl dX3_codeAt_28
      · have h := br_no h k_3
        refine lv_aload_n hx hb dX3_codeAt_18 rfl (lv_at hl 0 rfl) ?_
        refine x_get (v := .ref (t 1)) 0 0 X hw in_X3_codeAt_3 rfl rfl rfl 0 (by decide) (List.mem_of_getElem? (i := 2) rfl) rfl rfl dX3_codeAt_19 ?_
        refine lv_iload_n hx hb dX3_codeAt_22 rfl (lv_at hl 1 rfl) ?_
        obtain ⟨k_4, h⟩ := ck_ok h
        refine x_iald (f := (T_co u)) 0 1 X hw rfl rfl k_4 dX3_codeAt_23 ?_
        refine lv_goto (tgt := 28) hx hb dX3_codeAt_24 (by decide) ?_
        cases h
        exact x_iret X (vp_nar_int _) hw rfl rfl dX3_codeAt_28

def rX3_next : Room := { frames := 1, cells := 0, slots := 0, locals := 21 }
theorem hd_X3_next : yX3_next.cls = RX3 ∧ yX3_next.cls ≠ "java/lang/invoke/MethodHandle" ∧ yX3_next.cls ≠ "java/lang/invoke/VarHandle" ∧ (parseMethodDescriptor yX3_next.desc).map (fun d => d.parameters.length) = some 0 := by decide +kernel
theorem in_X3_next_3 : ∀ w ∈ u_ws RX3 TX3 5, w ∈ wsX3_next := fun w h => (List.mem_cons_of_mem _ (List.mem_append_right _ h))
noncomputable def f_X3_next_b37  (u : TV) : Option (Int32 × TV) :=
  bd (f_X3_codeAt u (T_pl u)) fun r_1 =>
  some (r_1, u)
set_option maxHeartbeats 4000000 in
set_option maxRecDepth 100000 in
theorem w_X3_next_b37 {G : GG} {l : Launch} {p : Program} {e : Env} {s : State} {m : MethodId} {args : Array Value} {below : List Frame} {meth : Method} {c : Code} {A : Nat → Prop} {t : Nat → Nat}  {r : Int32} {zu : TV}   (X : Cx p s m args meth c cX3_next 2 (some .int) wsX3_next RX3 G A)  :
    ∀ (u : TV) (H : Heap) (locs : List Loc) (ls : Array Slot), f_X3_next_b37 u = some (r, zu) → Wd G A s H locs (fl [tB G t u]) → lv_has ls 2 [(0, .ref (t 0))] → W p l e rX3_next s m args below meth c H locs 0 0 (MQ below (Qi G A r (fl [tB G t zu])) args s 0 0 A) (F0 m 37 ls []) := by
  obtain ⟨⟨hx, hb, hml, hown, hts⟩, hK, hr, hlk, hA⟩ := id X
  intro u H locs ls h hw hl
  unfold f_X3_next_b37 at h
  refine lv_aload_n hx hb dX3_next_37 rfl (lv_at hl 0 rfl) ?_
  refine lv_aload_n hx hb dX3_next_38 rfl (lv_at hl 0 rfl) ?_
  refine x_get (v := .int (T_pl u)) 0 0 X hw in_X3_next_3 rfl rfl rfl 3 (by decide) (List.mem_of_getElem? (i := 1) rfl) rfl rfl dX3_next_39 ?_
  obtain ⟨r_1, c_2, h⟩ := bd_ok h
  refine x_Vi (As := [.int (T_pl u)]) (w' := fl [tB G t u]) X hw (m_X3_codeAt (G := G) (l := l) (t := t) c_2) Cut.all 0 0 rfl rfl rfl (cwV 1 hts gX3_next_X3_codeAt rfl rfl rfl hd_X3_codeAt ⟨Nat.le_of_ble_eq_true rfl, Nat.le_of_ble_eq_true rfl⟩) rfl hl.1 rfl (Nat.le_of_ble_eq_true rfl) dX3_next_42 ⟨Nat.le_of_ble_eq_true rfl, Nat.le_of_ble_eq_true rfl⟩ (fun H locs hw => ?_)
  cases h
  exact x_iret X (vp_nar_int _) hw rfl rfl dX3_next_45
noncomputable def f_X3_next_b2   : Nat → TV → Int32 → Option (Int32 × TV)
  | 0 => fun _ _ => none
  | n + 1 => fun u x1 =>
    br (120 ≤ x1)
      (f_X3_next_b37 u)
      (bd (f_X3_codeAt u (T_pl u)) fun r_2 =>
       br (r_2 = 32)
         (nm (((T_pl u) + 1) : Int32) fun t_5 =>
          nm (x1 + 1 : Int32) fun t_6 =>
          f_X3_next_b2 n ((T_co u), (T_le u), (T_it u), t_5, (T_fa u)) t_6)
         (f_X3_next_b37 u))
set_option maxHeartbeats 4000000 in
set_option maxRecDepth 100000 in
theorem w_X3_next_b2 {G : GG} {l : Launch} {p : Program} {e : Env} {s : State} {m : MethodId} {args : Array Value} {below : List Frame} {meth : Method} {c : Code} {A : Nat → Prop} {t : Nat → Nat}  {r : Int32} {zu : TV}   (X : Cx p s m args meth c cX3_next 2 (some .int) wsX3_next RX3 G A)  :
    ∀ (n : Nat) (u : TV) (x1 : Int32) (H : Heap) (locs : List Loc) (ls : Array Slot), f_X3_next_b2 n u x1 = some (r, zu) → Wd G A s H locs (fl [tB G t u]) → lv_has ls 2 [(0, .ref (t 0)), (1, .int x1)] → W p l e rX3_next s m args below meth c H locs 0 0 (MQ below (Qi G A r (fl [tB G t zu])) args s 0 0 A) (F0 m 2 ls []) := by
  obtain ⟨⟨hx, hb, hml, hown, hts⟩, hK, hr, hlk, hA⟩ := id X
  intro n
  induction n with
  | zero =>
    intro u x1 H locs ls h
    rw [f_X3_next_b2] at h
    cases h
  | succ n ih =>
    intro u x1 H locs ls h hw hl
    rw [f_X3_next_b2] at h
    refine lv_iload_n hx hb dX3_next_2 rfl (lv_at hl 1 rfl) ?_
    refine lv_bipush (v := 120) hx hb dX3_next_3 (by decide) ?_
    refine lv_icmp_ge (tgt := 37) hx hb dX3_next_5 (by decide) (fun k_1 => ?_) (fun k_1 => ?_)
    · have h := br_yes h k_1
      exact w_X3_next_b37 X u _ _ _ h hw (lv_sub hl [0] rfl)
    · have h := br_no h k_1
      refine lv_aload_n hx hb dX3_next_8 rfl (lv_at hl 0 rfl) ?_
      refine lv_aload_n hx hb dX3_next_9 rfl (lv_at hl 0 rfl) ?_
      refine x_get (v := .int (T_pl u)) 0 0 X hw in_X3_next_3 rfl rfl rfl 3 (by decide) (List.mem_of_getElem? (i := 1) rfl) rfl rfl dX3_next_10 ?_
      obtain ⟨r_2, c_3, h⟩ := bd_ok h
      refine x_Vi (As := [.int (T_pl u)]) (w' := fl [tB G t u]) X hw (m_X3_codeAt (G := G) (l := l) (t := t) c_3) Cut.all 0 0 rfl rfl rfl (cwV 1 hts gX3_next_X3_codeAt rfl rfl rfl hd_X3_codeAt ⟨Nat.le_of_ble_eq_true rfl, Nat.le_of_ble_eq_true rfl⟩) rfl hl.1 rfl (Nat.le_of_ble_eq_true rfl) dX3_next_13 ⟨Nat.le_of_ble_eq_true rfl, Nat.le_of_ble_eq_true rfl⟩ (fun H locs hw => ?_)
      refine lv_bipush (v := 32) hx hb dX3_next_16 (by decide) ?_
      refine lv_icmp_ne (tgt := 37) hx hb dX3_next_18 (by decide) (fun k_4 => ?_) (fun k_4 => ?_)
      · have h := br_no h k_4
        exact w_X3_next_b37 X u _ _ _ h hw (lv_sub hl [0] rfl)
      · have h := br_yes h k_4
        refine lv_aload_n hx hb dX3_next_21 rfl (lv_at hl 0 rfl) ?_
        refine lv_dup hx hb dX3_next_22 rfl ?_
        refine x_get (v := .int (T_pl u)) 0 0 X hw in_X3_next_3 rfl rfl rfl 3 (by decide) (List.mem_of_getElem? (i := 1) rfl) rfl rfl dX3_next_23 ?_
        refine lv_iconst (v := 1) hx hb dX3_next_26 (by decide) ?_
        refine lv_iadd hx hb dX3_next_27 ?_
        obtain ⟨t_5, et_5, h⟩ := nm_ok h
        refine x_put (bs' := [tB G t ((T_co u), (T_le u), (T_it u), t_5, (T_fa u))]) 0 0 X hw in_X3_next_3 tyX3 tyX3_ok nmX3 rfl rfl rfl 3 (by decide) (List.mem_of_getElem? (i := 1) rfl) rfl rfl rfl rfl (Nat.le_of_ble_eq_true rfl) dX3_next_28 (by rw [et_5]; rfl) (fun H locs hw => ?_)
        obtain ⟨t_6, et_6, h⟩ := nm_ok h
        refine lv_iinc (v := t_6) (lv' := [(1, .int t_6), (0, .ref (t 0))]) hx hb dX3_next_31 hl (k := 1) rfl (by rw [et_6]; rfl) (by decide) rfl (fun ls hl => ?_)
        refine lv_goto (tgt := 2) hx hb dX3_next_34 (by decide) ?_
        exact ih ((T_co u), (T_le u), (T_it u), t_5, (T_fa u)) t_6 _ _ _ h hw (lv_sub hl [1, 0] rfl)
noncomputable def f_X3_next  (u : TV)  : Option (Int32 × TV) :=
  f_X3_next_b2 FU u 0
set_option maxHeartbeats 4000000 in
set_option maxRecDepth 100000 in
theorem m_X3_next {G : GG} {l : Launch} {t : Nat → Nat} {u : TV}  {r : Int32} {zu : TV} (h : f_X3_next u = some (r, zu)) : Ci G l yX3_next wsX3_next rX3_next [.ref (t 0)] (fl [tB G t u]) r (fl [tB G t zu]) := by
  refine Ci.intro cX3_next 2 (some .int) RX3 (by decide) rfl rfl (Nat.le_of_ble_eq_true rfl) ?_
  intro p e s m below meth c A ls X hw hl
  obtain ⟨⟨hx, hb, hml, hown, hts⟩, hK, hr, hlk, hA⟩ := id X
  unfold f_X3_next at h
  have hl : lv_has ls 2 [(0, .ref (t 0))] := hl
  refine lv_iconst (v := 0) hx hb dX3_next_0 (by decide) ?_
  refine lv_istore_n (lv' := [(1, .int 0), (0, .ref (t 0))]) hx hb dX3_next_1 rfl hl (by decide) rfl (fun ls hl => ?_)
  exact w_X3_next_b2 X FU u 0 _ _ _ h hw (lv_sub hl [1, 0] rfl)

def rX3_isDigit : Room := { frames := 0, cells := 0, slots := 0, locals := 0 }
theorem hd_X3_isDigit : yX3_isDigit.cls = RX3 ∧ yX3_isDigit.cls ≠ "java/lang/invoke/MethodHandle" ∧ yX3_isDigit.cls ≠ "java/lang/invoke/VarHandle" ∧ (parseMethodDescriptor yX3_isDigit.desc).map (fun d => d.parameters.length) = some 1 := by decide +kernel
noncomputable def f_X3_isDigit   (x0 : Int32) : Option (Int32) :=
  br (x0 < 48)
    (some (0))
    (br (57 < x0)
       (some (0))
       (some (1)))
set_option maxHeartbeats 4000000 in
set_option maxRecDepth 100000 in
theorem m_X3_isDigit {G : GG} {l : Launch}   {x0 : Int32} {r : Int32}  (h : f_X3_isDigit x0 = some (r)) : Ci G l yX3_isDigit wsX3_isDigit rX3_isDigit [.int x0] (fl []) r (fl []) := by
  refine Ci.intro cX3_isDigit 1 (some .boolean) RX3 (by decide) rfl rfl (Nat.le_of_ble_eq_true rfl) ?_
  intro p e s m below meth c A ls X hw hl
  obtain ⟨⟨hx, hb, hml, hown, hts⟩, hK, hr, hlk, hA⟩ := id X
  unfold f_X3_isDigit at h
  have hl : lv_has ls 1 [(0, .int x0)] := hl
  refine lv_iload_n hx hb dX3_isDigit_0 rfl (lv_at hl 0 rfl) ?_
  refine lv_bipush (v := 48) hx hb dX3_isDigit_1 (by decide) ?_
  refine lv_icmp_lt (tgt := 16) hx hb dX3_isDigit_3 (by decide) (fun k_1 => ?_) (fun k_1 => ?_)
  · have h := br_yes h k_1
    refine lv_iconst (v := 0) hx hb dX3_isDigit_16 (by decide) ?_
    cases h
    exact x_iret X (narz (Or.inl rfl)) hw rfl rfl dX3_isDigit_17
  · have h := br_no h k_1
    refine lv_iload_n hx hb dX3_isDigit_6 rfl (lv_at hl 0 rfl) ?_
    refine lv_bipush (v := 57) hx hb dX3_isDigit_7 (by decide) ?_
    refine lv_icmp_gt (tgt := 16) hx hb dX3_isDigit_9 (by decide) (fun k_2 => ?_) (fun k_2 => ?_)
    · have h := br_yes h k_2
      refine lv_iconst (v := 0) hx hb dX3_isDigit_16 (by decide) ?_
      cases h
      exact x_iret X (narz (Or.inl rfl)) hw rfl rfl dX3_isDigit_17
    · have h := br_no h k_2
      refine lv_iconst (v := 1) hx hb dX3_isDigit_12 (by decide) ?_
      refine lv_goto (tgt := 17) hx hb dX3_isDigit_13 (by decide) ?_
      cases h
      exact x_iret X (narz (Or.inr rfl)) hw rfl rfl dX3_isDigit_17

def rX3_readNumber : Room := { frames := 2, cells := 0, slots := 0, locals := 42 }
theorem hd_X3_readNumber : yX3_readNumber.cls = RX3 ∧ yX3_readNumber.cls ≠ "java/lang/invoke/MethodHandle" ∧ yX3_readNumber.cls ≠ "java/lang/invoke/VarHandle" ∧ (parseMethodDescriptor yX3_readNumber.desc).map (fun d => d.parameters.length) = some 2 := by decide +kernel
theorem in_X3_readNumber_3 : ∀ w ∈ u_ws RX3 TX3 5, w ∈ wsX3_readNumber := fun w h => (List.mem_cons_of_mem _ (List.mem_append_right _ h))
noncomputable def f_X3_readNumber_b115  (u : TV) (x3 : Int32) (x6 : Int32) : Option (Int32 × TV) :=
  some (x3, ((T_co u), (T_le u), (T_it u), (T_pl u), x6))
set_option maxHeartbeats 4000000 in
set_option maxRecDepth 100000 in
theorem w_X3_readNumber_b115 {G : GG} {l : Launch} {p : Program} {e : Env} {s : State} {m : MethodId} {args : Array Value} {below : List Frame} {meth : Method} {c : Code} {A : Nat → Prop} {t : Nat → Nat}  {r : Int32} {zu : TV}   (X : Cx p s m args meth c cX3_readNumber 8 (some .int) wsX3_readNumber RX3 G A)  :
    ∀ (u : TV) (x3 : Int32) (x6 : Int32) (H : Heap) (locs : List Loc) (ls : Array Slot), f_X3_readNumber_b115 u x3 x6 = some (r, zu) → Wd G A s H locs (fl [tB G t u]) → lv_has ls 8 [(0, .ref (t 0)), (3, .int x3), (6, .int x6)] → W p l e rX3_readNumber s m args below meth c H locs 0 0 (MQ below (Qi G A r (fl [tB G t zu])) args s 0 0 A) (F0 m 115 ls []) := by
  obtain ⟨⟨hx, hb, hml, hown, hts⟩, hK, hr, hlk, hA⟩ := id X
  intro u x3 x6 H locs ls h hw hl
  unfold f_X3_readNumber_b115 at h
  refine lv_aload_n hx hb dX3_readNumber_115 rfl (lv_at hl 0 rfl) ?_
  refine lv_iload hx hb dX3_readNumber_116 (lv_at hl 2 rfl) ?_
  refine x_put (bs' := [tB G t ((T_co u), (T_le u), (T_it u), (T_pl u), x6)]) 0 0 X hw in_X3_readNumber_3 tyX3 tyX3_ok nmX3 rfl rfl rfl 4 (by decide) (List.mem_of_getElem? (i := 1) rfl) rfl rfl rfl rfl (Nat.le_of_ble_eq_true rfl) dX3_readNumber_118 rfl (fun H locs hw => ?_)
  refine lv_iload_n hx hb dX3_readNumber_121 rfl (lv_at hl 1 rfl) ?_
  cases h
  exact x_iret X (vp_nar_int _) hw rfl rfl dX3_readNumber_122
noncomputable def f_X3_readNumber_b95  (u : TV) (x1 : Int32) (x2 : Int32) (x3 : Int32) (x4 : Int32) (x6 : Int32) : Option (Int32 × TV) :=
  br (x4 = 0)
    (f_X3_readNumber_b115 u x3 x6)
    (br (4 < x4)
       (f_X3_readNumber_b115 u x3 x6)
       (bd (f_X4_isWithin x3 x1 x2) fun r_3 =>
        br (r_3 = 0)
          (f_X3_readNumber_b115 u x3 x6)
          (some (x3, u))))
set_option maxHeartbeats 4000000 in
set_option maxRecDepth 100000 in
theorem w_X3_readNumber_b95 {G : GG} {l : Launch} {p : Program} {e : Env} {s : State} {m : MethodId} {args : Array Value} {below : List Frame} {meth : Method} {c : Code} {A : Nat → Prop} {t : Nat → Nat}  {r : Int32} {zu : TV}   (X : Cx p s m args meth c cX3_readNumber 8 (some .int) wsX3_readNumber RX3 G A)  :
    ∀ (u : TV) (x1 : Int32) (x2 : Int32) (x3 : Int32) (x4 : Int32) (x6 : Int32) (H : Heap) (locs : List Loc) (ls : Array Slot), f_X3_readNumber_b95 u x1 x2 x3 x4 x6 = some (r, zu) → Wd G A s H locs (fl [tB G t u]) → lv_has ls 8 [(0, .ref (t 0)), (1, .int x1), (2, .int x2), (3, .int x3), (4, .int x4), (6, .int x6)] → W p l e rX3_readNumber s m args below meth c H locs 0 0 (MQ below (Qi G A r (fl [tB G t zu])) args s 0 0 A) (F0 m 95 ls []) := by
  obtain ⟨⟨hx, hb, hml, hown, hts⟩, hK, hr, hlk, hA⟩ := id X
  intro u x1 x2 x3 x4 x6 H locs ls h hw hl
  unfold f_X3_readNumber_b95 at h
  refine lv_iload hx hb dX3_readNumber_95 (lv_at hl 4 rfl) ?_
  refine lv_if_eq (tgt := 115) hx hb dX3_readNumber_97 (by decide) (fun k_1 => ?_) (fun k_1 => ?_)
  · have h := br_yes h k_1
    exact w_X3_readNumber_b115 X u x3 x6 _ _ _ h hw (lv_sub hl [0, 3, 5] rfl)
  · have h := br_no h k_1
    refine lv_iload hx hb dX3_readNumber_100 (lv_at hl 4 rfl) ?_
    refine lv_iconst (v := 4) hx hb dX3_readNumber_102 (by decide) ?_
    refine lv_icmp_gt (tgt := 115) hx hb dX3_readNumber_103 (by decide) (fun k_2 => ?_) (fun k_2 => ?_)
    · have h := br_yes h k_2
      exact w_X3_readNumber_b115 X u x3 x6 _ _ _ h hw (lv_sub hl [0, 3, 5] rfl)
    · have h := br_no h k_2
      refine lv_iload_n hx hb dX3_readNumber_106 rfl (lv_at hl 3 rfl) ?_
      refine lv_iload_n hx hb dX3_readNumber_107 rfl (lv_at hl 1 rfl) ?_
      refine lv_iload_n hx hb dX3_readNumber_108 rfl (lv_at hl 2 rfl) ?_
      obtain ⟨r_3, c_4, h⟩ := bd_ok h
      refine x_Ni (As := [.int x3, .int x1, .int x2]) (w' := fl [tB G t u]) X hw (m_X4_isWithin (G := G) (l := l) c_4) Cut.nil ⟨va_cnB 3 hts gX3_readNumber_X4_isWithin_n85 rfl rfl rfl (hK.2.1 _ (List.mem_of_getElem? (i := 9) rfl)) (hts _ (List.mem_of_getElem? (i := 18) rfl)) hd_X4_isWithin.2 ⟨Nat.le_of_ble_eq_true rfl, Nat.le_of_ble_eq_true rfl⟩, hts _ (List.mem_of_getElem? (i := 17) rfl), trivial⟩ rfl hl.1 rfl (Nat.le_of_ble_eq_true rfl) dX3_readNumber_109 ⟨Nat.le_of_ble_eq_true rfl, Nat.le_of_ble_eq_true rfl⟩ (fun H locs hw => ?_)
      refine lv_if_ne (tgt := 121) hx hb dX3_readNumber_112 (by decide) (fun k_5 => ?_) (fun k_5 => ?_)
      · have h := br_no h k_5
        refine lv_iload_n hx hb dX3_readNumber_121 rfl (lv_at hl 3 rfl) ?_
        cases h
        exact x_iret X (vp_nar_int _) hw rfl rfl dX3_readNumber_122
      · have h := br_yes h k_5
        exact w_X3_readNumber_b115 X u x3 x6 _ _ _ h hw (lv_sub hl [0, 3, 5] rfl)
noncomputable def f_X3_readNumber_b65  (k30 : TV → Int32 → Int32 → Int32 → Int32 → Option (Int32 × TV)) (x1 : Int32) (x2 : Int32) (x6 : Int32) (u : TV) (x4 : Int32) (x7 : Int32) (y0 : Int32) : Option (Int32 × TV) :=
  nm (x4 + 1 : Int32) fun t_1 =>
  nm (((T_pl u) + 1) : Int32) fun t_2 =>
  bd (f_X3_codeAt ((T_co u), (T_le u), (T_it u), t_2, (T_fa u)) t_2) fun r_3 =>
  nm (x7 + 1 : Int32) fun t_5 =>
  k30 ((T_co u), (T_le u), (T_it u), t_2, (T_fa u)) y0 t_1 r_3 t_5
set_option maxHeartbeats 4000000 in
set_option maxRecDepth 100000 in
theorem w_X3_readNumber_b65 {G : GG} {l : Launch} {p : Program} {e : Env} {s : State} {m : MethodId} {args : Array Value} {below : List Frame} {meth : Method} {c : Code} {A : Nat → Prop} {t : Nat → Nat} {x1 : Int32} {x2 : Int32} {x6 : Int32} {r : Int32} {zu : TV}  {k30 : TV → Int32 → Int32 → Int32 → Int32 → Option (Int32 × TV)} (X : Cx p s m args meth c cX3_readNumber 8 (some .int) wsX3_readNumber RX3 G A) (hk30 : ∀ (u : TV) (x3 : Int32) (x4 : Int32) (x5 : Int32) (x7 : Int32) (H : Heap) (locs : List Loc) (ls : Array Slot), k30 u x3 x4 x5 x7 = some (r, zu) → Wd G A s H locs (fl [tB G t u]) → lv_has ls 8 [(0, .ref (t 0)), (1, .int x1), (2, .int x2), (3, .int x3), (4, .int x4), (5, .int x5), (6, .int x6), (7, .int x7)] → W p l e rX3_readNumber s m args below meth c H locs 0 0 (MQ below (Qi G A r (fl [tB G t zu])) args s 0 0 A) (F0 m 30 ls [])) :
    ∀ (u : TV) (x4 : Int32) (x7 : Int32) (y0 : Int32) (H : Heap) (locs : List Loc) (ls : Array Slot), f_X3_readNumber_b65 k30 x1 x2 x6 u x4 x7 y0 = some (r, zu) → Wd G A s H locs (fl [tB G t u]) → lv_has ls 8 [(0, .ref (t 0)), (1, .int x1), (2, .int x2), (4, .int x4), (6, .int x6), (7, .int x7)] → W p l e rX3_readNumber s m args below meth c H locs 0 0 (MQ below (Qi G A r (fl [tB G t zu])) args s 0 0 A) (F0 m 65 ls [.int y0]) := by
  obtain ⟨⟨hx, hb, hml, hown, hts⟩, hK, hr, hlk, hA⟩ := id X
  intro u x4 x7 y0 H locs ls h hw hl
  unfold f_X3_readNumber_b65 at h
  refine lv_istore_n (lv' := [(3, .int y0), (0, .ref (t 0)), (1, .int x1), (2, .int x2), (4, .int x4), (6, .int x6), (7, .int x7)]) hx hb dX3_readNumber_65 rfl hl (by decide) rfl (fun ls hl => ?_)
  obtain ⟨t_1, et_1, h⟩ := nm_ok h
  refine lv_iinc (v := t_1) (lv' := [(4, .int t_1), (3, .int y0), (0, .ref (t 0)), (1, .int x1), (2, .int x2), (6, .int x6), (7, .int x7)]) hx hb dX3_readNumber_66 hl (k := 4) rfl (by rw [et_1]; rfl) (by decide) rfl (fun ls hl => ?_)
  refine lv_aload_n hx hb dX3_readNumber_69 rfl (lv_at hl 2 rfl) ?_
  refine lv_dup hx hb dX3_readNumber_70 rfl ?_
  refine x_get (v := .int (T_pl u)) 0 0 X hw in_X3_readNumber_3 rfl rfl rfl 3 (by decide) (List.mem_of_getElem? (i := 2) rfl) rfl rfl dX3_readNumber_71 ?_
  refine lv_iconst (v := 1) hx hb dX3_readNumber_74 (by decide) ?_
  refine lv_iadd hx hb dX3_readNumber_75 ?_
  obtain ⟨t_2, et_2, h⟩ := nm_ok h
  refine x_put (bs' := [tB G t ((T_co u), (T_le u), (T_it u), t_2, (T_fa u))]) 0 0 X hw in_X3_readNumber_3 tyX3 tyX3_ok nmX3 rfl rfl rfl 3 (by decide) (List.mem_of_getElem? (i := 2) rfl) rfl rfl rfl rfl (Nat.le_of_ble_eq_true rfl) dX3_readNumber_76 (by rw [et_2]; rfl) (fun H locs hw => ?_)
  refine lv_aload_n hx hb dX3_readNumber_79 rfl (lv_at hl 2 rfl) ?_
  refine lv_aload_n hx hb dX3_readNumber_80 rfl (lv_at hl 2 rfl) ?_
  refine x_get (v := .int t_2) 0 0 X hw in_X3_readNumber_3 rfl rfl rfl 3 (by decide) (List.mem_of_getElem? (i := 2) rfl) rfl rfl dX3_readNumber_81 ?_
  obtain ⟨r_3, c_4, h⟩ := bd_ok h
  refine x_Vi (As := [.int t_2]) (w' := fl [tB G t ((T_co u), (T_le u), (T_it u), t_2, (T_fa u))]) X hw (m_X3_codeAt (G := G) (l := l) (t := t) c_4) Cut.all 0 0 rfl rfl rfl (cwV 1 hts gX3_readNumber_X3_codeAt rfl rfl rfl hd_X3_codeAt ⟨Nat.le_of_ble_eq_true rfl, Nat.le_of_ble_eq_true rfl⟩) rfl hl.1 rfl (Nat.le_of_ble_eq_true rfl) dX3_readNumber_84 ⟨Nat.le_of_ble_eq_true rfl, Nat.le_of_ble_eq_true rfl⟩ (fun H locs hw => ?_)
  refine lv_istore (lv' := [(5, .int r_3), (4, .int t_1), (3, .int y0), (0, .ref (t 0)), (1, .int x1), (2, .int x2), (6, .int x6), (7, .int x7)]) hx hb dX3_readNumber_87 hl (by decide) rfl (fun ls hl => ?_)
  obtain ⟨t_5, et_5, h⟩ := nm_ok h
  refine lv_iinc (v := t_5) (lv' := [(7, .int t_5), (5, .int r_3), (4, .int t_1), (3, .int y0), (0, .ref (t 0)), (1, .int x1), (2, .int x2), (6, .int x6)]) hx hb dX3_readNumber_89 hl (k := 7) rfl (by rw [et_5]; rfl) (by decide) rfl (fun ls hl => ?_)
  refine lv_goto (tgt := 30) hx hb dX3_readNumber_92 (by decide) ?_
  exact hk30 ((T_co u), (T_le u), (T_it u), t_2, (T_fa u)) y0 t_1 r_3 t_5 _ _ _ h hw (lv_sub hl [4, 5, 6, 3, 2, 1, 7, 0] rfl)
noncomputable def f_X3_readNumber_b30  (x1 : Int32) (x2 : Int32) (x6 : Int32) : Nat → TV → Int32 → Int32 → Int32 → Int32 → Option (Int32 × TV)
  | 0 => fun _ _ _ _ _ => none
  | n + 1 => fun u x3 x4 x5 x7 =>
    br (120 ≤ x7)
      (f_X3_readNumber_b95 u x1 x2 x3 x4 x6)
      (bd (f_X3_isDigit x5) fun r_2 =>
       br (r_2 = 0)
         (f_X3_readNumber_b95 u x1 x2 x3 x4 x6)
         (br (4 ≤ x4)
            (f_X3_readNumber_b65 (f_X3_readNumber_b30 x1 x2 x6 n) x1 x2 x6 u x4 x7 x3)
            (f_X3_readNumber_b65 (f_X3_readNumber_b30 x1 x2 x6 n) x1 x2 x6 u x4 x7 (((10 * x3) + x5) - 48))))
set_option maxHeartbeats 4000000 in
set_option maxRecDepth 100000 in
theorem w_X3_readNumber_b30 {G : GG} {l : Launch} {p : Program} {e : Env} {s : State} {m : MethodId} {args : Array Value} {below : List Frame} {meth : Method} {c : Code} {A : Nat → Prop} {t : Nat → Nat} {x1 : Int32} {x2 : Int32} {x6 : Int32} {r : Int32} {zu : TV}   (X : Cx p s m args meth c cX3_readNumber 8 (some .int) wsX3_readNumber RX3 G A)  :
    ∀ (n : Nat) (u : TV) (x3 : Int32) (x4 : Int32) (x5 : Int32) (x7 : Int32) (H : Heap) (locs : List Loc) (ls : Array Slot), f_X3_readNumber_b30 x1 x2 x6 n u x3 x4 x5 x7 = some (r, zu) → Wd G A s H locs (fl [tB G t u]) → lv_has ls 8 [(0, .ref (t 0)), (1, .int x1), (2, .int x2), (3, .int x3), (4, .int x4), (5, .int x5), (6, .int x6), (7, .int x7)] → W p l e rX3_readNumber s m args below meth c H locs 0 0 (MQ below (Qi G A r (fl [tB G t zu])) args s 0 0 A) (F0 m 30 ls []) := by
  obtain ⟨⟨hx, hb, hml, hown, hts⟩, hK, hr, hlk, hA⟩ := id X
  intro n
  induction n with
  | zero =>
    intro u x3 x4 x5 x7 H locs ls h
    rw [f_X3_readNumber_b30] at h
    cases h
  | succ n ih =>
    intro u x3 x4 x5 x7 H locs ls h hw hl
    rw [f_X3_readNumber_b30] at h
    refine lv_iload hx hb dX3_readNumber_30 (lv_at hl 7 rfl) ?_
    refine lv_bipush (v := 120) hx hb dX3_readNumber_32 (by decide) ?_
    refine lv_icmp_ge (tgt := 95) hx hb dX3_readNumber_34 (by decide) (fun k_1 => ?_) (fun k_1 => ?_)
    · have h := br_yes h k_1
      exact w_X3_readNumber_b95 X u x1 x2 x3 x4 x6 _ _ _ h hw (lv_sub hl [0, 1, 2, 3, 4, 6] rfl)
    · have h := br_no h k_1
      refine lv_iload hx hb dX3_readNumber_37 (lv_at hl 5 rfl) ?_
      obtain ⟨r_2, c_3, h⟩ := bd_ok h
      refine x_Si (As := [.int x5]) (w' := fl [tB G t u]) X hw (m_X3_isDigit (G := G) (l := l) c_3) Cut.nil (va_cwS 1 hts gX3_readNumber_X3_isDigit rfl rfl rfl hd_X3_isDigit.2 ⟨Nat.le_of_ble_eq_true rfl, Nat.le_of_ble_eq_true rfl⟩) rfl hl.1 rfl (Nat.le_of_ble_eq_true rfl) dX3_readNumber_39 ⟨Nat.le_of_ble_eq_true rfl, Nat.le_of_ble_eq_true rfl⟩ (fun H locs hw => ?_)
      refine lv_if_eq (tgt := 95) hx hb dX3_readNumber_42 (by decide) (fun k_4 => ?_) (fun k_4 => ?_)
      · have h := br_yes h k_4
        exact w_X3_readNumber_b95 X u x1 x2 x3 x4 x6 _ _ _ h hw (lv_sub hl [0, 1, 2, 3, 4, 6] rfl)
      · have h := br_no h k_4
        refine lv_iload hx hb dX3_readNumber_45 (lv_at hl 4 rfl) ?_
        refine lv_iconst (v := 4) hx hb dX3_readNumber_47 (by decide) ?_
        refine lv_icmp_ge (tgt := 64) hx hb dX3_readNumber_48 (by decide) (fun k_5 => ?_) (fun k_5 => ?_)
        · have h := br_yes h k_5
          refine lv_iload_n hx hb dX3_readNumber_64 rfl (lv_at hl 3 rfl) ?_
          exact w_X3_readNumber_b65 X ih u x4 x7 x3 _ _ _ h hw (lv_sub hl [0, 1, 2, 4, 6, 7] rfl)
        · have h := br_no h k_5
          refine lv_bipush (v := 10) hx hb dX3_readNumber_51 (by decide) ?_
          refine lv_iload_n hx hb dX3_readNumber_53 rfl (lv_at hl 3 rfl) ?_
          refine lv_imul hx hb dX3_readNumber_54 ?_
          refine lv_iload hx hb dX3_readNumber_55 (lv_at hl 5 rfl) ?_
          refine lv_iadd hx hb dX3_readNumber_57 ?_
          refine lv_bipush (v := 48) hx hb dX3_readNumber_58 (by decide) ?_
          refine lv_isub hx hb dX3_readNumber_60 ?_
          refine lv_goto (tgt := 65) hx hb dX3_readNumber_61 (by decide) ?_
          exact w_X3_readNumber_b65 X ih u x4 x7 (((10 * x3) + x5) - 48) _ _ _ h hw (lv_sub hl [0, 1, 2, 4, 6, 7] rfl)
noncomputable def f_X3_readNumber  (u : TV) (x1 : Int32) (x2 : Int32) : Option (Int32 × TV) :=
  br ((T_fa u) = (-1))
    (bd2 (f_X3_next u) fun r_2 u_3 =>
     f_X3_readNumber_b30 x1 x2 (T_pl u_3) FU u_3 0 0 r_2 0)
    (some (0, u))
set_option maxHeartbeats 4000000 in
set_option maxRecDepth 100000 in
theorem m_X3_readNumber {G : GG} {l : Launch} {t : Nat → Nat} {u : TV} {x1 : Int32} {x2 : Int32} {r : Int32} {zu : TV} (h : f_X3_readNumber u x1 x2 = some (r, zu)) : Ci G l yX3_readNumber wsX3_readNumber rX3_readNumber [.ref (t 0), .int x1, .int x2] (fl [tB G t u]) r (fl [tB G t zu]) := by
  refine Ci.intro cX3_readNumber 8 (some .int) RX3 (by decide) rfl rfl (Nat.le_of_ble_eq_true rfl) ?_
  intro p e s m below meth c A ls X hw hl
  obtain ⟨⟨hx, hb, hml, hown, hts⟩, hK, hr, hlk, hA⟩ := id X
  unfold f_X3_readNumber at h
  have hl : lv_has ls 8 [(0, .ref (t 0)), (1, .int x1), (2, .int x2)] := hl
  refine lv_aload_n hx hb dX3_readNumber_0 rfl (lv_at hl 0 rfl) ?_
  refine x_get (v := .int (T_fa u)) 0 0 X hw in_X3_readNumber_3 rfl rfl rfl 4 (by decide) (List.mem_of_getElem? (i := 1) rfl) rfl rfl dX3_readNumber_1 ?_
  refine lv_iconst (v := (-1)) hx hb dX3_readNumber_4 (by decide) ?_
  refine lv_icmp_eq (tgt := 10) hx hb dX3_readNumber_5 (by decide) (fun k_1 => ?_) (fun k_1 => ?_)
  · have h := br_yes h k_1
    refine lv_iconst (v := 0) hx hb dX3_readNumber_10 (by decide) ?_
    refine lv_istore_n (lv' := [(3, .int 0), (0, .ref (t 0)), (1, .int x1), (2, .int x2)]) hx hb dX3_readNumber_11 rfl hl (by decide) rfl (fun ls hl => ?_)
    refine lv_iconst (v := 0) hx hb dX3_readNumber_12 (by decide) ?_
    refine lv_istore (lv' := [(4, .int 0), (3, .int 0), (0, .ref (t 0)), (1, .int x1), (2, .int x2)]) hx hb dX3_readNumber_13 hl (by decide) rfl (fun ls hl => ?_)
    refine lv_aload_n hx hb dX3_readNumber_15 rfl (lv_at hl 2 rfl) ?_
    obtain ⟨r_2, u_3, c_4, h⟩ := bd2_ok h
    refine x_Vi (As := []) (w' := fl [tB G t u_3]) X hw (m_X3_next (G := G) (l := l) (t := t) c_4) Cut.all 0 0 rfl rfl rfl (cwV 0 hts gX3_readNumber_X3_next rfl rfl rfl hd_X3_next ⟨Nat.le_of_ble_eq_true rfl, Nat.le_of_ble_eq_true rfl⟩) rfl hl.1 rfl (Nat.le_of_ble_eq_true rfl) dX3_readNumber_16 ⟨Nat.le_of_ble_eq_true rfl, Nat.le_of_ble_eq_true rfl⟩ (fun H locs hw => ?_)
    refine lv_istore (lv' := [(5, .int r_2), (4, .int 0), (3, .int 0), (0, .ref (t 0)), (1, .int x1), (2, .int x2)]) hx hb dX3_readNumber_19 hl (by decide) rfl (fun ls hl => ?_)
    refine lv_aload_n hx hb dX3_readNumber_21 rfl (lv_at hl 3 rfl) ?_
    refine x_get (v := .int (T_pl u_3)) 0 0 X hw in_X3_readNumber_3 rfl rfl rfl 3 (by decide) (List.mem_of_getElem? (i := 2) rfl) rfl rfl dX3_readNumber_22 ?_
    refine lv_istore (lv' := [(6, .int (T_pl u_3)), (5, .int r_2), (4, .int 0), (3, .int 0), (0, .ref (t 0)), (1, .int x1), (2, .int x2)]) hx hb dX3_readNumber_25 hl (by decide) rfl (fun ls hl => ?_)
    refine lv_iconst (v := 0) hx hb dX3_readNumber_27 (by decide) ?_
    refine lv_istore (lv' := [(7, .int 0), (6, .int (T_pl u_3)), (5, .int r_2), (4, .int 0), (3, .int 0), (0, .ref (t 0)), (1, .int x1), (2, .int x2)]) hx hb dX3_readNumber_28 hl (by decide) rfl (fun ls hl => ?_)
    exact w_X3_readNumber_b30 X FU u_3 0 0 r_2 0 _ _ _ h hw (lv_sub hl [5, 6, 7, 4, 3, 2, 1, 0] rfl)
  · have h := br_no h k_1
    refine lv_iconst (v := 0) hx hb dX3_readNumber_8 (by decide) ?_
    cases h
    exact x_iret X (vp_nar_int _) hw rfl rfl dX3_readNumber_9

def rX3_expect : Room := { frames := 2, cells := 0, slots := 0, locals := 42 }
theorem hd_X3_expect : yX3_expect.cls = RX3 ∧ yX3_expect.cls ≠ "java/lang/invoke/MethodHandle" ∧ yX3_expect.cls ≠ "java/lang/invoke/VarHandle" ∧ (parseMethodDescriptor yX3_expect.desc).map (fun d => d.parameters.length) = some 1 := by decide +kernel
theorem in_X3_expect_3 : ∀ w ∈ u_ws RX3 TX3 5, w ∈ wsX3_expect := fun w h => (List.mem_cons_of_mem _ (List.mem_append_right _ h))
noncomputable def f_X3_expect  (u : TV) (x1 : Int32) : Option (TV) :=
  br ((T_fa u) = (-1))
    (bd2 (f_X3_next u) fun r_2 u_3 =>
     br (r_2 = x1)
       (nm (((T_pl u_3) + 1) : Int32) fun t_6 =>
        some (((T_co u_3), (T_le u_3), (T_it u_3), t_6, (T_fa u_3))))
       (some (((T_co u_3), (T_le u_3), (T_it u_3), (T_pl u_3), (T_pl u_3)))))
    (some (u))
set_option maxHeartbeats 4000000 in
set_option maxRecDepth 100000 in
theorem m_X3_expect {G : GG} {l : Launch} {t : Nat → Nat} {u : TV} {x1 : Int32} {zu : TV} (h : f_X3_expect u x1 = some (zu)) : Cv G l yX3_expect wsX3_expect rX3_expect [.ref (t 0), .int x1] (fl [tB G t u]) (fl [tB G t zu]) := by
  refine Cv.intro cX3_expect 2 none RX3 (by decide) rfl rfl (Nat.le_of_ble_eq_true rfl) ?_
  intro p e s m below meth c A ls X hw hl
  obtain ⟨⟨hx, hb, hml, hown, hts⟩, hK, hr, hlk, hA⟩ := id X
  unfold f_X3_expect at h
  have hl : lv_has ls 2 [(0, .ref (t 0)), (1, .int x1)] := hl
  refine lv_aload_n hx hb dX3_expect_0 rfl (lv_at hl 0 rfl) ?_
  refine x_get (v := .int (T_fa u)) 0 0 X hw in_X3_expect_3 rfl rfl rfl 4 (by decide) (List.mem_of_getElem? (i := 1) rfl) rfl rfl dX3_expect_1 ?_
  refine lv_iconst (v := (-1)) hx hb dX3_expect_4 (by decide) ?_
  refine lv_icmp_eq (tgt := 9) hx hb dX3_expect_5 (by decide) (fun k_1 => ?_) (fun k_1 => ?_)
  · have h := br_yes h k_1
    refine lv_aload_n hx hb dX3_expect_9 rfl (lv_at hl 0 rfl) ?_
    obtain ⟨r_2, u_3, c_4, h⟩ := bd2_ok h
    refine x_Vi (As := []) (w' := fl [tB G t u_3]) X hw (m_X3_next (G := G) (l := l) (t := t) c_4) Cut.all 0 0 rfl rfl rfl (cwV 0 hts gX3_expect_X3_next rfl rfl rfl hd_X3_next ⟨Nat.le_of_ble_eq_true rfl, Nat.le_of_ble_eq_true rfl⟩) rfl hl.1 rfl (Nat.le_of_ble_eq_true rfl) dX3_expect_10 ⟨Nat.le_of_ble_eq_true rfl, Nat.le_of_ble_eq_true rfl⟩ (fun H locs hw => ?_)
    refine lv_iload_n hx hb dX3_expect_13 rfl (lv_at hl 1 rfl) ?_
    refine lv_icmp_ne (tgt := 30) hx hb dX3_expect_14 (by decide) (fun k_5 => ?_) (fun k_5 => ?_)
    · have h := br_no h k_5
      refine lv_aload_n hx hb dX3_expect_30 rfl (lv_at hl 0 rfl) ?_
      refine lv_aload_n hx hb dX3_expect_31 rfl (lv_at hl 0 rfl) ?_
      refine x_get (v := .int (T_pl u_3)) 0 0 X hw in_X3_expect_3 rfl rfl rfl 3 (by decide) (List.mem_of_getElem? (i := 2) rfl) rfl rfl dX3_expect_32 ?_
      refine x_put (bs' := [tB G t ((T_co u_3), (T_le u_3), (T_it u_3), (T_pl u_3), (T_pl u_3))]) 0 0 X hw in_X3_expect_3 tyX3 tyX3_ok nmX3 rfl rfl rfl 4 (by decide) (List.mem_of_getElem? (i := 1) rfl) rfl rfl rfl rfl (Nat.le_of_ble_eq_true rfl) dX3_expect_35 rfl (fun H locs hw => ?_)
      cases h
      exact x_vret X hw rfl dX3_expect_38
    · have h := br_yes h k_5
      refine lv_aload_n hx hb dX3_expect_17 rfl (lv_at hl 0 rfl) ?_
      refine lv_dup hx hb dX3_expect_18 rfl ?_
      refine x_get (v := .int (T_pl u_3)) 0 0 X hw in_X3_expect_3 rfl rfl rfl 3 (by decide) (List.mem_of_getElem? (i := 2) rfl) rfl rfl dX3_expect_19 ?_
      refine lv_iconst (v := 1) hx hb dX3_expect_22 (by decide) ?_
      refine lv_iadd hx hb dX3_expect_23 ?_
      obtain ⟨t_6, et_6, h⟩ := nm_ok h
      refine x_put (bs' := [tB G t ((T_co u_3), (T_le u_3), (T_it u_3), t_6, (T_fa u_3))]) 0 0 X hw in_X3_expect_3 tyX3 tyX3_ok nmX3 rfl rfl rfl 3 (by decide) (List.mem_of_getElem? (i := 2) rfl) rfl rfl rfl rfl (Nat.le_of_ble_eq_true rfl) dX3_expect_24 (by rw [et_6]; rfl) (fun H locs hw => ?_)
      refine lv_goto (tgt := 38) hx hb dX3_expect_27 (by decide) ?_
      cases h
      exact x_vret X hw rfl dX3_expect_38
  · have h := br_no h k_1
    cases h
    exact x_vret X hw rfl dX3_expect_8

def rX3_readSection : Room := { frames := 3, cells := 0, slots := 0, locals := 69 }
theorem hd_X3_readSection : yX3_readSection.cls = RX3 ∧ yX3_readSection.cls ≠ "java/lang/invoke/MethodHandle" ∧ yX3_readSection.cls ≠ "java/lang/invoke/VarHandle" ∧ (parseMethodDescriptor yX3_readSection.desc).map (fun d => d.parameters.length) = some 2 := by decide +kernel
theorem in_X3_readSection_3 : ∀ w ∈ u_ws RX3 TX3 5, w ∈ wsX3_readSection := fun w h => (List.mem_cons_of_mem _ (List.mem_append_left _ (List.mem_append_right _ h)))
noncomputable def f_X3_readSection_b65  (u : TV) (v : CV) (x2 : Int32) (x3 : Int32) (x4 : Int32) (x5 : Int32) : Option (TV × CV) :=
  br ((T_fa u) = (-1))
    (bd2 (f_X0_append v x3 x4 x5 x2) fun r_2 v_3 =>
     some (u, v_3))
    (some (u, v))
set_option maxHeartbeats 4000000 in
set_option maxRecDepth 100000 in
theorem w_X3_readSection_b65 {G : GG} {l : Launch} {p : Program} {e : Env} {s : State} {m : MethodId} {args : Array Value} {below : List Frame} {meth : Method} {c : Code} {A : Nat → Prop} {t : Nat → Nat} {a : Nat → Nat}  {zu : TV} {zv : CV}   (X : Cx p s m args meth c cX3_readSection 6 none wsX3_readSection RX3 G A)  :
    ∀ (u : TV) (v : CV) (x2 : Int32) (x3 : Int32) (x4 : Int32) (x5 : Int32) (H : Heap) (locs : List Loc) (ls : Array Slot), f_X3_readSection_b65 u v x2 x3 x4 x5 = some (zu, zv) → Wd G A s H locs (fl [tB G t u, cB G a v]) → lv_has ls 6 [(0, .ref (t 0)), (1, .ref (a 0)), (2, .int x2), (3, .int x3), (4, .int x4), (5, .int x5)] → W p l e rX3_readSection s m args below meth c H locs 0 0 (MQ below (Qv G A (fl [tB G t zu, cB G a zv])) args s 0 0 A) (F0 m 65 ls []) := by
  obtain ⟨⟨hx, hb, hml, hown, hts⟩, hK, hr, hlk, hA⟩ := id X
  intro u v x2 x3 x4 x5 H locs ls h hw hl
  unfold f_X3_readSection_b65 at h
  refine lv_aload_n hx hb dX3_readSection_65 rfl (lv_at hl 0 rfl) ?_
  refine x_get (v := .int (T_fa u)) 0 0 X hw in_X3_readSection_3 rfl rfl rfl 4 (by decide) (List.mem_of_getElem? (i := 1) rfl) rfl rfl dX3_readSection_66 ?_
  refine lv_iconst (v := (-1)) hx hb dX3_readSection_69 (by decide) ?_
  refine lv_icmp_ne (tgt := 84) hx hb dX3_readSection_70 (by decide) (fun k_1 => ?_) (fun k_1 => ?_)
  · have h := br_no h k_1
    cases h
    exact x_vret X hw rfl dX3_readSection_84
  · have h := br_yes h k_1
    refine lv_aload_n hx hb dX3_readSection_73 rfl (lv_at hl 1 rfl) ?_
    refine lv_iload_n hx hb dX3_readSection_74 rfl (lv_at hl 3 rfl) ?_
    refine lv_iload hx hb dX3_readSection_75 (lv_at hl 4 rfl) ?_
    refine lv_iload hx hb dX3_readSection_77 (lv_at hl 5 rfl) ?_
    refine lv_iload_n hx hb dX3_readSection_79 rfl (lv_at hl 2 rfl) ?_
    obtain ⟨r_2, v_3, c_4, h⟩ := bd2_ok h
    refine x_Vi (As := [.int x3, .int x4, .int x5, .int x2]) (w' := fl [tB G t u, cB G a v_3]) X hw (m_X0_append (G := G) (l := l) (a := a) c_4) (Cut.blocks (bs' := [tB G t u, cB G a v_3]) [1] [0] [1, 0] [cB G a v_3] rfl rfl rfl rfl rfl) 1 0 rfl rfl rfl (cwV 4 hts gX3_readSection_X0_append rfl rfl rfl hd_X0_append ⟨Nat.le_of_ble_eq_true rfl, Nat.le_of_ble_eq_true rfl⟩) rfl hl.1 rfl (Nat.le_of_ble_eq_true rfl) dX3_readSection_80 ⟨Nat.le_of_ble_eq_true rfl, Nat.le_of_ble_eq_true rfl⟩ (fun H locs hw => ?_)
    refine lv_pop hx hb dX3_readSection_83 rfl ?_
    cases h
    exact x_vret X hw rfl dX3_readSection_84
noncomputable def f_X3_readSection  (u : TV) (v : CV) (x2 : Int32) : Option (TV × CV) :=
  bd2 (f_X3_readNumber u 1 5000) fun r_1 u_2 =>
  bd (f_X3_expect u_2 47) fun u_4 =>
  bd2 (f_X3_readNumber u_4 1 5000) fun r_6 u_7 =>
  br ((T_fa u_7) = (-1))
    (bd2 (f_X3_next u_7) fun r_10 u_11 =>
     br (r_10 = 45)
       (nm (((T_pl u_11) + 1) : Int32) fun t_14 =>
        bd2 (f_X3_readNumber ((T_co u_11), (T_le u_11), (T_it u_11), t_14, (T_fa u_11)) 0 500) fun r_15 u_16 =>
        f_X3_readSection_b65 u_16 v x2 r_1 r_6 r_15)
       (f_X3_readSection_b65 u_11 v x2 r_1 r_6 0))
    (f_X3_readSection_b65 u_7 v x2 r_1 r_6 0)
set_option maxHeartbeats 4000000 in
set_option maxRecDepth 100000 in
theorem m_X3_readSection {G : GG} {l : Launch} {t : Nat → Nat} {a : Nat → Nat} {u : TV} {v : CV} {x2 : Int32} {zu : TV} {zv : CV} (h : f_X3_readSection u v x2 = some (zu, zv)) : Cv G l yX3_readSection wsX3_readSection rX3_readSection [.ref (t 0), .ref (a 0), .int x2] (fl [tB G t u, cB G a v]) (fl [tB G t zu, cB G a zv]) := by
  refine Cv.intro cX3_readSection 6 none RX3 (by decide) rfl rfl (Nat.le_of_ble_eq_true rfl) ?_
  intro p e s m below meth c A ls X hw hl
  obtain ⟨⟨hx, hb, hml, hown, hts⟩, hK, hr, hlk, hA⟩ := id X
  unfold f_X3_readSection at h
  have hl : lv_has ls 6 [(0, .ref (t 0)), (1, .ref (a 0)), (2, .int x2)] := hl
  refine lv_aload_n hx hb dX3_readSection_0 rfl (lv_at hl 0 rfl) ?_
  refine lv_iconst (v := 1) hx hb dX3_readSection_1 (by decide) ?_
  refine lv_sipush (v := 5000) hx hb dX3_readSection_2 (by decide) ?_
  obtain ⟨r_1, u_2, c_3, h⟩ := bd2_ok h
  refine x_Vi (As := [.int 1, .int 5000]) (w' := fl [tB G t u_2, cB G a v]) X hw (m_X3_readNumber (G := G) (l := l) (t := t) c_3) (Cut.blocks (bs' := [tB G t u_2, cB G a v]) [0] [1] [0, 1] [tB G t u_2] rfl rfl rfl rfl rfl) 0 0 rfl rfl rfl (cwV 2 hts gX3_readSection_X3_readNumber rfl rfl rfl hd_X3_readNumber ⟨Nat.le_of_ble_eq_true rfl, Nat.le_of_ble_eq_true rfl⟩) rfl hl.1 rfl (Nat.le_of_ble_eq_true rfl) dX3_readSection_5 ⟨Nat.le_of_ble_eq_true rfl, Nat.le_of_ble_eq_true rfl⟩ (fun H locs hw => ?_)
  refine lv_istore_n (lv' := [(3, .int r_1), (0, .ref (t 0)), (1, .ref (a 0)), (2, .int x2)]) hx hb dX3_readSection_8 rfl hl (by decide) rfl (fun ls hl => ?_)
  refine lv_aload_n hx hb dX3_readSection_9 rfl (lv_at hl 1 rfl) ?_
  refine lv_bipush (v := 47) hx hb dX3_readSection_10 (by decide) ?_
  obtain ⟨u_4, c_5, h⟩ := bd_ok h
  refine x_Vv (As := [.int 47]) (w' := fl [tB G t u_4, cB G a v]) X hw (m_X3_expect (G := G) (l := l) (t := t) c_5) (Cut.blocks (bs' := [tB G t u_4, cB G a v]) [0] [1] [0, 1] [tB G t u_4] rfl rfl rfl rfl rfl) 0 0 rfl rfl rfl (cwV 1 hts gX3_readSection_X3_expect rfl rfl rfl hd_X3_expect ⟨Nat.le_of_ble_eq_true rfl, Nat.le_of_ble_eq_true rfl⟩) rfl hl.1 rfl (Nat.le_of_ble_eq_true rfl) dX3_readSection_12 ⟨Nat.le_of_ble_eq_true rfl, Nat.le_of_ble_eq_true rfl⟩ (fun H locs hw => ?_)
  refine lv_aload_n hx hb dX3_readSection_15 rfl (lv_at hl 1 rfl) ?_
  refine lv_iconst (v := 1) hx hb dX3_readSection_16 (by decide) ?_
  refine lv_sipush (v := 5000) hx hb dX3_readSection_17 (by decide) ?_
  obtain ⟨r_6, u_7, c_8, h⟩ := bd2_ok h
  refine x_Vi (As := [.int 1, .int 5000]) (w' := fl [tB G t u_7, cB G a v]) X hw (m_X3_readNumber (G := G) (l := l) (t := t) c_8) (Cut.blocks (bs' := [tB G t u_7, cB G a v]) [0] [1] [0, 1] [tB G t u_7] rfl rfl rfl rfl rfl) 0 0 rfl rfl rfl (cwV 2 hts gX3_readSection_X3_readNumber rfl rfl rfl hd_X3_readNumber ⟨Nat.le_of_ble_eq_true rfl, Nat.le_of_ble_eq_true rfl⟩) rfl hl.1 rfl (Nat.le_of_ble_eq_true rfl) dX3_readSection_20 ⟨Nat.le_of_ble_eq_true rfl, Nat.le_of_ble_eq_true rfl⟩ (fun H locs hw => ?_)
  refine lv_istore (lv' := [(4, .int r_6), (3, .int r_1), (0, .ref (t 0)), (1, .ref (a 0)), (2, .int x2)]) hx hb dX3_readSection_23 hl (by decide) rfl (fun ls hl => ?_)
  refine lv_iconst (v := 0) hx hb dX3_readSection_25 (by decide) ?_
  refine lv_istore (lv' := [(5, .int 0), (4, .int r_6), (3, .int r_1), (0, .ref (t 0)), (1, .ref (a 0)), (2, .int x2)]) hx hb dX3_readSection_26 hl (by decide) rfl (fun ls hl => ?_)
  refine lv_aload_n hx hb dX3_readSection_28 rfl (lv_at hl 3 rfl) ?_
  refine x_get (v := .int (T_fa u_7)) 0 0 X hw in_X3_readSection_3 rfl rfl rfl 4 (by decide) (List.mem_of_getElem? (i := 1) rfl) rfl rfl dX3_readSection_29 ?_
  refine lv_iconst (v := (-1)) hx hb dX3_readSection_32 (by decide) ?_
  refine lv_icmp_ne (tgt := 65) hx hb dX3_readSection_33 (by decide) (fun k_9 => ?_) (fun k_9 => ?_)
  · have h := br_no h k_9
    exact w_X3_readSection_b65 X u_7 v x2 r_1 r_6 0 _ _ _ h hw (lv_sub hl [3, 4, 5, 2, 1, 0] rfl)
  · have h := br_yes h k_9
    refine lv_aload_n hx hb dX3_readSection_36 rfl (lv_at hl 3 rfl) ?_
    obtain ⟨r_10, u_11, c_12, h⟩ := bd2_ok h
    refine x_Vi (As := []) (w' := fl [tB G t u_11, cB G a v]) X hw (m_X3_next (G := G) (l := l) (t := t) c_12) (Cut.blocks (bs' := [tB G t u_11, cB G a v]) [0] [1] [0, 1] [tB G t u_11] rfl rfl rfl rfl rfl) 0 0 rfl rfl rfl (cwV 0 hts gX3_readSection_X3_next rfl rfl rfl hd_X3_next ⟨Nat.le_of_ble_eq_true rfl, Nat.le_of_ble_eq_true rfl⟩) rfl hl.1 rfl (Nat.le_of_ble_eq_true rfl) dX3_readSection_37 ⟨Nat.le_of_ble_eq_true rfl, Nat.le_of_ble_eq_true rfl⟩ (fun H locs hw => ?_)
    refine lv_bipush (v := 45) hx hb dX3_readSection_40 (by decide) ?_
    refine lv_icmp_ne (tgt := 65) hx hb dX3_readSection_42 (by decide) (fun k_13 => ?_) (fun k_13 => ?_)
    · have h := br_no h k_13
      exact w_X3_readSection_b65 X u_11 v x2 r_1 r_6 0 _ _ _ h hw (lv_sub hl [3, 4, 5, 2, 1, 0] rfl)
    · have h := br_yes h k_13
      refine lv_aload_n hx hb dX3_readSection_45 rfl (lv_at hl 3 rfl) ?_
      refine lv_dup hx hb dX3_readSection_46 rfl ?_
      refine x_get (v := .int (T_pl u_11)) 0 0 X hw in_X3_readSection_3 rfl rfl rfl 3 (by decide) (List.mem_of_getElem? (i := 2) rfl) rfl rfl dX3_readSection_47 ?_
      refine lv_iconst (v := 1) hx hb dX3_readSection_50 (by decide) ?_
      refine lv_iadd hx hb dX3_readSection_51 ?_
      obtain ⟨t_14, et_14, h⟩ := nm_ok h
      refine x_put (bs' := [tB G t ((T_co u_11), (T_le u_11), (T_it u_11), t_14, (T_fa u_11)), cB G a v]) 0 0 X hw in_X3_readSection_3 tyX3 tyX3_ok nmX3 rfl rfl rfl 3 (by decide) (List.mem_of_getElem? (i := 2) rfl) rfl rfl rfl rfl (Nat.le_of_ble_eq_true rfl) dX3_readSection_52 (by rw [et_14]; rfl) (fun H locs hw => ?_)
      refine lv_aload_n hx hb dX3_readSection_55 rfl (lv_at hl 3 rfl) ?_
      refine lv_iconst (v := 0) hx hb dX3_readSection_56 (by decide) ?_
      refine lv_sipush (v := 500) hx hb dX3_readSection_57 (by decide) ?_
      obtain ⟨r_15, u_16, c_17, h⟩ := bd2_ok h
      refine x_Vi (As := [.int 0, .int 500]) (w' := fl [tB G t u_16, cB G a v]) X hw (m_X3_readNumber (G := G) (l := l) (t := t) c_17) (Cut.blocks (bs' := [tB G t u_16, cB G a v]) [0] [1] [0, 1] [tB G t u_16] rfl rfl rfl rfl rfl) 0 0 rfl rfl rfl (cwV 2 hts gX3_readSection_X3_readNumber rfl rfl rfl hd_X3_readNumber ⟨Nat.le_of_ble_eq_true rfl, Nat.le_of_ble_eq_true rfl⟩) rfl hl.1 rfl (Nat.le_of_ble_eq_true rfl) dX3_readSection_60 ⟨Nat.le_of_ble_eq_true rfl, Nat.le_of_ble_eq_true rfl⟩ (fun H locs hw => ?_)
      refine lv_istore (lv' := [(5, .int r_15), (4, .int r_6), (3, .int r_1), (0, .ref (t 0)), (1, .ref (a 0)), (2, .int x2)]) hx hb dX3_readSection_63 hl (by decide) rfl (fun ls hl => ?_)
      exact w_X3_readSection_b65 X u_16 v x2 r_1 r_6 r_15 _ _ _ h hw (lv_sub hl [3, 4, 5, 2, 1, 0] rfl)

def rX3_readJoint : Room := { frames := 3, cells := 0, slots := 0, locals := 69 }
theorem hd_X3_readJoint : yX3_readJoint.cls = RX3 ∧ yX3_readJoint.cls ≠ "java/lang/invoke/MethodHandle" ∧ yX3_readJoint.cls ≠ "java/lang/invoke/VarHandle" ∧ (parseMethodDescriptor yX3_readJoint.desc).map (fun d => d.parameters.length) = some 1 := by decide +kernel
theorem in_X3_readJoint_0 : ∀ w ∈ u_ws RX0 TX0 10, w ∈ wsX3_readJoint := fun w h => (List.mem_cons_of_mem _ (List.mem_append_left _ (List.mem_append_right _ h)))
theorem in_X3_readJoint_3 : ∀ w ∈ u_ws RX3 TX3 5, w ∈ wsX3_readJoint := fun w h => (List.mem_cons_of_mem _ (List.mem_append_right _ h))
noncomputable def f_X3_readJoint  (u : TV) (v : CV)  : Option (TV × CV) :=
  bd2 (f_X3_readNumber u 0 ((C_se v) - 1)) fun r_1 u_2 =>
  bd (f_X3_expect u_2 61) fun u_4 =>
  bd2 (f_X3_next u_4) fun r_6 u_7 =>
  bd2 (f_X3_readNumber u_7 0 ((C_se v) - 1)) fun r_9 u_10 =>
  br ((T_fa u_10) = (-1))
    (bd (f_X0_canLink v r_1 r_9) fun r_13 =>
     br (r_13 = 0)
       (some (((T_co u_10), (T_le u_10), (T_it u_10), (T_pl u_10), (T_pl u_7)), v))
       (bd2 (f_X0_link v r_1 r_9) fun r_16 v_17 =>
        some (u_10, v_17)))
    (some (u_10, v))
set_option maxHeartbeats 4000000 in
set_option maxRecDepth 100000 in
theorem m_X3_readJoint {G : GG} {l : Launch} {t : Nat → Nat} {a : Nat → Nat} {u : TV} {v : CV}  {zu : TV} {zv : CV} (h : f_X3_readJoint u v = some (zu, zv)) : Cv G l yX3_readJoint wsX3_readJoint rX3_readJoint [.ref (t 0), .ref (a 0)] (fl [tB G t u, cB G a v]) (fl [tB G t zu, cB G a zv]) := by
  refine Cv.intro cX3_readJoint 5 none RX3 (by decide) rfl rfl (Nat.le_of_ble_eq_true rfl) ?_
  intro p e s m below meth c A ls X hw hl
  obtain ⟨⟨hx, hb, hml, hown, hts⟩, hK, hr, hlk, hA⟩ := id X
  unfold f_X3_readJoint at h
  have hl : lv_has ls 5 [(0, .ref (t 0)), (1, .ref (a 0))] := hl
  refine lv_aload_n hx hb dX3_readJoint_0 rfl (lv_at hl 0 rfl) ?_
  refine lv_iconst (v := 0) hx hb dX3_readJoint_1 (by decide) ?_
  refine lv_aload_n hx hb dX3_readJoint_2 rfl (lv_at hl 1 rfl) ?_
  refine x_get (v := .int (C_se v)) 1 0 X hw in_X3_readJoint_0 rfl rfl rfl 0 (by decide) (List.mem_of_getElem? (i := 1) rfl) rfl rfl dX3_readJoint_3 ?_
  refine lv_iconst (v := 1) hx hb dX3_readJoint_6 (by decide) ?_
  refine lv_isub hx hb dX3_readJoint_7 ?_
  obtain ⟨r_1, u_2, c_3, h⟩ := bd2_ok h
  refine x_Vi (As := [.int 0, .int ((C_se v) - 1)]) (w' := fl [tB G t u_2, cB G a v]) X hw (m_X3_readNumber (G := G) (l := l) (t := t) c_3) (Cut.blocks (bs' := [tB G t u_2, cB G a v]) [0] [1] [0, 1] [tB G t u_2] rfl rfl rfl rfl rfl) 0 0 rfl rfl rfl (cwV 2 hts gX3_readJoint_X3_readNumber rfl rfl rfl hd_X3_readNumber ⟨Nat.le_of_ble_eq_true rfl, Nat.le_of_ble_eq_true rfl⟩) rfl hl.1 rfl (Nat.le_of_ble_eq_true rfl) dX3_readJoint_8 ⟨Nat.le_of_ble_eq_true rfl, Nat.le_of_ble_eq_true rfl⟩ (fun H locs hw => ?_)
  refine lv_istore_n (lv' := [(2, .int r_1), (0, .ref (t 0)), (1, .ref (a 0))]) hx hb dX3_readJoint_11 rfl hl (by decide) rfl (fun ls hl => ?_)
  refine lv_aload_n hx hb dX3_readJoint_12 rfl (lv_at hl 1 rfl) ?_
  refine lv_bipush (v := 61) hx hb dX3_readJoint_13 (by decide) ?_
  obtain ⟨u_4, c_5, h⟩ := bd_ok h
  refine x_Vv (As := [.int 61]) (w' := fl [tB G t u_4, cB G a v]) X hw (m_X3_expect (G := G) (l := l) (t := t) c_5) (Cut.blocks (bs' := [tB G t u_4, cB G a v]) [0] [1] [0, 1] [tB G t u_4] rfl rfl rfl rfl rfl) 0 0 rfl rfl rfl (cwV 1 hts gX3_readJoint_X3_expect rfl rfl rfl hd_X3_expect ⟨Nat.le_of_ble_eq_true rfl, Nat.le_of_ble_eq_true rfl⟩) rfl hl.1 rfl (Nat.le_of_ble_eq_true rfl) dX3_readJoint_15 ⟨Nat.le_of_ble_eq_true rfl, Nat.le_of_ble_eq_true rfl⟩ (fun H locs hw => ?_)
  refine lv_aload_n hx hb dX3_readJoint_18 rfl (lv_at hl 1 rfl) ?_
  obtain ⟨r_6, u_7, c_8, h⟩ := bd2_ok h
  refine x_Vi (As := []) (w' := fl [tB G t u_7, cB G a v]) X hw (m_X3_next (G := G) (l := l) (t := t) c_8) (Cut.blocks (bs' := [tB G t u_7, cB G a v]) [0] [1] [0, 1] [tB G t u_7] rfl rfl rfl rfl rfl) 0 0 rfl rfl rfl (cwV 0 hts gX3_readJoint_X3_next rfl rfl rfl hd_X3_next ⟨Nat.le_of_ble_eq_true rfl, Nat.le_of_ble_eq_true rfl⟩) rfl hl.1 rfl (Nat.le_of_ble_eq_true rfl) dX3_readJoint_19 ⟨Nat.le_of_ble_eq_true rfl, Nat.le_of_ble_eq_true rfl⟩ (fun H locs hw => ?_)
  refine lv_pop hx hb dX3_readJoint_22 rfl ?_
  refine lv_aload_n hx hb dX3_readJoint_23 rfl (lv_at hl 1 rfl) ?_
  refine x_get (v := .int (T_pl u_7)) 0 0 X hw in_X3_readJoint_3 rfl rfl rfl 3 (by decide) (List.mem_of_getElem? (i := 2) rfl) rfl rfl dX3_readJoint_24 ?_
  refine lv_istore_n (lv' := [(3, .int (T_pl u_7)), (2, .int r_1), (0, .ref (t 0)), (1, .ref (a 0))]) hx hb dX3_readJoint_27 rfl hl (by decide) rfl (fun ls hl => ?_)
  refine lv_aload_n hx hb dX3_readJoint_28 rfl (lv_at hl 2 rfl) ?_
  refine lv_iconst (v := 0) hx hb dX3_readJoint_29 (by decide) ?_
  refine lv_aload_n hx hb dX3_readJoint_30 rfl (lv_at hl 3 rfl) ?_
  refine x_get (v := .int (C_se v)) 1 0 X hw in_X3_readJoint_0 rfl rfl rfl 0 (by decide) (List.mem_of_getElem? (i := 1) rfl) rfl rfl dX3_readJoint_31 ?_
  refine lv_iconst (v := 1) hx hb dX3_readJoint_34 (by decide) ?_
  refine lv_isub hx hb dX3_readJoint_35 ?_
  obtain ⟨r_9, u_10, c_11, h⟩ := bd2_ok h
  refine x_Vi (As := [.int 0, .int ((C_se v) - 1)]) (w' := fl [tB G t u_10, cB G a v]) X hw (m_X3_readNumber (G := G) (l := l) (t := t) c_11) (Cut.blocks (bs' := [tB G t u_10, cB G a v]) [0] [1] [0, 1] [tB G t u_10] rfl rfl rfl rfl rfl) 0 0 rfl rfl rfl (cwV 2 hts gX3_readJoint_X3_readNumber rfl rfl rfl hd_X3_readNumber ⟨Nat.le_of_ble_eq_true rfl, Nat.le_of_ble_eq_true rfl⟩) rfl hl.1 rfl (Nat.le_of_ble_eq_true rfl) dX3_readJoint_36 ⟨Nat.le_of_ble_eq_true rfl, Nat.le_of_ble_eq_true rfl⟩ (fun H locs hw => ?_)
  refine lv_istore (lv' := [(4, .int r_9), (3, .int (T_pl u_7)), (2, .int r_1), (0, .ref (t 0)), (1, .ref (a 0))]) hx hb dX3_readJoint_39 hl (by decide) rfl (fun ls hl => ?_)
  refine lv_aload_n hx hb dX3_readJoint_41 rfl (lv_at hl 3 rfl) ?_
  refine x_get (v := .int (T_fa u_10)) 0 0 X hw in_X3_readJoint_3 rfl rfl rfl 4 (by decide) (List.mem_of_getElem? (i := 3) rfl) rfl rfl dX3_readJoint_42 ?_
  refine lv_iconst (v := (-1)) hx hb dX3_readJoint_45 (by decide) ?_
  refine lv_icmp_eq (tgt := 50) hx hb dX3_readJoint_46 (by decide) (fun k_12 => ?_) (fun k_12 => ?_)
  · have h := br_yes h k_12
    refine lv_aload_n hx hb dX3_readJoint_50 rfl (lv_at hl 4 rfl) ?_
    refine lv_iload_n hx hb dX3_readJoint_51 rfl (lv_at hl 2 rfl) ?_
    refine lv_iload hx hb dX3_readJoint_52 (lv_at hl 0 rfl) ?_
    obtain ⟨r_13, c_14, h⟩ := bd_ok h
    refine x_Vi (As := [.int r_1, .int r_9]) (w' := fl [tB G t u_10, cB G a v]) X hw (m_X0_canLink (G := G) (l := l) (a := a) c_14) (Cut.blocks (bs' := [tB G t u_10, cB G a v]) [1] [0] [1, 0] [cB G a v] rfl rfl rfl rfl rfl) 1 0 rfl rfl rfl (cwV 2 hts gX3_readJoint_X0_canLink rfl rfl rfl hd_X0_canLink ⟨Nat.le_of_ble_eq_true rfl, Nat.le_of_ble_eq_true rfl⟩) rfl hl.1 rfl (Nat.le_of_ble_eq_true rfl) dX3_readJoint_54 ⟨Nat.le_of_ble_eq_true rfl, Nat.le_of_ble_eq_true rfl⟩ (fun H locs hw => ?_)
    refine lv_if_eq (tgt := 71) hx hb dX3_readJoint_57 (by decide) (fun k_15 => ?_) (fun k_15 => ?_)
    · have h := br_yes h k_15
      refine lv_aload_n hx hb dX3_readJoint_71 rfl (lv_at hl 3 rfl) ?_
      refine lv_iload_n hx hb dX3_readJoint_72 rfl (lv_at hl 1 rfl) ?_
      refine x_put (bs' := [tB G t ((T_co u_10), (T_le u_10), (T_it u_10), (T_pl u_10), (T_pl u_7)), cB G a v]) 0 0 X hw in_X3_readJoint_3 tyX3 tyX3_ok nmX3 rfl rfl rfl 4 (by decide) (List.mem_of_getElem? (i := 3) rfl) rfl rfl rfl rfl (Nat.le_of_ble_eq_true rfl) dX3_readJoint_73 rfl (fun H locs hw => ?_)
      cases h
      exact x_vret X hw rfl dX3_readJoint_76
    · have h := br_no h k_15
      refine lv_aload_n hx hb dX3_readJoint_60 rfl (lv_at hl 4 rfl) ?_
      refine lv_iload_n hx hb dX3_readJoint_61 rfl (lv_at hl 2 rfl) ?_
      refine lv_iload hx hb dX3_readJoint_62 (lv_at hl 0 rfl) ?_
      obtain ⟨r_16, v_17, c_18, h⟩ := bd2_ok h
      refine x_Vi (As := [.int r_1, .int r_9]) (w' := fl [tB G t u_10, cB G a v_17]) X hw (m_X0_link (G := G) (l := l) (a := a) c_18) (Cut.blocks (bs' := [tB G t u_10, cB G a v_17]) [1] [0] [1, 0] [cB G a v_17] rfl rfl rfl rfl rfl) 1 0 rfl rfl rfl (cwV 2 hts gX3_readJoint_X0_link rfl rfl rfl hd_X0_link ⟨Nat.le_of_ble_eq_true rfl, Nat.le_of_ble_eq_true rfl⟩) rfl hl.1 rfl (Nat.le_of_ble_eq_true rfl) dX3_readJoint_64 ⟨Nat.le_of_ble_eq_true rfl, Nat.le_of_ble_eq_true rfl⟩ (fun H locs hw => ?_)
      refine lv_pop hx hb dX3_readJoint_67 rfl ?_
      refine lv_goto (tgt := 76) hx hb dX3_readJoint_68 (by decide) ?_
      cases h
      exact x_vret X hw rfl dX3_readJoint_76
  · have h := br_no h k_12
    cases h
    exact x_vret X hw rfl dX3_readJoint_49

def rX3_readItem : Room := { frames := 4, cells := 0, slots := 0, locals := 94 }
theorem hd_X3_readItem : yX3_readItem.cls = RX3 ∧ yX3_readItem.cls ≠ "java/lang/invoke/MethodHandle" ∧ yX3_readItem.cls ≠ "java/lang/invoke/VarHandle" ∧ (parseMethodDescriptor yX3_readItem.desc).map (fun d => d.parameters.length) = some 1 := by decide +kernel
theorem in_X3_readItem_3 : ∀ w ∈ u_ws RX3 TX3 5, w ∈ wsX3_readItem := fun w h => (List.mem_cons_of_mem _ (List.mem_append_left _ (List.mem_append_right _ h)))
noncomputable def f_X3_readItem_b113  (u : TV) (v : CV) : Option (TV × CV) :=
  br ((T_fa u) = (-1))
    (nm (((T_it u) + 1) : Int32) fun t_2 =>
     some (((T_co u), (T_le u), t_2, (T_pl u), (T_fa u)), v))
    (some (u, v))
set_option maxHeartbeats 4000000 in
set_option maxRecDepth 100000 in
theorem w_X3_readItem_b113 {G : GG} {l : Launch} {p : Program} {e : Env} {s : State} {m : MethodId} {args : Array Value} {below : List Frame} {meth : Method} {c : Code} {A : Nat → Prop} {t : Nat → Nat} {a : Nat → Nat}  {zu : TV} {zv : CV}   (X : Cx p s m args meth c cX3_readItem 6 none wsX3_readItem RX3 G A)  :
    ∀ (u : TV) (v : CV) (H : Heap) (locs : List Loc) (ls : Array Slot), f_X3_readItem_b113 u v = some (zu, zv) → Wd G A s H locs (fl [tB G t u, cB G a v]) → lv_has ls 6 [(0, .ref (t 0))] → W p l e rX3_readItem s m args below meth c H locs 0 0 (MQ below (Qv G A (fl [tB G t zu, cB G a zv])) args s 0 0 A) (F0 m 113 ls []) := by
  obtain ⟨⟨hx, hb, hml, hown, hts⟩, hK, hr, hlk, hA⟩ := id X
  intro u v H locs ls h hw hl
  unfold f_X3_readItem_b113 at h
  refine lv_aload_n hx hb dX3_readItem_113 rfl (lv_at hl 0 rfl) ?_
  refine x_get (v := .int (T_fa u)) 0 0 X hw in_X3_readItem_3 rfl rfl rfl 4 (by decide) (List.mem_of_getElem? (i := 2) rfl) rfl rfl dX3_readItem_114 ?_
  refine lv_iconst (v := (-1)) hx hb dX3_readItem_117 (by decide) ?_
  refine lv_icmp_ne (tgt := 131) hx hb dX3_readItem_118 (by decide) (fun k_1 => ?_) (fun k_1 => ?_)
  · have h := br_no h k_1
    cases h
    exact x_vret X hw rfl dX3_readItem_131
  · have h := br_yes h k_1
    refine lv_aload_n hx hb dX3_readItem_121 rfl (lv_at hl 0 rfl) ?_
    refine lv_dup hx hb dX3_readItem_122 rfl ?_
    refine x_get (v := .int (T_it u)) 0 0 X hw in_X3_readItem_3 rfl rfl rfl 2 (by decide) (List.mem_of_getElem? (i := 3) rfl) rfl rfl dX3_readItem_123 ?_
    refine lv_iconst (v := 1) hx hb dX3_readItem_126 (by decide) ?_
    refine lv_iadd hx hb dX3_readItem_127 ?_
    obtain ⟨t_2, et_2, h⟩ := nm_ok h
    refine x_put (bs' := [tB G t ((T_co u), (T_le u), t_2, (T_pl u), (T_fa u)), cB G a v]) 0 0 X hw in_X3_readItem_3 tyX3 tyX3_ok nmX3 rfl rfl rfl 2 (by decide) (List.mem_of_getElem? (i := 3) rfl) rfl rfl rfl rfl (Nat.le_of_ble_eq_true rfl) dX3_readItem_128 (by rw [et_2]; rfl) (fun H locs hw => ?_)
    cases h
    exact x_vret X hw rfl dX3_readItem_131
noncomputable def f_X3_readItem_b57  (u : TV) (v : CV) (x2 : Int32) (x3 : Int32) (y0 : Int32) : Option (TV × CV) :=
  br (y0 = 0)
    (f_X3_readItem_b113 ((T_co u), (T_le u), (T_it u), (T_pl u), (T_pl u)) v)
    (br (x3 = 0)
       (bd2 (f_X3_readJoint u v) fun u_3 v_4 =>
        f_X3_readItem_b113 u_3 v_4)
       (nm (((T_pl u) + 1) : Int32) fun t_6 =>
        br (x2 = 102)
          (bd2 (f_X3_readSection ((T_co u), (T_le u), (T_it u), t_6, (T_fa u)) v 1) fun u_11 v_12 =>
           f_X3_readItem_b113 u_11 v_12)
          (bd2 (f_X3_readSection ((T_co u), (T_le u), (T_it u), t_6, (T_fa u)) v 0) fun u_8 v_9 =>
           f_X3_readItem_b113 u_8 v_9)))
set_option maxHeartbeats 4000000 in
set_option maxRecDepth 100000 in
theorem w_X3_readItem_b57 {G : GG} {l : Launch} {p : Program} {e : Env} {s : State} {m : MethodId} {args : Array Value} {below : List Frame} {meth : Method} {c : Code} {A : Nat → Prop} {t : Nat → Nat} {a : Nat → Nat}  {zu : TV} {zv : CV}   (X : Cx p s m args meth c cX3_readItem 6 none wsX3_readItem RX3 G A)  :
    ∀ (u : TV) (v : CV) (x2 : Int32) (x3 : Int32) (y0 : Int32) (H : Heap) (locs : List Loc) (ls : Array Slot), f_X3_readItem_b57 u v x2 x3 y0 = some (zu, zv) → Wd G A s H locs (fl [tB G t u, cB G a v]) → lv_has ls 6 [(0, .ref (t 0)), (1, .ref (a 0)), (2, .int x2), (3, .int x3)] → W p l e rX3_readItem s m args below meth c H locs 0 0 (MQ below (Qv G A (fl [tB G t zu, cB G a zv])) args s 0 0 A) (F0 m 57 ls [.int y0]) := by
  obtain ⟨⟨hx, hb, hml, hown, hts⟩, hK, hr, hlk, hA⟩ := id X
  intro u v x2 x3 y0 H locs ls h hw hl
  unfold f_X3_readItem_b57 at h
  refine lv_istore (lv' := [(5, .int y0), (0, .ref (t 0)), (1, .ref (a 0)), (2, .int x2), (3, .int x3)]) hx hb dX3_readItem_57 hl (by decide) rfl (fun ls hl => ?_)
  refine lv_iload hx hb dX3_readItem_59 (lv_at hl 0 rfl) ?_
  refine lv_if_ne (tgt := 75) hx hb dX3_readItem_61 (by decide) (fun k_1 => ?_) (fun k_1 => ?_)
  · have h := br_no h k_1
    refine lv_iload_n hx hb dX3_readItem_75 rfl (lv_at hl 4 rfl) ?_
    refine lv_if_eq (tgt := 108) hx hb dX3_readItem_76 (by decide) (fun k_2 => ?_) (fun k_2 => ?_)
    · have h := br_yes h k_2
      refine lv_aload_n hx hb dX3_readItem_108 rfl (lv_at hl 1 rfl) ?_
      refine lv_aload_n hx hb dX3_readItem_109 rfl (lv_at hl 2 rfl) ?_
      obtain ⟨u_3, v_4, c_5, h⟩ := bd2_ok h
      refine x_Vv (As := [.ref (a 0)]) (w' := fl [tB G t u_3, cB G a v_4]) X hw (m_X3_readJoint (G := G) (l := l) (t := t) (a := a) c_5) Cut.all 0 0 rfl rfl rfl (cwV 1 hts gX3_readItem_X3_readJoint rfl rfl rfl hd_X3_readJoint ⟨Nat.le_of_ble_eq_true rfl, Nat.le_of_ble_eq_true rfl⟩) rfl hl.1 rfl (Nat.le_of_ble_eq_true rfl) dX3_readItem_110 ⟨Nat.le_of_ble_eq_true rfl, Nat.le_of_ble_eq_true rfl⟩ (fun H locs hw => ?_)
      exact w_X3_readItem_b113 X u_3 v_4 _ _ _ h hw (lv_sub hl [1] rfl)
    · have h := br_no h k_2
      refine lv_aload_n hx hb dX3_readItem_79 rfl (lv_at hl 1 rfl) ?_
      refine lv_dup hx hb dX3_readItem_80 rfl ?_
      refine x_get (v := .int (T_pl u)) 0 0 X hw in_X3_readItem_3 rfl rfl rfl 3 (by decide) (List.mem_of_getElem? (i := 1) rfl) rfl rfl dX3_readItem_81 ?_
      refine lv_iconst (v := 1) hx hb dX3_readItem_84 (by decide) ?_
      refine lv_iadd hx hb dX3_readItem_85 ?_
      obtain ⟨t_6, et_6, h⟩ := nm_ok h
      refine x_put (bs' := [tB G t ((T_co u), (T_le u), (T_it u), t_6, (T_fa u)), cB G a v]) 0 0 X hw in_X3_readItem_3 tyX3 tyX3_ok nmX3 rfl rfl rfl 3 (by decide) (List.mem_of_getElem? (i := 1) rfl) rfl rfl rfl rfl (Nat.le_of_ble_eq_true rfl) dX3_readItem_86 (by rw [et_6]; rfl) (fun H locs hw => ?_)
      refine lv_aload_n hx hb dX3_readItem_89 rfl (lv_at hl 1 rfl) ?_
      refine lv_aload_n hx hb dX3_readItem_90 rfl (lv_at hl 2 rfl) ?_
      refine lv_iload_n hx hb dX3_readItem_91 rfl (lv_at hl 3 rfl) ?_
      refine lv_bipush (v := 102) hx hb dX3_readItem_92 (by decide) ?_
      refine lv_icmp_ne (tgt := 101) hx hb dX3_readItem_94 (by decide) (fun k_7 => ?_) (fun k_7 => ?_)
      · have h := br_no h k_7
        refine lv_iconst (v := 0) hx hb dX3_readItem_101 (by decide) ?_
        obtain ⟨u_8, v_9, c_10, h⟩ := bd2_ok h
        refine x_Vv (As := [.ref (a 0), .int 0]) (w' := fl [tB G t u_8, cB G a v_9]) X hw (m_X3_readSection (G := G) (l := l) (t := t) (a := a) c_10) Cut.all 0 0 rfl rfl rfl (cwV 2 hts gX3_readItem_X3_readSection rfl rfl rfl hd_X3_readSection ⟨Nat.le_of_ble_eq_true rfl, Nat.le_of_ble_eq_true rfl⟩) rfl hl.1 rfl (Nat.le_of_ble_eq_true rfl) dX3_readItem_102 ⟨Nat.le_of_ble_eq_true rfl, Nat.le_of_ble_eq_true rfl⟩ (fun H locs hw => ?_)
        refine lv_goto (tgt := 113) hx hb dX3_readItem_105 (by decide) ?_
        exact w_X3_readItem_b113 X u_8 v_9 _ _ _ h hw (lv_sub hl [1] rfl)
      · have h := br_yes h k_7
        refine lv_iconst (v := 1) hx hb dX3_readItem_97 (by decide) ?_
        refine lv_goto (tgt := 102) hx hb dX3_readItem_98 (by decide) ?_
        obtain ⟨u_11, v_12, c_13, h⟩ := bd2_ok h
        refine x_Vv (As := [.ref (a 0), .int 1]) (w' := fl [tB G t u_11, cB G a v_12]) X hw (m_X3_readSection (G := G) (l := l) (t := t) (a := a) c_13) Cut.all 0 0 rfl rfl rfl (cwV 2 hts gX3_readItem_X3_readSection rfl rfl rfl hd_X3_readSection ⟨Nat.le_of_ble_eq_true rfl, Nat.le_of_ble_eq_true rfl⟩) rfl hl.1 rfl (Nat.le_of_ble_eq_true rfl) dX3_readItem_102 ⟨Nat.le_of_ble_eq_true rfl, Nat.le_of_ble_eq_true rfl⟩ (fun H locs hw => ?_)
        refine lv_goto (tgt := 113) hx hb dX3_readItem_105 (by decide) ?_
        exact w_X3_readItem_b113 X u_11 v_12 _ _ _ h hw (lv_sub hl [1] rfl)
  · have h := br_yes h k_1
    refine lv_aload_n hx hb dX3_readItem_64 rfl (lv_at hl 1 rfl) ?_
    refine lv_aload_n hx hb dX3_readItem_65 rfl (lv_at hl 1 rfl) ?_
    refine x_get (v := .int (T_pl u)) 0 0 X hw in_X3_readItem_3 rfl rfl rfl 3 (by decide) (List.mem_of_getElem? (i := 1) rfl) rfl rfl dX3_readItem_66 ?_
    refine x_put (bs' := [tB G t ((T_co u), (T_le u), (T_it u), (T_pl u), (T_pl u)), cB G a v]) 0 0 X hw in_X3_readItem_3 tyX3 tyX3_ok nmX3 rfl rfl rfl 4 (by decide) (List.mem_of_getElem? (i := 2) rfl) rfl rfl rfl rfl (Nat.le_of_ble_eq_true rfl) dX3_readItem_69 rfl (fun H locs hw => ?_)
    refine lv_goto (tgt := 113) hx hb dX3_readItem_72 (by decide) ?_
    exact w_X3_readItem_b113 X ((T_co u), (T_le u), (T_it u), (T_pl u), (T_pl u)) v _ _ _ h hw (lv_sub hl [1] rfl)
noncomputable def f_X3_readItem_b56  (u : TV) (v : CV) (x2 : Int32) (x3 : Int32) : Option (TV × CV) :=
  f_X3_readItem_b57 u v x2 x3 0
set_option maxHeartbeats 4000000 in
set_option maxRecDepth 100000 in
theorem w_X3_readItem_b56 {G : GG} {l : Launch} {p : Program} {e : Env} {s : State} {m : MethodId} {args : Array Value} {below : List Frame} {meth : Method} {c : Code} {A : Nat → Prop} {t : Nat → Nat} {a : Nat → Nat}  {zu : TV} {zv : CV}   (X : Cx p s m args meth c cX3_readItem 6 none wsX3_readItem RX3 G A)  :
    ∀ (u : TV) (v : CV) (x2 : Int32) (x3 : Int32) (H : Heap) (locs : List Loc) (ls : Array Slot), f_X3_readItem_b56 u v x2 x3 = some (zu, zv) → Wd G A s H locs (fl [tB G t u, cB G a v]) → lv_has ls 6 [(0, .ref (t 0)), (1, .ref (a 0)), (2, .int x2), (3, .int x3)] → W p l e rX3_readItem s m args below meth c H locs 0 0 (MQ below (Qv G A (fl [tB G t zu, cB G a zv])) args s 0 0 A) (F0 m 56 ls []) := by
  obtain ⟨⟨hx, hb, hml, hown, hts⟩, hK, hr, hlk, hA⟩ := id X
  intro u v x2 x3 H locs ls h hw hl
  unfold f_X3_readItem_b56 at h
  refine lv_iconst (v := 0) hx hb dX3_readItem_56 (by decide) ?_
  exact w_X3_readItem_b57 X u v x2 x3 0 _ _ _ h hw (lv_sub hl [0, 1, 2, 3] rfl)
noncomputable def f_X3_readItem_b52  (u : TV) (v : CV) (x2 : Int32) (x3 : Int32) : Option (TV × CV) :=
  f_X3_readItem_b57 u v x2 x3 1
set_option maxHeartbeats 4000000 in
set_option maxRecDepth 100000 in
theorem w_X3_readItem_b52 {G : GG} {l : Launch} {p : Program} {e : Env} {s : State} {m : MethodId} {args : Array Value} {below : List Frame} {meth : Method} {c : Code} {A : Nat → Prop} {t : Nat → Nat} {a : Nat → Nat}  {zu : TV} {zv : CV}   (X : Cx p s m args meth c cX3_readItem 6 none wsX3_readItem RX3 G A)  :
    ∀ (u : TV) (v : CV) (x2 : Int32) (x3 : Int32) (H : Heap) (locs : List Loc) (ls : Array Slot), f_X3_readItem_b52 u v x2 x3 = some (zu, zv) → Wd G A s H locs (fl [tB G t u, cB G a v]) → lv_has ls 6 [(0, .ref (t 0)), (1, .ref (a 0)), (2, .int x2), (3, .int x3)] → W p l e rX3_readItem s m args below meth c H locs 0 0 (MQ below (Qv G A (fl [tB G t zu, cB G a zv])) args s 0 0 A) (F0 m 52 ls []) := by
  obtain ⟨⟨hx, hb, hml, hown, hts⟩, hK, hr, hlk, hA⟩ := id X
  intro u v x2 x3 H locs ls h hw hl
  unfold f_X3_readItem_b52 at h
  refine lv_iconst (v := 1) hx hb dX3_readItem_52 (by decide) ?_
  refine lv_goto (tgt := 57) hx hb dX3_readItem_53 (by decide) ?_
  exact w_X3_readItem_b57 X u v x2 x3 1 _ _ _ h hw (lv_sub hl [0, 1, 2, 3] rfl)
noncomputable def f_X3_readItem_b40  (u : TV) (v : CV) (x2 : Int32) (x3 : Int32) (x4 : Int32) : Option (TV × CV) :=
  br (x4 = 0)
    (f_X3_readItem_b56 u v x2 x3)
    (bd (f_X0_hasRoomForJoint v) fun r_2 =>
     br (r_2 = 0)
       (f_X3_readItem_b56 u v x2 x3)
       (f_X3_readItem_b52 u v x2 x3))
set_option maxHeartbeats 4000000 in
set_option maxRecDepth 100000 in
theorem w_X3_readItem_b40 {G : GG} {l : Launch} {p : Program} {e : Env} {s : State} {m : MethodId} {args : Array Value} {below : List Frame} {meth : Method} {c : Code} {A : Nat → Prop} {t : Nat → Nat} {a : Nat → Nat}  {zu : TV} {zv : CV}   (X : Cx p s m args meth c cX3_readItem 6 none wsX3_readItem RX3 G A)  :
    ∀ (u : TV) (v : CV) (x2 : Int32) (x3 : Int32) (x4 : Int32) (H : Heap) (locs : List Loc) (ls : Array Slot), f_X3_readItem_b40 u v x2 x3 x4 = some (zu, zv) → Wd G A s H locs (fl [tB G t u, cB G a v]) → lv_has ls 6 [(0, .ref (t 0)), (1, .ref (a 0)), (2, .int x2), (3, .int x3), (4, .int x4)] → W p l e rX3_readItem s m args below meth c H locs 0 0 (MQ below (Qv G A (fl [tB G t zu, cB G a zv])) args s 0 0 A) (F0 m 40 ls []) := by
  obtain ⟨⟨hx, hb, hml, hown, hts⟩, hK, hr, hlk, hA⟩ := id X
  intro u v x2 x3 x4 H locs ls h hw hl
  unfold f_X3_readItem_b40 at h
  refine lv_iload hx hb dX3_readItem_40 (lv_at hl 4 rfl) ?_
  refine lv_if_eq (tgt := 56) hx hb dX3_readItem_42 (by decide) (fun k_1 => ?_) (fun k_1 => ?_)
  · have h := br_yes h k_1
    exact w_X3_readItem_b56 X u v x2 x3 _ _ _ h hw (lv_sub hl [0, 1, 2, 3] rfl)
  · have h := br_no h k_1
    refine lv_aload_n hx hb dX3_readItem_45 rfl (lv_at hl 1 rfl) ?_
    obtain ⟨r_2, c_3, h⟩ := bd_ok h
    refine x_Vi (As := []) (w' := fl [tB G t u, cB G a v]) X hw (m_X0_hasRoomForJoint (G := G) (l := l) (a := a) c_3) (Cut.blocks (bs' := [tB G t u, cB G a v]) [1] [0] [1, 0] [cB G a v] rfl rfl rfl rfl rfl) 1 0 rfl rfl rfl (cwV 0 hts gX3_readItem_X0_hasRoomForJoint rfl rfl rfl hd_X0_hasRoomForJoint ⟨Nat.le_of_ble_eq_true rfl, Nat.le_of_ble_eq_true rfl⟩) rfl hl.1 rfl (Nat.le_of_ble_eq_true rfl) dX3_readItem_46 ⟨Nat.le_of_ble_eq_true rfl, Nat.le_of_ble_eq_true rfl⟩ (fun H locs hw => ?_)
    refine lv_if_eq (tgt := 56) hx hb dX3_readItem_49 (by decide) (fun k_4 => ?_) (fun k_4 => ?_)
    · have h := br_yes h k_4
      exact w_X3_readItem_b56 X u v x2 x3 _ _ _ h hw (lv_sub hl [0, 1, 2, 3] rfl)
    · have h := br_no h k_4
      exact w_X3_readItem_b52 X u v x2 x3 _ _ _ h hw (lv_sub hl [0, 1, 2, 3] rfl)
noncomputable def f_X3_readItem_b22  (u : TV) (v : CV) (x2 : Int32) (y0 : Int32) : Option (TV × CV) :=
  bd (f_X3_isDigit x2) fun r_1 =>
  br (y0 = 0)
    (f_X3_readItem_b40 u v x2 y0 r_1)
    (bd (f_X0_hasRoomForSection v) fun r_4 =>
     br (r_4 = 0)
       (f_X3_readItem_b40 u v x2 y0 r_1)
       (f_X3_readItem_b52 u v x2 y0))
set_option maxHeartbeats 4000000 in
set_option maxRecDepth 100000 in
theorem w_X3_readItem_b22 {G : GG} {l : Launch} {p : Program} {e : Env} {s : State} {m : MethodId} {args : Array Value} {below : List Frame} {meth : Method} {c : Code} {A : Nat → Prop} {t : Nat → Nat} {a : Nat → Nat}  {zu : TV} {zv : CV}   (X : Cx p s m args meth c cX3_readItem 6 none wsX3_readItem RX3 G A)  :
    ∀ (u : TV) (v : CV) (x2 : Int32) (y0 : Int32) (H : Heap) (locs : List Loc) (ls : Array Slot), f_X3_readItem_b22 u v x2 y0 = some (zu, zv) → Wd G A s H locs (fl [tB G t u, cB G a v]) → lv_has ls 6 [(0, .ref (t 0)), (1, .ref (a 0)), (2, .int x2)] → W p l e rX3_readItem s m args below meth c H locs 0 0 (MQ below (Qv G A (fl [tB G t zu, cB G a zv])) args s 0 0 A) (F0 m 22 ls [.int y0]) := by
  obtain ⟨⟨hx, hb, hml, hown, hts⟩, hK, hr, hlk, hA⟩ := id X
  intro u v x2 y0 H locs ls h hw hl
  unfold f_X3_readItem_b22 at h
  refine lv_istore_n (lv' := [(3, .int y0), (0, .ref (t 0)), (1, .ref (a 0)), (2, .int x2)]) hx hb dX3_readItem_22 rfl hl (by decide) rfl (fun ls hl => ?_)
  refine lv_iload_n hx hb dX3_readItem_23 rfl (lv_at hl 3 rfl) ?_
  obtain ⟨r_1, c_2, h⟩ := bd_ok h
  refine x_Si (As := [.int x2]) (w' := fl [tB G t u, cB G a v]) X hw (m_X3_isDigit (G := G) (l := l) c_2) Cut.nil (va_cwS 1 hts gX3_readItem_X3_isDigit rfl rfl rfl hd_X3_isDigit.2 ⟨Nat.le_of_ble_eq_true rfl, Nat.le_of_ble_eq_true rfl⟩) rfl hl.1 rfl (Nat.le_of_ble_eq_true rfl) dX3_readItem_24 ⟨Nat.le_of_ble_eq_true rfl, Nat.le_of_ble_eq_true rfl⟩ (fun H locs hw => ?_)
  refine lv_istore (lv' := [(4, .int r_1), (3, .int y0), (0, .ref (t 0)), (1, .ref (a 0)), (2, .int x2)]) hx hb dX3_readItem_27 hl (by decide) rfl (fun ls hl => ?_)
  refine lv_iload_n hx hb dX3_readItem_29 rfl (lv_at hl 1 rfl) ?_
  refine lv_if_eq (tgt := 40) hx hb dX3_readItem_30 (by decide) (fun k_3 => ?_) (fun k_3 => ?_)
  · have h := br_yes h k_3
    exact w_X3_readItem_b40 X u v x2 y0 r_1 _ _ _ h hw (lv_sub hl [2, 3, 4, 1, 0] rfl)
  · have h := br_no h k_3
    refine lv_aload_n hx hb dX3_readItem_33 rfl (lv_at hl 3 rfl) ?_
    obtain ⟨r_4, c_5, h⟩ := bd_ok h
    refine x_Vi (As := []) (w' := fl [tB G t u, cB G a v]) X hw (m_X0_hasRoomForSection (G := G) (l := l) (a := a) c_5) (Cut.blocks (bs' := [tB G t u, cB G a v]) [1] [0] [1, 0] [cB G a v] rfl rfl rfl rfl rfl) 1 0 rfl rfl rfl (cwV 0 hts gX3_readItem_X0_hasRoomForSection rfl rfl rfl hd_X0_hasRoomForSection ⟨Nat.le_of_ble_eq_true rfl, Nat.le_of_ble_eq_true rfl⟩) rfl hl.1 rfl (Nat.le_of_ble_eq_true rfl) dX3_readItem_34 ⟨Nat.le_of_ble_eq_true rfl, Nat.le_of_ble_eq_true rfl⟩ (fun H locs hw => ?_)
    refine lv_if_ne (tgt := 52) hx hb dX3_readItem_37 (by decide) (fun k_6 => ?_) (fun k_6 => ?_)
    · have h := br_no h k_6
      exact w_X3_readItem_b52 X u v x2 y0 _ _ _ h hw (lv_sub hl [2, 3, 4, 1] rfl)
    · have h := br_yes h k_6
      exact w_X3_readItem_b40 X u v x2 y0 r_1 _ _ _ h hw (lv_sub hl [2, 3, 4, 1, 0] rfl)
noncomputable def f_X3_readItem_b17  (u : TV) (v : CV) (x2 : Int32) : Option (TV × CV) :=
  f_X3_readItem_b22 u v x2 1
set_option maxHeartbeats 4000000 in
set_option maxRecDepth 100000 in
theorem w_X3_readItem_b17 {G : GG} {l : Launch} {p : Program} {e : Env} {s : State} {m : MethodId} {args : Array Value} {below : List Frame} {meth : Method} {c : Code} {A : Nat → Prop} {t : Nat → Nat} {a : Nat → Nat}  {zu : TV} {zv : CV}   (X : Cx p s m args meth c cX3_readItem 6 none wsX3_readItem RX3 G A)  :
    ∀ (u : TV) (v : CV) (x2 : Int32) (H : Heap) (locs : List Loc) (ls : Array Slot), f_X3_readItem_b17 u v x2 = some (zu, zv) → Wd G A s H locs (fl [tB G t u, cB G a v]) → lv_has ls 6 [(0, .ref (t 0)), (1, .ref (a 0)), (2, .int x2)] → W p l e rX3_readItem s m args below meth c H locs 0 0 (MQ below (Qv G A (fl [tB G t zu, cB G a zv])) args s 0 0 A) (F0 m 17 ls []) := by
  obtain ⟨⟨hx, hb, hml, hown, hts⟩, hK, hr, hlk, hA⟩ := id X
  intro u v x2 H locs ls h hw hl
  unfold f_X3_readItem_b17 at h
  refine lv_iconst (v := 1) hx hb dX3_readItem_17 (by decide) ?_
  refine lv_goto (tgt := 22) hx hb dX3_readItem_18 (by decide) ?_
  exact w_X3_readItem_b22 X u v x2 1 _ _ _ h hw (lv_sub hl [0, 1, 2] rfl)
noncomputable def f_X3_readItem  (u : TV) (v : CV)  : Option (TV × CV) :=
  bd2 (f_X3_next u) fun r_1 u_2 =>
  br (r_1 = 99)
    (f_X3_readItem_b17 u_2 v r_1)
    (br (r_1 = 102)
       (f_X3_readItem_b17 u_2 v r_1)
       (f_X3_readItem_b22 u_2 v r_1 0))
set_option maxHeartbeats 4000000 in
set_option maxRecDepth 100000 in
theorem m_X3_readItem {G : GG} {l : Launch} {t : Nat → Nat} {a : Nat → Nat} {u : TV} {v : CV}  {zu : TV} {zv : CV} (h : f_X3_readItem u v = some (zu, zv)) : Cv G l yX3_readItem wsX3_readItem rX3_readItem [.ref (t 0), .ref (a 0)] (fl [tB G t u, cB G a v]) (fl [tB G t zu, cB G a zv]) := by
  refine Cv.intro cX3_readItem 6 none RX3 (by decide) rfl rfl (Nat.le_of_ble_eq_true rfl) ?_
  intro p e s m below meth c A ls X hw hl
  obtain ⟨⟨hx, hb, hml, hown, hts⟩, hK, hr, hlk, hA⟩ := id X
  unfold f_X3_readItem at h
  have hl : lv_has ls 6 [(0, .ref (t 0)), (1, .ref (a 0))] := hl
  refine lv_aload_n hx hb dX3_readItem_0 rfl (lv_at hl 0 rfl) ?_
  obtain ⟨r_1, u_2, c_3, h⟩ := bd2_ok h
  refine x_Vi (As := []) (w' := fl [tB G t u_2, cB G a v]) X hw (m_X3_next (G := G) (l := l) (t := t) c_3) (Cut.blocks (bs' := [tB G t u_2, cB G a v]) [0] [1] [0, 1] [tB G t u_2] rfl rfl rfl rfl rfl) 0 0 rfl rfl rfl (cwV 0 hts gX3_readItem_X3_next rfl rfl rfl hd_X3_next ⟨Nat.le_of_ble_eq_true rfl, Nat.le_of_ble_eq_true rfl⟩) rfl hl.1 rfl (Nat.le_of_ble_eq_true rfl) dX3_readItem_1 ⟨Nat.le_of_ble_eq_true rfl, Nat.le_of_ble_eq_true rfl⟩ (fun H locs hw => ?_)
  refine lv_istore_n (lv' := [(2, .int r_1), (0, .ref (t 0)), (1, .ref (a 0))]) hx hb dX3_readItem_4 rfl hl (by decide) rfl (fun ls hl => ?_)
  refine lv_iload_n hx hb dX3_readItem_5 rfl (lv_at hl 0 rfl) ?_
  refine lv_bipush (v := 99) hx hb dX3_readItem_6 (by decide) ?_
  refine lv_icmp_eq (tgt := 17) hx hb dX3_readItem_8 (by decide) (fun k_4 => ?_) (fun k_4 => ?_)
  · have h := br_yes h k_4
    exact w_X3_readItem_b17 X u_2 v r_1 _ _ _ h hw (lv_sub hl [1, 2, 0] rfl)
  · have h := br_no h k_4
    refine lv_iload_n hx hb dX3_readItem_11 rfl (lv_at hl 0 rfl) ?_
    refine lv_bipush (v := 102) hx hb dX3_readItem_12 (by decide) ?_
    refine lv_icmp_ne (tgt := 21) hx hb dX3_readItem_14 (by decide) (fun k_5 => ?_) (fun k_5 => ?_)
    · have h := br_no h k_5
      refine lv_iconst (v := 0) hx hb dX3_readItem_21 (by decide) ?_
      exact w_X3_readItem_b22 X u_2 v r_1 0 _ _ _ h hw (lv_sub hl [1, 2, 0] rfl)
    · have h := br_yes h k_5
      exact w_X3_readItem_b17 X u_2 v r_1 _ _ _ h hw (lv_sub hl [1, 2, 0] rfl)

def rX3_isAtEnd : Room := { frames := 2, cells := 0, slots := 0, locals := 42 }
theorem hd_X3_isAtEnd : yX3_isAtEnd.cls = RX3 ∧ yX3_isAtEnd.cls ≠ "java/lang/invoke/MethodHandle" ∧ yX3_isAtEnd.cls ≠ "java/lang/invoke/VarHandle" ∧ (parseMethodDescriptor yX3_isAtEnd.desc).map (fun d => d.parameters.length) = some 0 := by decide +kernel
noncomputable def f_X3_isAtEnd  (u : TV)  : Option (Int32 × TV) :=
  bd2 (f_X3_next u) fun r_1 u_2 =>
  br (r_1 = (-1))
    (some (1, u_2))
    (some (0, u_2))
set_option maxHeartbeats 4000000 in
set_option maxRecDepth 100000 in
theorem m_X3_isAtEnd {G : GG} {l : Launch} {t : Nat → Nat} {u : TV}  {r : Int32} {zu : TV} (h : f_X3_isAtEnd u = some (r, zu)) : Ci G l yX3_isAtEnd wsX3_isAtEnd rX3_isAtEnd [.ref (t 0)] (fl [tB G t u]) r (fl [tB G t zu]) := by
  refine Ci.intro cX3_isAtEnd 1 (some .boolean) RX3 (by decide) rfl rfl (Nat.le_of_ble_eq_true rfl) ?_
  intro p e s m below meth c A ls X hw hl
  obtain ⟨⟨hx, hb, hml, hown, hts⟩, hK, hr, hlk, hA⟩ := id X
  unfold f_X3_isAtEnd at h
  have hl : lv_has ls 1 [(0, .ref (t 0))] := hl
  refine lv_aload_n hx hb dX3_isAtEnd_0 rfl (lv_at hl 0 rfl) ?_
  obtain ⟨r_1, u_2, c_3, h⟩ := bd2_ok h
  refine x_Vi (As := []) (w' := fl [tB G t u_2]) X hw (m_X3_next (G := G) (l := l) (t := t) c_3) Cut.all 0 0 rfl rfl rfl (cwV 0 hts gX3_isAtEnd_X3_next rfl rfl rfl hd_X3_next ⟨Nat.le_of_ble_eq_true rfl, Nat.le_of_ble_eq_true rfl⟩) rfl hl.1 rfl (Nat.le_of_ble_eq_true rfl) dX3_isAtEnd_1 ⟨Nat.le_of_ble_eq_true rfl, Nat.le_of_ble_eq_true rfl⟩ (fun H locs hw => ?_)
  refine lv_iconst (v := (-1)) hx hb dX3_isAtEnd_4 (by decide) ?_
  refine lv_icmp_ne (tgt := 12) hx hb dX3_isAtEnd_5 (by decide) (fun k_4 => ?_) (fun k_4 => ?_)
  · have h := br_no h k_4
    refine lv_iconst (v := 0) hx hb dX3_isAtEnd_12 (by decide) ?_
    cases h
    exact x_iret X (narz (Or.inl rfl)) hw rfl rfl dX3_isAtEnd_13
  · have h := br_yes h k_4
    refine lv_iconst (v := 1) hx hb dX3_isAtEnd_8 (by decide) ?_
    refine lv_goto (tgt := 13) hx hb dX3_isAtEnd_9 (by decide) ?_
    cases h
    exact x_iret X (narz (Or.inr rfl)) hw rfl rfl dX3_isAtEnd_13

def rX3_readInto : Room := { frames := 5, cells := 0, slots := 0, locals := 119 }
theorem hd_X3_readInto : yX3_readInto.cls = RX3 ∧ yX3_readInto.cls ≠ "java/lang/invoke/MethodHandle" ∧ yX3_readInto.cls ≠ "java/lang/invoke/VarHandle" ∧ (parseMethodDescriptor yX3_readInto.desc).map (fun d => d.parameters.length) = some 1 := by decide +kernel
theorem in_X3_readInto_3 : ∀ w ∈ u_ws RX3 TX3 5, w ∈ wsX3_readInto := fun w h => (List.mem_cons_of_mem _ (List.mem_append_left _ (List.mem_append_right _ h)))
noncomputable def f_X3_readInto_b54  (k19 : TV → CV → Int32 → Int32 → Option (Int32 × TV × CV)) (u : TV) (v : CV) (x3 : Int32) (y0 : Int32) : Option (Int32 × TV × CV) :=
  br (y0 = 0)
    (nm (x3 + 1 : Int32) fun t_2 =>
     k19 u v y0 t_2)
    (bd (f_X3_expect u 59) fun u_3 =>
     br ((T_fa u_3) = (-1))
       (nm (x3 + 1 : Int32) fun t_7 =>
        k19 u_3 v 1 t_7)
       (nm (x3 + 1 : Int32) fun t_6 =>
        k19 u_3 v 0 t_6))
set_option maxHeartbeats 4000000 in
set_option maxRecDepth 100000 in
theorem w_X3_readInto_b54 {G : GG} {l : Launch} {p : Program} {e : Env} {s : State} {m : MethodId} {args : Array Value} {below : List Frame} {meth : Method} {c : Code} {A : Nat → Prop} {t : Nat → Nat} {a : Nat → Nat}  {r : Int32} {zu : TV} {zv : CV}  {k19 : TV → CV → Int32 → Int32 → Option (Int32 × TV × CV)} (X : Cx p s m args meth c cX3_readInto 4 (some .int) wsX3_readInto RX3 G A) (hk19 : ∀ (u : TV) (v : CV) (x2 : Int32) (x3 : Int32) (H : Heap) (locs : List Loc) (ls : Array Slot), k19 u v x2 x3 = some (r, zu, zv) → Wd G A s H locs (fl [tB G t u, cB G a v]) → lv_has ls 4 [(0, .ref (t 0)), (1, .ref (a 0)), (2, .int x2), (3, .int x3)] → W p l e rX3_readInto s m args below meth c H locs 0 0 (MQ below (Qi G A r (fl [tB G t zu, cB G a zv])) args s 0 0 A) (F0 m 19 ls [])) :
    ∀ (u : TV) (v : CV) (x3 : Int32) (y0 : Int32) (H : Heap) (locs : List Loc) (ls : Array Slot), f_X3_readInto_b54 k19 u v x3 y0 = some (r, zu, zv) → Wd G A s H locs (fl [tB G t u, cB G a v]) → lv_has ls 4 [(0, .ref (t 0)), (1, .ref (a 0)), (3, .int x3)] → W p l e rX3_readInto s m args below meth c H locs 0 0 (MQ below (Qi G A r (fl [tB G t zu, cB G a zv])) args s 0 0 A) (F0 m 54 ls [.int y0]) := by
  obtain ⟨⟨hx, hb, hml, hown, hts⟩, hK, hr, hlk, hA⟩ := id X
  intro u v x3 y0 H locs ls h hw hl
  unfold f_X3_readInto_b54 at h
  refine lv_istore_n (lv' := [(2, .int y0), (0, .ref (t 0)), (1, .ref (a 0)), (3, .int x3)]) hx hb dX3_readInto_54 rfl hl (by decide) rfl (fun ls hl => ?_)
  refine lv_iload_n hx hb dX3_readInto_55 rfl (lv_at hl 0 rfl) ?_
  refine lv_if_eq (tgt := 79) hx hb dX3_readInto_56 (by decide) (fun k_1 => ?_) (fun k_1 => ?_)
  · have h := br_yes h k_1
    obtain ⟨t_2, et_2, h⟩ := nm_ok h
    refine lv_iinc (v := t_2) (lv' := [(3, .int t_2), (2, .int y0), (0, .ref (t 0)), (1, .ref (a 0))]) hx hb dX3_readInto_79 hl (k := 3) rfl (by rw [et_2]; rfl) (by decide) rfl (fun ls hl => ?_)
    refine lv_goto (tgt := 19) hx hb dX3_readInto_82 (by decide) ?_
    exact hk19 u v y0 t_2 _ _ _ h hw (lv_sub hl [2, 3, 1, 0] rfl)
  · have h := br_no h k_1
    refine lv_aload_n hx hb dX3_readInto_59 rfl (lv_at hl 1 rfl) ?_
    refine lv_bipush (v := 59) hx hb dX3_readInto_60 (by decide) ?_
    obtain ⟨u_3, c_4, h⟩ := bd_ok h
    refine x_Vv (As := [.int 59]) (w' := fl [tB G t u_3, cB G a v]) X hw (m_X3_expect (G := G) (l := l) (t := t) c_4) (Cut.blocks (bs' := [tB G t u_3, cB G a v]) [0] [1] [0, 1] [tB G t u_3] rfl rfl rfl rfl rfl) 0 0 rfl rfl rfl (cwV 1 hts gX3_readInto_X3_expect rfl rfl rfl hd_X3_expect ⟨Nat.le_of_ble_eq_true rfl, Nat.le_of_ble_eq_true rfl⟩) rfl hl.1 rfl (Nat.le_of_ble_eq_true rfl) dX3_readInto_62 ⟨Nat.le_of_ble_eq_true rfl, Nat.le_of_ble_eq_true rfl⟩ (fun H locs hw => ?_)
    refine lv_aload_n hx hb dX3_readInto_65 rfl (lv_at hl 1 rfl) ?_
    refine x_get (v := .int (T_fa u_3)) 0 0 X hw in_X3_readInto_3 rfl rfl rfl 4 (by decide) (List.mem_of_getElem? (i := 2) rfl) rfl rfl dX3_readInto_66 ?_
    refine lv_iconst (v := (-1)) hx hb dX3_readInto_69 (by decide) ?_
    refine lv_icmp_ne (tgt := 77) hx hb dX3_readInto_70 (by decide) (fun k_5 => ?_) (fun k_5 => ?_)
    · have h := br_no h k_5
      refine lv_iconst (v := 0) hx hb dX3_readInto_77 (by decide) ?_
      refine lv_istore_n (lv' := [(2, .int 0), (0, .ref (t 0)), (1, .ref (a 0)), (3, .int x3)]) hx hb dX3_readInto_78 rfl hl (by decide) rfl (fun ls hl => ?_)
      obtain ⟨t_6, et_6, h⟩ := nm_ok h
      refine lv_iinc (v := t_6) (lv' := [(3, .int t_6), (2, .int 0), (0, .ref (t 0)), (1, .ref (a 0))]) hx hb dX3_readInto_79 hl (k := 3) rfl (by rw [et_6]; rfl) (by decide) rfl (fun ls hl => ?_)
      refine lv_goto (tgt := 19) hx hb dX3_readInto_82 (by decide) ?_
      exact hk19 u_3 v 0 t_6 _ _ _ h hw (lv_sub hl [2, 3, 1, 0] rfl)
    · have h := br_yes h k_5
      refine lv_iconst (v := 1) hx hb dX3_readInto_73 (by decide) ?_
      refine lv_goto (tgt := 78) hx hb dX3_readInto_74 (by decide) ?_
      refine lv_istore_n (lv' := [(2, .int 1), (0, .ref (t 0)), (1, .ref (a 0)), (3, .int x3)]) hx hb dX3_readInto_78 rfl hl (by decide) rfl (fun ls hl => ?_)
      obtain ⟨t_7, et_7, h⟩ := nm_ok h
      refine lv_iinc (v := t_7) (lv' := [(3, .int t_7), (2, .int 1), (0, .ref (t 0)), (1, .ref (a 0))]) hx hb dX3_readInto_79 hl (k := 3) rfl (by rw [et_7]; rfl) (by decide) rfl (fun ls hl => ?_)
      refine lv_goto (tgt := 19) hx hb dX3_readInto_82 (by decide) ?_
      exact hk19 u_3 v 1 t_7 _ _ _ h hw (lv_sub hl [2, 3, 1, 0] rfl)
noncomputable def f_X3_readInto_b53  (k19 : TV → CV → Int32 → Int32 → Option (Int32 × TV × CV)) (u : TV) (v : CV) (x3 : Int32) : Option (Int32 × TV × CV) :=
  f_X3_readInto_b54 k19 u v x3 0
set_option maxHeartbeats 4000000 in
set_option maxRecDepth 100000 in
theorem w_X3_readInto_b53 {G : GG} {l : Launch} {p : Program} {e : Env} {s : State} {m : MethodId} {args : Array Value} {below : List Frame} {meth : Method} {c : Code} {A : Nat → Prop} {t : Nat → Nat} {a : Nat → Nat}  {r : Int32} {zu : TV} {zv : CV}  {k19 : TV → CV → Int32 → Int32 → Option (Int32 × TV × CV)} (X : Cx p s m args meth c cX3_readInto 4 (some .int) wsX3_readInto RX3 G A) (hk19 : ∀ (u : TV) (v : CV) (x2 : Int32) (x3 : Int32) (H : Heap) (locs : List Loc) (ls : Array Slot), k19 u v x2 x3 = some (r, zu, zv) → Wd G A s H locs (fl [tB G t u, cB G a v]) → lv_has ls 4 [(0, .ref (t 0)), (1, .ref (a 0)), (2, .int x2), (3, .int x3)] → W p l e rX3_readInto s m args below meth c H locs 0 0 (MQ below (Qi G A r (fl [tB G t zu, cB G a zv])) args s 0 0 A) (F0 m 19 ls [])) :
    ∀ (u : TV) (v : CV) (x3 : Int32) (H : Heap) (locs : List Loc) (ls : Array Slot), f_X3_readInto_b53 k19 u v x3 = some (r, zu, zv) → Wd G A s H locs (fl [tB G t u, cB G a v]) → lv_has ls 4 [(0, .ref (t 0)), (1, .ref (a 0)), (3, .int x3)] → W p l e rX3_readInto s m args below meth c H locs 0 0 (MQ below (Qi G A r (fl [tB G t zu, cB G a zv])) args s 0 0 A) (F0 m 53 ls []) := by
  obtain ⟨⟨hx, hb, hml, hown, hts⟩, hK, hr, hlk, hA⟩ := id X
  intro u v x3 H locs ls h hw hl
  unfold f_X3_readInto_b53 at h
  refine lv_iconst (v := 0) hx hb dX3_readInto_53 (by decide) ?_
  exact w_X3_readInto_b54 X hk19 u v x3 0 _ _ _ h hw (lv_sub hl [0, 1, 2] rfl)
noncomputable def f_X3_readInto_b19   : Nat → TV → CV → Int32 → Int32 → Option (Int32 × TV × CV)
  | 0 => fun _ _ _ _ => none
  | n + 1 => fun u v x2 x3 =>
    br (120 < x3)
      (some ((T_fa u), u, v))
      (br (x2 = 0)
         (some ((T_fa u), u, v))
         (bd2 (f_X3_readItem u v) fun u_3 v_4 =>
          br ((T_fa u_3) = (-1))
            (bd2 (f_X3_isAtEnd u_3) fun r_7 u_8 =>
             br (r_7 = 0)
               (f_X3_readInto_b54 (f_X3_readInto_b19 n) u_8 v_4 x3 1)
               (f_X3_readInto_b53 (f_X3_readInto_b19 n) u_8 v_4 x3))
            (f_X3_readInto_b53 (f_X3_readInto_b19 n) u_3 v_4 x3)))
set_option maxHeartbeats 4000000 in
set_option maxRecDepth 100000 in
theorem w_X3_readInto_b19 {G : GG} {l : Launch} {p : Program} {e : Env} {s : State} {m : MethodId} {args : Array Value} {below : List Frame} {meth : Method} {c : Code} {A : Nat → Prop} {t : Nat → Nat} {a : Nat → Nat}  {r : Int32} {zu : TV} {zv : CV}   (X : Cx p s m args meth c cX3_readInto 4 (some .int) wsX3_readInto RX3 G A)  :
    ∀ (n : Nat) (u : TV) (v : CV) (x2 : Int32) (x3 : Int32) (H : Heap) (locs : List Loc) (ls : Array Slot), f_X3_readInto_b19 n u v x2 x3 = some (r, zu, zv) → Wd G A s H locs (fl [tB G t u, cB G a v]) → lv_has ls 4 [(0, .ref (t 0)), (1, .ref (a 0)), (2, .int x2), (3, .int x3)] → W p l e rX3_readInto s m args below meth c H locs 0 0 (MQ below (Qi G A r (fl [tB G t zu, cB G a zv])) args s 0 0 A) (F0 m 19 ls []) := by
  obtain ⟨⟨hx, hb, hml, hown, hts⟩, hK, hr, hlk, hA⟩ := id X
  intro n
  induction n with
  | zero =>
    intro u v x2 x3 H locs ls h
    rw [f_X3_readInto_b19] at h
    cases h
  | succ n ih =>
    intro u v x2 x3 H locs ls h hw hl
    rw [f_X3_readInto_b19] at h
    refine lv_iload_n hx hb dX3_readInto_19 rfl (lv_at hl 3 rfl) ?_
    refine lv_bipush (v := 120) hx hb dX3_readInto_20 (by decide) ?_
    refine lv_icmp_gt (tgt := 85) hx hb dX3_readInto_22 (by decide) (fun k_1 => ?_) (fun k_1 => ?_)
    · have h := br_yes h k_1
      refine lv_aload_n hx hb dX3_readInto_85 rfl (lv_at hl 0 rfl) ?_
      refine x_get (v := .int (T_fa u)) 0 0 X hw in_X3_readInto_3 rfl rfl rfl 4 (by decide) (List.mem_of_getElem? (i := 2) rfl) rfl rfl dX3_readInto_86 ?_
      cases h
      exact x_iret X (vp_nar_int _) hw rfl rfl dX3_readInto_89
    · have h := br_no h k_1
      refine lv_iload_n hx hb dX3_readInto_25 rfl (lv_at hl 2 rfl) ?_
      refine lv_if_eq (tgt := 85) hx hb dX3_readInto_26 (by decide) (fun k_2 => ?_) (fun k_2 => ?_)
      · have h := br_yes h k_2
        refine lv_aload_n hx hb dX3_readInto_85 rfl (lv_at hl 0 rfl) ?_
        refine x_get (v := .int (T_fa u)) 0 0 X hw in_X3_readInto_3 rfl rfl rfl 4 (by decide) (List.mem_of_getElem? (i := 2) rfl) rfl rfl dX3_readInto_86 ?_
        cases h
        exact x_iret X (vp_nar_int _) hw rfl rfl dX3_readInto_89
      · have h := br_no h k_2
        refine lv_aload_n hx hb dX3_readInto_29 rfl (lv_at hl 0 rfl) ?_
        refine lv_aload_n hx hb dX3_readInto_30 rfl (lv_at hl 1 rfl) ?_
        obtain ⟨u_3, v_4, c_5, h⟩ := bd2_ok h
        refine x_Vv (As := [.ref (a 0)]) (w' := fl [tB G t u_3, cB G a v_4]) X hw (m_X3_readItem (G := G) (l := l) (t := t) (a := a) c_5) Cut.all 0 0 rfl rfl rfl (cwV 1 hts gX3_readInto_X3_readItem rfl rfl rfl hd_X3_readItem ⟨Nat.le_of_ble_eq_true rfl, Nat.le_of_ble_eq_true rfl⟩) rfl hl.1 rfl (Nat.le_of_ble_eq_true rfl) dX3_readInto_31 ⟨Nat.le_of_ble_eq_true rfl, Nat.le_of_ble_eq_true rfl⟩ (fun H locs hw => ?_)
        refine lv_aload_n hx hb dX3_readInto_34 rfl (lv_at hl 0 rfl) ?_
        refine x_get (v := .int (T_fa u_3)) 0 0 X hw in_X3_readInto_3 rfl rfl rfl 4 (by decide) (List.mem_of_getElem? (i := 2) rfl) rfl rfl dX3_readInto_35 ?_
        refine lv_iconst (v := (-1)) hx hb dX3_readInto_38 (by decide) ?_
        refine lv_icmp_ne (tgt := 53) hx hb dX3_readInto_39 (by decide) (fun k_6 => ?_) (fun k_6 => ?_)
        · have h := br_no h k_6
          exact w_X3_readInto_b53 X ih u_3 v_4 x3 _ _ _ h hw (lv_sub hl [0, 1, 3] rfl)
        · have h := br_yes h k_6
          refine lv_aload_n hx hb dX3_readInto_42 rfl (lv_at hl 0 rfl) ?_
          obtain ⟨r_7, u_8, c_9, h⟩ := bd2_ok h
          refine x_Vi (As := []) (w' := fl [tB G t u_8, cB G a v_4]) X hw (m_X3_isAtEnd (G := G) (l := l) (t := t) c_9) (Cut.blocks (bs' := [tB G t u_8, cB G a v_4]) [0] [1] [0, 1] [tB G t u_8] rfl rfl rfl rfl rfl) 0 0 rfl rfl rfl (cwV 0 hts gX3_readInto_X3_isAtEnd rfl rfl rfl hd_X3_isAtEnd ⟨Nat.le_of_ble_eq_true rfl, Nat.le_of_ble_eq_true rfl⟩) rfl hl.1 rfl (Nat.le_of_ble_eq_true rfl) dX3_readInto_43 ⟨Nat.le_of_ble_eq_true rfl, Nat.le_of_ble_eq_true rfl⟩ (fun H locs hw => ?_)
          refine lv_if_ne (tgt := 53) hx hb dX3_readInto_46 (by decide) (fun k_10 => ?_) (fun k_10 => ?_)
          · have h := br_no h k_10
            exact w_X3_readInto_b53 X ih u_8 v_4 x3 _ _ _ h hw (lv_sub hl [0, 1, 3] rfl)
          · have h := br_yes h k_10
            refine lv_iconst (v := 1) hx hb dX3_readInto_49 (by decide) ?_
            refine lv_goto (tgt := 54) hx hb dX3_readInto_50 (by decide) ?_
            exact w_X3_readInto_b54 X ih u_8 v_4 x3 1 _ _ _ h hw (lv_sub hl [0, 1, 3] rfl)
noncomputable def f_X3_readInto  (u : TV) (v : CV)  : Option (Int32 × TV × CV) :=
  f_X3_readInto_b19 FU ((T_co u), (T_le u), 0, 0, (-1)) v 1 0
set_option maxHeartbeats 4000000 in
set_option maxRecDepth 100000 in
theorem m_X3_readInto {G : GG} {l : Launch} {t : Nat → Nat} {a : Nat → Nat} {u : TV} {v : CV}  {r : Int32} {zu : TV} {zv : CV} (h : f_X3_readInto u v = some (r, zu, zv)) : Ci G l yX3_readInto wsX3_readInto rX3_readInto [.ref (t 0), .ref (a 0)] (fl [tB G t u, cB G a v]) r (fl [tB G t zu, cB G a zv]) := by
  refine Ci.intro cX3_readInto 4 (some .int) RX3 (by decide) rfl rfl (Nat.le_of_ble_eq_true rfl) ?_
  intro p e s m below meth c A ls X hw hl
  obtain ⟨⟨hx, hb, hml, hown, hts⟩, hK, hr, hlk, hA⟩ := id X
  unfold f_X3_readInto at h
  have hl : lv_has ls 4 [(0, .ref (t 0)), (1, .ref (a 0))] := hl
  refine lv_aload_n hx hb dX3_readInto_0 rfl (lv_at hl 0 rfl) ?_
  refine lv_iconst (v := 0) hx hb dX3_readInto_1 (by decide) ?_
  refine x_put (bs' := [tB G t ((T_co u), (T_le u), (T_it u), 0, (T_fa u)), cB G a v]) 0 0 X hw in_X3_readInto_3 tyX3 tyX3_ok nmX3 rfl rfl rfl 3 (by decide) (List.mem_of_getElem? (i := 1) rfl) rfl rfl rfl rfl (Nat.le_of_ble_eq_true rfl) dX3_readInto_2 rfl (fun H locs hw => ?_)
  refine lv_aload_n hx hb dX3_readInto_5 rfl (lv_at hl 0 rfl) ?_
  refine lv_iconst (v := (-1)) hx hb dX3_readInto_6 (by decide) ?_
  refine x_put (bs' := [tB G t ((T_co u), (T_le u), (T_it u), 0, (-1)), cB G a v]) 0 0 X hw in_X3_readInto_3 tyX3 tyX3_ok nmX3 rfl rfl rfl 4 (by decide) (List.mem_of_getElem? (i := 2) rfl) rfl rfl rfl rfl (Nat.le_of_ble_eq_true rfl) dX3_readInto_7 rfl (fun H locs hw => ?_)
  refine lv_aload_n hx hb dX3_readInto_10 rfl (lv_at hl 0 rfl) ?_
  refine lv_iconst (v := 0) hx hb dX3_readInto_11 (by decide) ?_
  refine x_put (bs' := [tB G t ((T_co u), (T_le u), 0, 0, (-1)), cB G a v]) 0 0 X hw in_X3_readInto_3 tyX3 tyX3_ok nmX3 rfl rfl rfl 2 (by decide) (List.mem_of_getElem? (i := 3) rfl) rfl rfl rfl rfl (Nat.le_of_ble_eq_true rfl) dX3_readInto_12 rfl (fun H locs hw => ?_)
  refine lv_iconst (v := 1) hx hb dX3_readInto_15 (by decide) ?_
  refine lv_istore_n (lv' := [(2, .int 1), (0, .ref (t 0)), (1, .ref (a 0))]) hx hb dX3_readInto_16 rfl hl (by decide) rfl (fun ls hl => ?_)
  refine lv_iconst (v := 0) hx hb dX3_readInto_17 (by decide) ?_
  refine lv_istore_n (lv' := [(3, .int 0), (2, .int 1), (0, .ref (t 0)), (1, .ref (a 0))]) hx hb dX3_readInto_18 rfl hl (by decide) rfl (fun ls hl => ?_)
  exact w_X3_readInto_b19 X FU ((T_co u), (T_le u), 0, 0, (-1)) v 1 0 _ _ _ h hw (lv_sub hl [2, 3, 1, 0] rfl)
