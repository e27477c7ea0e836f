/-! ===== 61: a cell of the script, in the law ===== -/
theorem x_cell {p : Program} {l : Launch} {e : Env} {s : State} {m : MethodId} {b L : Nat} {xs : Nat → Int32} {below : List Frame} {meth : Method} {c : Code} {G : GG} {A : Nat → Prop} {H : Heap} {locs : List Loc} {ls : Array Slot} {rest : List Value} {pc : Nat} {Q : State → Prop} {w : va_W} {k : Int32} (X : Cx p s m #[Value.ref b] meth c cL_law 9 ret wsL_law RL G A) (hX : va_X b L xs s s.heap) (hbl : b < s.heap.size) (hbA : ¬ A b) (hL : L < 2 ^ 31) (hw : Wd G A s H locs w) (hk : ¬ k < 0) (hls : ls.size = 9) (hW : (rest.map fun v => v.category).sum ≤ 8) (hdg : decode cL_law pc = .ok (.invokestatic 92, 3))
    (kk : ∀ (H : Heap) (locs : List Loc), Wd G A s H locs w → W p l e room_1 s m #[Value.ref b] below meth c H locs 600000 7302250 Q (F0 m (pc + 3) ls (.int (cellV L xs k) :: rest))) : W p l e room_1 s m #[Value.ref b] below meth c H locs 600000 7302250 Q (F0 m pc ls (.int k :: .ref b :: rest)) := by
  have hHb : H[b]? = s.heap[b]? := hw.2.2.2.1 b hbl hbA
  have pre : ∀ U : State, U.heap = H → s.WarmedH U.vm → Px G [.ref b, .int k] b L xs H.size ([.ref b, .int k] : List Value).toArray U := by
    intro U hU hW
    refine ⟨rfl, by rw [hU], X.2.1.warm hW, ?_, Nat.lt_of_lt_of_le hbl hw.2.2.1⟩
    rw [hU]
    exact (va_X.moved hW.alike hX).kept hHb
  exact after_i X hw Cut.nil (va_runS (As := [.ref b, .int k]) (rest := rest) X.1 (m_L_cell hL hk H.size) (va_cwS 2 X.1.2.2.2.2 gL_law_L_cell rfl rfl rfl hd_L_cell.2 ⟨Nat.le_of_ble_eq_true rfl, Nat.le_of_ble_eq_true rfl⟩) ⟨Px.blind, pre⟩ rfl rfl hls rfl (lv_room hW) hdg ⟨Nat.le_refl _, Nat.le_refl _⟩) kk
