/-! ===== 44: the calls that change: the model's side; the model's digest ===== -/
theorem saveR {v : MV} {σ : ST} (hR : RelM v σ) (h : OkT σ) : ∃ r', f_X5_saves v = some (sv v r' (pkk (t_k σ))) ∧ RepM r' (t_S σ) ∧ HistM r' (pkk (t_k σ)) (ph (t_k σ) (t_h σ) (t_S σ)) :=
  saves_ok h.k hR.sa hR.r h.S hR.h h.h
theorem putR {v : MV} {σ : ST} {S' : SC} {r' r2 : AF} (hR : RelM v σ) (hh : HistM r' (pkk (t_k σ)) (ph (t_k σ) (t_h σ) (t_S σ))) (h2 : RepM r2 S') (h3 : ∀ x, 92 ≤ x → r2 x = r' x) : RelM (sv v r2 (pkk (t_k σ))) (put σ S') :=
  ⟨h2, rfl, hh.congr h3, hR.le, hR.tx⟩
theorem msz_ok (x y : Int32) : f_X5_isSize x y = some (if isSz x ∧ isSz y then 1 else 0) := by
  unfold f_X5_isSize
  rw [in_ok, bd_s, b1_ne, in_ok, bd_s, b1_ne]
  by_cases c1 : isSz x
  · rw [if_pos c1]
    by_cases c2 : isSz y
    · rw [if_pos c2, if_pos (show isSz x ∧ isSz y from ⟨c1, c2⟩)]
    · rw [if_neg c2, if_neg (fun z => c2 z.2)]
  · rw [if_neg c1, if_neg (fun z => c1 z.1)]
theorem add_m {v : MV} {σ : ST} (hR : RelM v σ) (h : OkT σ) {x1 x2 x3 : Int32} (h3 : x3 = 0 ∨ x3 = 1) : ∃ v', f_X5_addSection v x1 x2 x3 = some ((spAdd σ x1 x2 x3).1, v') ∧ RelM v' (spAdd σ x1 x2 x3).2 := by
  have hn := h.S.n
  unfold f_X5_addSection spAdd
  rw [msz_ok, bd_s, b1_ne, ck0, z0, hR.r.n, show (12 : Int32) = nI 12 from rfl, br_eq _ _ (by omega) (by omega)]
  by_cases c : isSz x1 ∧ isSz x2
  · rw [if_pos c, if_pos c]
    by_cases d : s_n (t_S σ) < 12
    · rw [if_neg (show ¬ s_n (t_S σ) = 12 from by omega), if_pos d]
      obtain ⟨a, ha, rfl⟩ := sz_of c.1
      obtain ⟨b, hb, rfl⟩ := sz_of c.2
      obtain ⟨r', e, k1, k2⟩ := saveR hR h
      rw [e, bd_s, cl_ (by omega), cl_ (by omega)]
      rcases h3 with rfl | rfl
      · obtain ⟨e2, r2, o2⟩ := lays_ok (v := sv v r' (pkk (t_k σ))) k1 h.S d (vo := a) (ar := b) (ch := 0) (fe := 0)
        rw [br_T rfl]
        rw [show (0 : Int32) = nI 0 from rfl, e2, bd_s, show ck (vp_in (nI 0) 644) = ck (vp_in (0 : Int32) 644) from rfl, ck0, cl_ (by omega)]
        refine ⟨_, ?_, putR hR k2 r2 o2⟩
        rw [show M_ro (sr (sv v r' (pkk (t_k σ))) (lay (M_ro (sv v r' (pkk (t_k σ)))) (s_n (t_S σ)) a b 0 0)) 0 = nI (s_n (t_S σ) + 1) from r2.n, nI_pred]
        rfl
      · obtain ⟨e2, r2, o2⟩ := lays_ok (v := sv v r' (pkk (t_k σ))) k1 h.S d (vo := a) (ar := b) (ch := 0) (fe := 1)
        rw [br_F (by decide)]
        rw [show (0 : Int32) = nI 0 from rfl, show (1 : Int32) = nI 1 from rfl, e2, bd_s, show ck (vp_in (nI 0) 644) = ck (vp_in (0 : Int32) 644) from rfl, ck0, cl_ (n := 1) (by omega)]
        refine ⟨_, ?_, putR hR k2 r2 o2⟩
        rw [show M_ro (sr (sv v r' (pkk (t_k σ))) (lay (M_ro (sv v r' (pkk (t_k σ)))) (s_n (t_S σ)) a b 0 1)) 0 = nI (s_n (t_S σ) + 1) from r2.n, show (nI (s_n (t_S σ) + 1) - nI 1 : Int32) = nI (s_n (t_S σ)) from nI_pred _]
        rfl
    · rw [if_pos (show s_n (t_S σ) = 12 from by omega), if_neg d]; exact ⟨v, rfl, hR⟩
  · rw [if_neg c, if_neg c]; exact ⟨v, rfl, hR⟩
theorem rep_msize {r : AF} {S : SC} (h : RepM r S) (hO : OkC S) {i a b : Nat} (hi : i < s_n S) : RepM (upd (upd r (4 + 4 * i) (nI a)) (4 + 4 * i + 1) (nI b)) (sSize S i a b) := by
  have hn := hO.n
  have hm := hO.m
  have o : ∀ x, x ≠ 4 + 4 * i → x ≠ 4 + 4 * i + 1 → upd (upd r (4 + 4 * i) (nI a)) (4 + 4 * i + 1) (nI b) x = r x := fun x h1 h2 => (upd_n h2).trans (upd_n h1)
  refine ⟨(o _ (by omega) (by omega)).trans h.n, (o _ (by omega) (by omega)).trans h.m, (o _ (by omega) (by omega)).trans h.sh, (o _ (by omega) (by omega)).trans h.pi, fun j hj => ?_, fun j hj => ?_, fun j hj => (o _ (by omega) (by omega)).trans (h.ch j hj), fun j hj => (o _ (by omega) (by omega)).trans (h.fe j hj), fun j hj => (o _ (by omega) (by omega)).trans (h.ja j hj), fun j hj => (o _ (by omega) (by omega)).trans (h.jb j hj)⟩
  · show _ = nI (va_up (s_vo S) i a j)
    unfold va_up
    by_cases c : j = i
    · rw [if_pos c, c, upd_n (by omega), upd_s]
    · rw [if_neg c, o _ (by omega) (by omega)]; exact h.vo j hj
  · show _ = nI (va_up (s_ar S) i b j)
    unfold va_up
    by_cases c : j = i
    · rw [if_pos c, c, upd_s]
    · rw [if_neg c, o _ (by omega) (by omega)]; exact h.ar j hj
theorem size_m {v : MV} {σ : ST} (hR : RelM v σ) (h : OkT σ) {x1 x2 x3 : Int32} : ∃ v', f_X5_resize v x1 x2 x3 = some ((spSize σ x1 x2 x3).1, v') ∧ RelM v' (spSize σ x1 x2 x3).2 := by
  have hn := h.S.n
  unfold f_X5_resize spSize
  rw [isSec_ok hR.r h.S, bd_s, b1_ne, msz_ok, bd_s, b1_ne]
  rcases inN_cases x1 (n := s_n (t_S σ)) (by omega) with ⟨i, hi, rfl, q⟩ | ⟨q, q'⟩
  · rw [if_pos q, if_pos q]
    by_cases c : isSz x2 ∧ isSz x3
    · rw [if_pos c, if_pos c]
      obtain ⟨a, ha, rfl⟩ := sz_of c.1
      obtain ⟨b, hb, rfl⟩ := sz_of c.2
      obtain ⟨r', e, k1, k2⟩ := saveR hR h
      rw [e, bd_s, of0 (v := sv v r' (pkk (t_k σ))) k1 h.S hi, bd_s, show (4 : Int32) = nI 4 from rfl, lin, nm_s, ck_in (by omega) (by omega), nm_s, nI_1, nm_s, ck_in (by omega) (by omega), nm_s, cl_ (n := a) (by omega), cl_ (n := b) (by omega), cl_ (n := i) (by omega), cl_ (by omega), cl_ (by omega)]
      exact ⟨_, rfl, putR (v := v) hR k2 (rep_msize k1 h.S hi) (fun x hx => (upd_n (by omega)).trans (upd_n (by omega)))⟩
    · rw [if_neg c, if_neg c]; exact ⟨v, rfl, hR⟩
  · rw [if_neg q', if_neg q']; exact ⟨v, rfl, hR⟩
theorem chill_m {v : MV} {σ : ST} (hR : RelM v σ) (h : OkT σ) {x1 x2 : Int32} : ∃ v', f_X5_setChill v x1 x2 = some ((spChill σ x1 x2).1, v') ∧ RelM v' (spChill σ x1 x2).2 := by
  have hn := h.S.n
  unfold f_X5_setChill spChill
  rw [isSec_ok hR.r h.S, bd_s, b1_ne, in_ok, bd_s, b1_ne]
  rcases inN_cases x1 (n := s_n (t_S σ)) (by omega) with ⟨i, hi, rfl, q⟩ | ⟨q, q'⟩
  · rw [if_pos q, if_pos q]
    by_cases c : 0 ≤ x2 ∧ x2 ≤ 500
    · rw [if_pos c, if_pos c]
      obtain ⟨a, ha, rfl⟩ := dig (b := 500) (by omega) c
      obtain ⟨r', e, k1, k2⟩ := saveR hR h
      rw [e, bd_s, of2 (v := sv v r' (pkk (t_k σ))) k1 h.S hi, bd_s, show (4 : Int32) = nI 4 from rfl, lin, show (2 : Int32) = nI 2 from rfl, nI_add, nm_s, ck_in (by omega) (by omega), nm_s, cl_ (n := a) (by omega), cl_ (n := i) (by omega), cl_ (by omega)]
      exact ⟨_, rfl, putR (v := v) hR k2 (rep_mchill k1 h.S hi) (fun x hx => upd_n (by omega))⟩
    · rw [if_neg c, if_neg c]; exact ⟨v, rfl, hR⟩
  · rw [if_neg q', if_neg q']; exact ⟨v, rfl, hR⟩
theorem join_m {v : MV} {σ : ST} (hR : RelM v σ) (h : OkT σ) {x1 x2 : Int32} : ∃ v', f_X5_join v x1 x2 = some ((spJoin σ x1 x2).1, v') ∧ RelM v' (spJoin σ x1 x2).2 := by
  have hn := h.S.n
  have hm := h.S.m
  unfold f_X5_join spJoin
  rw [isSec_ok hR.r h.S, bd_s, b1_ne, isSec_ok hR.r h.S, bd_s, b1_ne]
  rcases inN_cases x1 (n := s_n (t_S σ)) (by omega) with ⟨i, hi, rfl, q⟩ | ⟨q, q'⟩
  · rw [if_pos q]
    rcases inN_cases x2 (n := s_n (t_S σ)) (by omega) with ⟨j, hj, rfl, r⟩ | ⟨r, r'⟩
    · rw [if_pos r, if_pos (show inN (s_n (t_S σ)) (nI i) ∧ inN (s_n (t_S σ)) (nI j) from ⟨q, r⟩), cl_ (n := i) (by omega), cl_ (n := j) (by omega), br_eq _ _ (by omega) (by omega)]
      by_cases c1 : i = j
      · rw [if_pos c1, if_neg (fun z => z.1 c1)]; exact ⟨v, rfl, hR⟩
      · rw [if_neg c1, neigh_ok hR.r h.S (by omega) (by omega), bd_s, b2_br]
        by_cases c2 : nb (t_S σ) i j = true
        · rw [if_pos c2, if_neg (fun z => by rw [c2] at z; cases z.2)]; exact ⟨v, rfl, hR⟩
        · have c2' : nb (t_S σ) i j = false := by
            cases e : nb (t_S σ) i j with
            | false => rfl
            | true => exact absurd e c2
          rw [if_neg c2, if_pos (show i ≠ j ∧ nb (t_S σ) i j = false from ⟨c1, c2'⟩), ck1, z1, hR.r.m, show (20 : Int32) = nI 20 from rfl, br_eq _ _ (by omega) (by omega)]
          by_cases d : s_m (t_S σ) < 20
          · obtain ⟨r', e, k1, k2⟩ := saveR hR h
            obtain ⟨e2, r2, o2⟩ := joins_ok (v := sv v r' (pkk (t_k σ))) k1 h.S d (a := i) (b := j)
            rw [if_neg (show ¬ s_m (t_S σ) = 20 from by omega), if_pos d, e, bd_s, e2, bd_s, ck1]
            refine ⟨_, ?_, putR hR k2 r2 o2⟩
            rw [show M_ro (sr (sv v r' (pkk (t_k σ))) (jn (M_ro (sv v r' (pkk (t_k σ)))) (s_m (t_S σ)) i j)) 1 = nI (s_m (t_S σ) + 1) from r2.m, nI_pred]
            rfl
          · rw [if_pos (show s_m (t_S σ) = 20 from by omega), if_neg d]; exact ⟨v, rfl, hR⟩
    · rw [if_neg r', if_neg (fun z => r' z.2)]; exact ⟨v, rfl, hR⟩
  · rw [if_neg q', if_neg (fun z => q' z.1)]; exact ⟨v, rfl, hR⟩
theorem metal_m {v : MV} {σ : ST} (hR : RelM v σ) (h : OkT σ) {x1 x2 : Int32} : ∃ v', f_X5_setMetal v x1 x2 = some ((spMetal σ x1 x2).1, v') ∧ RelM v' (spMetal σ x1 x2).2 := by
  unfold f_X5_setMetal spMetal
  rw [in_ok, bd_s, b1_ne, in_ok, bd_s, b1_ne]
  by_cases c1 : 0 ≤ x1 ∧ x1 ≤ 200
  · rw [if_pos c1]
    by_cases c2 : 0 ≤ x2 ∧ x2 ≤ 500
    · rw [if_pos c2, if_pos (show (0 ≤ x1 ∧ x1 ≤ 200) ∧ (0 ≤ x2 ∧ x2 ≤ 500) from ⟨c1, c2⟩)]
      obtain ⟨a, ha, rfl⟩ := dig (b := 200) (by omega) c1
      obtain ⟨b, hb, rfl⟩ := dig (b := 500) (by omega) c2
      obtain ⟨r', e, k1, k2⟩ := saveR hR h
      have o : ∀ x, x ≠ 2 → x ≠ 3 → upd (upd r' 2 (nI a)) 3 (nI b) x = r' x := fun x h1 h2 => (upd_n h2).trans (upd_n h1)
      have r2 : RepM (upd (upd r' 2 (nI a)) 3 (nI b)) (sMetal (t_S σ) a b) :=
        ⟨(o _ (by omega) (by omega)).trans k1.n, (o _ (by omega) (by omega)).trans k1.m, (upd_n (by omega)).trans upd_s, upd_s, fun j hj => (o _ (by omega) (by omega)).trans (k1.vo j hj), fun j hj => (o _ (by omega) (by omega)).trans (k1.ar j hj), fun j hj => (o _ (by omega) (by omega)).trans (k1.ch j hj), fun j hj => (o _ (by omega) (by omega)).trans (k1.fe j hj), fun j hj => (o _ (by omega) (by omega)).trans (k1.ja j hj), fun j hj => (o _ (by omega) (by omega)).trans (k1.jb j hj)⟩
      rw [e, bd_s, ck2, nm_s, ck2, nm_s, ck3, nm_s, z2, z3, cl_ (n := a) (by omega), cl_ (n := b) (by omega)]
      refine ⟨_, ?_, putR hR k2 r2 (fun x hx => o x (by omega) (by omega))⟩
      rw [show M_ro (sv v r' (pkk (t_k σ))) 2 = nI (s_sh (t_S σ)) from k1.sh]
      rfl
    · rw [if_neg c2, if_neg (fun z => c2 z.2)]; exact ⟨v, rfl, hR⟩
  · rw [if_neg c1, if_neg (fun z => c1 z.1)]; exact ⟨v, rfl, hR⟩
/-! moving a row -/
def shc (c : Nat) (f : AF) (lo i : Nat) : AF := fun k => if lo ≤ k ∧ k < i then f (k + c) else f k
theorem shc_0 {c lo : Nat} {f : AF} : shc c f lo lo = f := by
  funext k
  unfold shc
  rw [if_neg (by omega)]
theorem shc_s {c lo i : Nat} {f : AF} {x : Int32} (h : lo ≤ i) (hx : x = shc c f lo i (i + c)) : upd (shc c f lo i) i x = shc c f lo (i + 1) := by
  have e : shc c f lo i (i + c) = f (i + c) := by
    unfold shc
    rw [if_neg (by omega)]
  funext k
  unfold upd
  by_cases q : k = i
  · subst q
    rw [if_pos rfl, hx, e]
    unfold shc
    rw [if_pos (by omega)]
  · rw [if_neg q]
    unfold shc
    by_cases d : lo ≤ k ∧ k < i
    · rw [if_pos d, if_pos (by omega)]
    · rw [if_neg d, if_neg (by omega)]
theorem shc_out {c lo i k : Nat} {f : AF} (h : k < lo ∨ i ≤ k) : shc c f lo i k = f k := by
  unfold shc
  rw [if_neg (by omega)]
theorem shc_in {c lo i k : Nat} {f : AF} (h1 : lo ≤ k) (h2 : k < i) : shc c f lo i k = f (k + c) := by
  unfold shc
  rw [if_pos ⟨h1, h2⟩]
/-- a joint less -/
def lj (r : AF) (m j : Nat) : AF := shc 2 (upd r 1 (nI (m - 1))) (52 + 2 * j) (52 + 2 * (m - 1))
theorem parts_ok {v : MV} {S : SC} (h : RepM (M_ro v) S) (hO : OkC S) {j : Nat} (hj : j < s_m S) : f_X5_parts v (nI j) = some (sr v (lj (M_ro v) (s_m S) j)) ∧ RepM (lj (M_ro v) (s_m S) j) (sUnlink S j) ∧ ∀ x, 92 ≤ x → lj (M_ro v) (s_m S) j x = M_ro v x := by
  have hn := hO.n
  have hm := hO.m
  refine ⟨?_, ?_, fun x hx => (shc_out (by omega)).trans (upd_n (by omega))⟩
  · obtain ⟨r, sa, od, st, ne, fd, tx, le, a, nu, it, hh⟩ := v
    have h : RepM r S := h
    show _ = some (lj r (s_m S) j, sa, od, st, ne, fd, tx, le, a, nu, it, hh)
    unfold f_X5_parts
    dsimp only [M_ro, M_sa, M_od, M_st, M_ne, M_fd, M_tx, M_le, M_at, M_nu, M_it, M_h]
    rw [ck1, nm_s, ck1, nm_s, nm_s, z1, h.m, show (2 : Int32) = nI 2 from rfl, pk_mul, pred_nI (by omega)]
    unfold lj
    generalize hr1 : upd r 1 (nI (s_m S - 1)) = r1
    have e1 : ∀ i, r1 1 = nI (s_m S - 1) → shc 2 r1 (52 + 2 * j) i 1 = nI (s_m S - 1) := fun i hi => (shc_out (by omega)).trans hi
    have e2 : r1 1 = nI (s_m S - 1) := by rw [← hr1]; exact upd_s
    have e0 : ((r1, sa, od, st, ne, fd, tx, le, a, nu, it, hh) : MV) = (shc 2 r1 (52 + 2 * j) (52 + 2 * j), sa, od, st, ne, fd, tx, le, a, nu, it, hh) := by rw [shc_0]
    refine (congrArg (fun z => f_X5_parts_b14 FU z (nI (2 * j))) e0).trans ?_
    refine loopN (fun fu i => f_X5_parts_b14 fu (shc 2 r1 (52 + 2 * j) (52 + i), sa, od, st, ne, fd, tx, le, a, nu, it, hh) (nI i)) (2 * j) (2 * (s_m S - 1)) _ (fun fu i hji hi => ?_) (fun fu => ?_) (2 * (s_m S - 1) - 2 * j) (2 * j) FU (Nat.le_refl _) (by omega) (FU_big (by omega))
    · try dsimp only
      rw [f_X5_parts_b14]
      dsimp only [M_ro, M_sa, M_od, M_st, M_ne, M_fd, M_tx, M_le, M_at, M_nu, M_it, M_h]
      rw [ck1, z1, e1 _ e2, show (2 : Int32) = nI 2 from rfl, pk_mul, br_le _ _ (by omega) (by omega), if_neg (by omega), show (52 : Int32) = nI 52 from rfl, nI_add, nI_add, nm_s, ck_in (by omega) (by omega), nm_s, nm_s, ck_in (by omega) (by omega), nm_s, nm_s, nI_1, cl_ (by omega), cl_ (by omega), shc_s (by omega) rfl]
      rfl
    · try dsimp only
      rw [f_X5_parts_b14]
      dsimp only [M_ro, M_sa, M_od, M_st, M_ne, M_fd, M_tx, M_le, M_at, M_nu, M_it, M_h]
      rw [ck1, z1, e1 _ e2, show (2 : Int32) = nI 2 from rfl, pk_mul, br_le _ _ (by omega) (by omega), if_pos (by omega)]
  · have o : ∀ x, x < 52 + 2 * j → x ≠ 1 → lj (M_ro v) (s_m S) j x = M_ro v x := fun x h1 h2 => (shc_out (by omega)).trans (upd_n h2)
    refine ⟨(o _ (by omega) (by omega)).trans h.n, (shc_out (by omega)).trans upd_s, (o _ (by omega) (by omega)).trans h.sh, (o _ (by omega) (by omega)).trans h.pi, fun i hi => ?_, fun i hi => ?_, fun i hi => ?_, fun i hi => ?_, fun t ht => ?_, fun t ht => ?_⟩
    · have hi' : i < s_n S := hi
      exact (o _ (by omega) (by omega)).trans (h.vo i hi)
    · have hi' : i < s_n S := hi
      exact (o _ (by omega) (by omega)).trans (h.ar i hi)
    · have hi' : i < s_n S := hi
      exact (o _ (by omega) (by omega)).trans (h.ch i hi)
    · have hi' : i < s_n S := hi
      exact (o _ (by omega) (by omega)).trans (h.fe i hi)
    · have ht' : t < s_m S - 1 := ht
      show _ = nI (shl (s_ja S) j t)
      unfold shl
      by_cases c : t < j
      · rw [if_pos c, o _ (by omega) (by omega)]; exact h.ja t (by omega)
      · rw [if_neg c]
        refine (shc_in (by omega) (by omega)).trans ((upd_n (by omega)).trans ?_)
        exact h.ja (t + 1) (by omega)
    · have ht' : t < s_m S - 1 := ht
      show _ = nI (shl (s_jb S) j t)
      unfold shl
      by_cases c : t < j
      · rw [if_pos c, o _ (by omega) (by omega)]; exact h.jb t (by omega)
      · rw [if_neg c]
        refine (shc_in (by omega) (by omega)).trans ((upd_n (by omega)).trans ?_)
        exact h.jb (t + 1) (by omega)
theorem part_m {v : MV} {σ : ST} (hR : RelM v σ) (h : OkT σ) {x1 : Int32} : ∃ v', f_X5_part v x1 = some ((spPart σ x1).1, v') ∧ RelM v' (spPart σ x1).2 := by
  have hm := h.S.m
  unfold f_X5_part spPart
  rw [isJnt_ok hR.r h.S, bd_s, b1_ne]
  rcases inN_cases x1 (n := s_m (t_S σ)) (by omega) with ⟨j, hj, rfl, q⟩ | ⟨q, q'⟩
  · obtain ⟨r', e, k1, k2⟩ := saveR hR h
    obtain ⟨e2, r2, o2⟩ := parts_ok (v := sv v r' (pkk (t_k σ))) k1 h.S hj
    rw [if_pos q, if_pos q, cl_ (by omega), e, bd_s, e2, bd_s, ck1, z1]
    refine ⟨_, ?_, putR hR k2 r2 o2⟩
    rw [show M_ro (sr (sv v r' (pkk (t_k σ))) (lj (M_ro (sv v r' (pkk (t_k σ)))) (s_m (t_S σ)) j)) 1 = nI (s_m (t_S σ) - 1) from r2.m]
    rfl
  · rw [if_neg q', if_neg q']; exact ⟨v, rfl, hR⟩
/-! removeSection -/
theorem m24_ok {s : Nat} (hs : s < 12) : ∀ (r fu : Nat) (v : MV) (S : SC), RepM (M_ro v) S → OkC S → r ≤ s_m S → r < fu → ∃ r', f_X5_removeSection_b24 (nI s) fu v (nI r - 1) = f_X5_removeSection_b73 (nI s) FU (sr v r') 0 ∧ RepM r' (sDropJ S s r) ∧ ∀ x, 92 ≤ x → r' x = M_ro v x := by
  intro r
  induction r with
  | zero =>
    intro fu v S h hO hr hf
    obtain ⟨fu, rfl⟩ : ∃ z, fu = z + 1 := ⟨fu - 1, by omega⟩
    refine ⟨M_ro v, ?_, h, fun x _ => rfl⟩
    rw [f_X5_removeSection_b24]
    dsimp only
    rw [br_T (show (nI 0 - 1 : Int32) < 0 by decide)]
    rfl
  | succ r ih =>
    intro fu v S h hO hr hf
    obtain ⟨fu, rfl⟩ : ∃ z, fu = z + 1 := ⟨fu - 1, by omega⟩
    have hn := hO.n
    have hm := hO.m
    obtain ⟨j1, j2, j3⟩ := hO.jj (j := r) (by omega)
    obtain ⟨e2, r2, o2⟩ := parts_ok h hO (j := r) (by omega)
    have q2 : (nI r + -1 : Int32) = nI r - 1 := (Int32.sub_eq_add_neg _ _).symm
    rw [f_X5_removeSection_b24]
    dsimp only
    unfold f_X5_removeSection_b60 sDropJ
    rw [nI_pred, br_neg _ (by omega), show (52 : Int32) = nI 52 from rfl, show (2 : Int32) = nI 2 from rfl, lin, nm_s, ck_in (by omega) (by omega), cl_ (by omega), h.ja r (by omega), br_eq _ _ (by omega) (by omega), nI_1, nm_s, ck_in (by omega) (by omega), cl_ (by omega), h.jb r (by omega), br_eq _ _ (by omega) (by omega), nm_s, e2, bd_s, nm_s, q2]
    by_cases c : tch S r s = true
    · have c' := of_decide_eq_true c
      have both : ∀ {p q : Option (Int32 × MV)}, (if s_ja S r = s then p else if s_jb S r = s then p else q) = p := by
        intro p q
        by_cases d : s_ja S r = s
        · rw [if_pos d]
        · rw [if_neg d, if_pos (by omega)]
      rw [both, if_pos c]
      obtain ⟨r', e, a, b⟩ := ih fu (sr v (lj (M_ro v) (s_m S) r)) (sUnlink S r) r2 (sUnlink_ok hO (by omega)) (by show r ≤ s_m S - 1; omega) (by omega)
      exact ⟨r', e, a, fun x hx => (b x hx).trans (o2 x hx)⟩
    · have c' : ¬ (s_ja S r = s ∨ s_jb S r = s) := fun z => c (decide_eq_true z)
      rw [if_neg (show ¬ s_ja S r = s from by omega), if_neg (show ¬ s_jb S r = s from by omega), if_neg c]
      exact ih fu v S h hO (by omega) (by omega)
def rnm (f : AF) (s i : Nat) : AF := fun x => if 52 ≤ x ∧ x < 52 + i then (if f x ≤ nI s then f x else f x - 1) else f x
theorem rnm_0 {f : AF} {s : Nat} : rnm f s 0 = f := by
  funext x
  unfold rnm
  rw [if_neg (by omega)]
theorem rnm_at {f : AF} {s i : Nat} : rnm f s i (52 + i) = f (52 + i) := by
  unfold rnm
  rw [if_neg (by omega)]
theorem rnm_s {f : AF} {s i : Nat} {y : Int32} (hy : y = if f (52 + i) ≤ nI s then f (52 + i) else f (52 + i) - 1) : upd (rnm f s i) (52 + i) y = rnm f s (i + 1) := by
  funext x
  unfold upd
  by_cases q : x = 52 + i
  · subst q
    rw [if_pos rfl, hy]
    unfold rnm
    rw [if_pos (show 52 ≤ 52 + i ∧ 52 + i < 52 + (i + 1) from by omega)]
  · rw [if_neg q]
    unfold rnm
    by_cases d : 52 ≤ x ∧ x < 52 + i
    · rw [if_pos d, if_pos (show 52 ≤ x ∧ x < 52 + (i + 1) from by omega)]
    · rw [if_neg d, if_neg (show ¬ (52 ≤ x ∧ x < 52 + (i + 1)) from by omega)]
theorem rnm_out {f : AF} {s i x : Nat} (h : x < 52 ∨ 52 + i ≤ x) : rnm f s i x = f x := by
  unfold rnm
  rw [if_neg (by omega)]
theorem rnm_in {f : AF} {s i x a : Nat} (h1 : 52 ≤ x) (h2 : x < 52 + i) (hs : s < 2 ^ 31) (ha : a < 2 ^ 31) (h : f x = nI a) : rnm f s i x = nI (ren s a) := by
  unfold rnm ren
  rw [if_pos ⟨h1, h2⟩, h]
  by_cases c : a ≤ s
  · rw [if_pos c, if_pos (nI_le c hs)]
  · rw [if_neg c, if_neg (fun z => c ((nI_leI ha hs).mp z)), pred_nI (by omega)]
/-- a section less -/
def lsec (r : AF) (n m s : Nat) : AF := shc 4 (upd (rnm r s (2 * m)) 0 (nI (n - 1))) (4 + 4 * s) (4 + 4 * (n - 1))
theorem m73_ok {v : MV} {S : SC} (h : RepM (M_ro v) S) (hO : OkC S) {s : Nat} (hs : s < s_n S) : f_X5_removeSection_b73 (nI s) FU v 0 = some (nI (s_n S - 1), sr v (lsec (M_ro v) (s_n S) (s_m S) s)) := by
  have hn := hO.n
  have hm := hO.m
  obtain ⟨r, sa, od, st, ne, fd, tx, le, a, nu, it, hh⟩ := v
  have h : RepM r S := h
  show _ = some (nI (s_n S - 1), lsec r (s_n S) (s_m S) s, sa, od, st, ne, fd, tx, le, a, nu, it, hh)
  have m1 : ∀ i, rnm r s i 1 = nI (s_m S) := fun i => (rnm_out (by omega)).trans h.m
  have m0 : ∀ i, rnm r s i 0 = nI (s_n S) := fun i => (rnm_out (by omega)).trans h.n
  have e0 : ((r, sa, od, st, ne, fd, tx, le, a, nu, it, hh) : MV) = (rnm r s 0, sa, od, st, ne, fd, tx, le, a, nu, it, hh) := by rw [rnm_0]
  refine (congrArg (fun z => f_X5_removeSection_b73 (nI s) FU z (nI 0)) e0).trans ?_
  refine loop0 (fun fu i => f_X5_removeSection_b73 (nI s) fu (rnm r s i, sa, od, st, ne, fd, tx, le, a, nu, it, hh) (nI i)) (2 * s_m S) _ (by omega) (fun fu i hi => ?_) (fun fu => ?_)
  · try dsimp only
    rw [f_X5_removeSection_b73]
    dsimp only [M_ro, M_sa, M_od, M_st, M_ne, M_fd, M_tx, M_le, M_at, M_nu, M_it, M_h]
    rw [ck1, z1, m1, show (2 : Int32) = nI 2 from rfl, pk_mul, br_le _ _ (by omega) (by omega), if_neg (by omega), show (52 : Int32) = nI 52 from rfl, nI_add]
    simp only [nm_s, nI_1, cl_ (by omega : 52 + i < 2 ^ 31), ck_in (by omega : 52 + i < 644) (by omega : 644 < 2 ^ 31), rnm_at]
    rw [show (r (52 + i) - 0 : Int32) = r (52 + i) from by simp]
    by_cases c : r (52 + i) ≤ nI s
    · rw [br_T c, rnm_s (by rw [if_pos c])]
    · rw [br_F c, rnm_s (by rw [if_neg c])]
  · try dsimp only
    rw [f_X5_removeSection_b73]
    dsimp only [M_ro, M_sa, M_od, M_st, M_ne, M_fd, M_tx, M_le, M_at, M_nu, M_it, M_h]
    rw [ck1, z1, m1, show (2 : Int32) = nI 2 from rfl, pk_mul, br_le _ _ (by omega) (by omega), if_pos (by omega), ck0, z0, m0, pred_nI (by omega), nm_s, ck0, nm_s, show (4 : Int32) = nI 4 from rfl, pk_mul, nm_s]
    unfold lsec
    generalize hr1 : upd (rnm r s (2 * s_m S)) 0 (nI (s_n S - 1)) = r1
    have e1 : ∀ i, r1 0 = nI (s_n S - 1) → shc 4 r1 (4 + 4 * s) i 0 = nI (s_n S - 1) := fun i hi => (shc_out (by omega)).trans hi
    have e2 : r1 0 = nI (s_n S - 1) := by rw [← hr1]; exact upd_s
    have e0 : ((r1, sa, od, st, ne, fd, tx, le, a, nu, it, hh) : MV) = (shc 4 r1 (4 + 4 * s) (4 + 4 * s), sa, od, st, ne, fd, tx, le, a, nu, it, hh) := by rw [shc_0]
    refine (congrArg (fun z => f_X5_removeSection_b135 FU z (nI (4 * s))) e0).trans ?_
    refine loopN (fun fu i => f_X5_removeSection_b135 fu (shc 4 r1 (4 + 4 * s) (4 + i), sa, od, st, ne, fd, tx, le, a, nu, it, hh) (nI i)) (4 * s) (4 * (s_n S - 1)) _ (fun fu i hji hi => ?_) (fun fu => ?_) (4 * (s_n S - 1) - 4 * s) (4 * s) FU (Nat.le_refl _) (by omega) (FU_big (by omega))
    · try dsimp only
      rw [f_X5_removeSection_b135]
      dsimp only [M_ro, M_sa, M_od, M_st, M_ne, M_fd, M_tx, M_le, M_at, M_nu, M_it, M_h]
      rw [ck0, z0, e1 _ e2, show (4 : Int32) = nI 4 from rfl, pk_mul, br_le _ _ (by omega) (by omega), if_neg (by omega), nI_add, nI_add, nm_s, ck_in (by omega) (by omega), nm_s, nm_s, ck_in (by omega) (by omega), nm_s, nm_s, nI_1, cl_ (by omega), cl_ (by omega), shc_s (by omega) rfl]
      rfl
    · try dsimp only
      rw [f_X5_removeSection_b135]
      dsimp only [M_ro, M_sa, M_od, M_st, M_ne, M_fd, M_tx, M_le, M_at, M_nu, M_it, M_h]
      rw [ck0, z0, e1 _ e2, show (4 : Int32) = nI 4 from rfl, pk_mul, br_le _ _ (by omega) (by omega), if_pos (by omega), ck0]
theorem drop_m {v : MV} {σ : ST} (hR : RelM v σ) (h : OkT σ) {x1 : Int32} : ∃ v', f_X5_removeSection v x1 = some ((spDrop σ x1).1, v') ∧ RelM v' (spDrop σ x1).2 := by
  have hn := h.S.n
  unfold f_X5_removeSection spDrop
  rw [isSec_ok hR.r h.S, bd_s, b1_ne]
  rcases inN_cases x1 (n := s_n (t_S σ)) (by omega) with ⟨s, hs, rfl, q⟩ | ⟨q, q'⟩
  · obtain ⟨r', e, k1, k2⟩ := saveR hR h
    obtain ⟨r2, e2, k3, k4⟩ := m24_ok (s := s) (by omega) (s_m (t_S σ)) FU (sv v r' (pkk (t_k σ))) (t_S σ) k1 h.S (Nat.le_refl _) (FU_big (by have := h.S.m; omega))
    obtain ⟨o, f1, f2, ev, ea, ec, ef, esh, epi⟩ := sDropJ_ok (s := s) (s_m (t_S σ)) (t_S σ) h.S (Nat.le_refl _) (fun j h1 h2 => by omega)
    generalize hS1 : sDropJ (t_S σ) s (s_m (t_S σ)) = S1 at k3 o f1 f2 ev ea ec ef esh epi
    have hm := o.m
    have e3 := m73_ok (v := sr (sv v r' (pkk (t_k σ))) r2) k3 o (s := s) (by omega)
    rw [if_pos q, if_pos q, cl_ (by omega), e, bd_s, ck1, z1, show M_ro (sv v r' (pkk (t_k σ))) 1 = nI (s_m (t_S σ)) from k1.m, nm_s, e2, e3]
    have far : ∀ x, 4 + 4 * (s_n S1 - 1) ≤ x → 92 ≤ x → lsec r2 (s_n S1) (s_m S1) s x = r2 x := fun x h1 h2 => (shc_out (by omega)).trans ((upd_n (by omega)).trans (rnm_out (by omega)))
    have low : ∀ x, 1 ≤ x → x < 4 + 4 * s → x < 52 → lsec r2 (s_n S1) (s_m S1) s x = r2 x := fun x h1 h2 h3 => (shc_out (by omega)).trans ((upd_n (by omega)).trans (rnm_out (by omega)))
    have mid : ∀ x, 4 + 4 * s ≤ x → x < 4 + 4 * (s_n S1 - 1) → x + 4 < 52 → lsec r2 (s_n S1) (s_m S1) s x = r2 (x + 4) := fun x h1 h2 h3 => (shc_in h1 h2).trans ((upd_n (by omega)).trans (rnm_out (by omega)))
    have sub : ∀ (g : Nat → Nat) (c : Nat), c < 4 → (∀ i, i < s_n S1 → r2 (4 + 4 * i + c) = nI (g i)) → ∀ i, i < s_n (t_S σ) - 1 → lsec r2 (s_n S1) (s_m S1) s (4 + 4 * i + c) = nI (shl g s i) := by
      intro g c hc hg i hi
      unfold shl
      by_cases d : i < s
      · rw [if_pos d, low _ (by omega) (by omega) (by omega)]; exact hg i (by omega)
      · rw [if_neg d, mid _ (by omega) (by omega) (by omega)]
        have := hg (i + 1) (by omega)
        rwa [show 4 + 4 * (i + 1) + c = 4 + 4 * i + c + 4 from by omega] at this
    have rep : RepM (lsec r2 (s_n S1) (s_m S1) s) (sDrop (t_S σ) s) := by
      refine ⟨?_, ?_, ?_, ?_, ?_, ?_, ?_, ?_, fun j hj => ?_, fun j hj => ?_⟩
      · show _ = nI (s_n (t_S σ) - 1)
        rw [← f1]
        exact (shc_out (by omega)).trans upd_s
      · show _ = nI (s_m (sDropJ (t_S σ) s (s_m (t_S σ))))
        rw [hS1, low _ (by omega) (by omega) (by omega)]; exact k3.m
      · show _ = nI (s_sh (t_S σ))
        rw [← esh, low _ (by omega) (by omega) (by omega)]; exact k3.sh
      · show _ = nI (s_pi (t_S σ))
        rw [← epi, low _ (by omega) (by omega) (by omega)]; exact k3.pi
      · show ∀ i, i < s_n (t_S σ) - 1 → _ = nI (shl (s_vo (t_S σ)) s i)
        rw [← ev]
        exact sub _ 0 (by omega) k3.vo
      · show ∀ i, i < s_n (t_S σ) - 1 → _ = nI (shl (s_ar (t_S σ)) s i)
        rw [← ea]
        exact sub _ 1 (by omega) k3.ar
      · show ∀ i, i < s_n (t_S σ) - 1 → _ = nI (shl (s_ch (t_S σ)) s i)
        rw [← ec]
        exact sub _ 2 (by omega) k3.ch
      · show ∀ i, i < s_n (t_S σ) - 1 → _ = nI (shl (s_fe (t_S σ)) s i)
        rw [← ef]
        exact sub _ 3 (by omega) k3.fe
      · have hj' : j < s_m (sDropJ (t_S σ) s (s_m (t_S σ))) := hj
        show _ = nI (ren s (s_ja (sDropJ (t_S σ) s (s_m (t_S σ))) j))
        rw [hS1] at hj' ⊢
        have := o.jj hj'
        exact (shc_out (by omega)).trans ((upd_n (by omega)).trans (rnm_in (by omega) (by omega) (by omega) (by omega) (k3.ja j hj')))
      · have hj' : j < s_m (sDropJ (t_S σ) s (s_m (t_S σ))) := hj
        show _ = nI (ren s (s_jb (sDropJ (t_S σ) s (s_m (t_S σ))) j))
        rw [hS1] at hj' ⊢
        have := o.jj hj'
        exact (shc_out (by omega)).trans ((upd_n (by omega)).trans (rnm_in (by omega) (by omega) (by omega) (by omega) (k3.jb j hj')))
    refine ⟨_, ?_, putR hR k2 rep (fun x hx => (far x (by omega) hx).trans (k4 x hx))⟩
    rw [f1]
    rfl
  · rw [if_neg q', if_neg q']; exact ⟨v, rfl, hR⟩
/-! undo, type, clearText -/
theorem undo_m {v : MV} {σ : ST} (hR : RelM v σ) (h : OkT σ) : ∃ v', f_X5_undo v = some ((spUndo σ).1, v') ∧ RelM v' (spUndo σ).2 := by
  have hk := h.k
  unfold f_X5_undo spUndo
  rw [hR.sa, br_z _ (by omega)]
  by_cases c : t_k σ = 0
  · rw [if_pos c, if_pos c]; exact ⟨v, rfl, hR⟩
  · rw [if_neg c, if_neg c, show (0 : Int32) = nI 0 from rfl, copies_ok (by omega) (by omega), bd_s, show M_sa (sr v (cpd (M_ro v) (t_k σ) 0 92)) = nI (t_k σ) from hR.sa, pred_nI (by omega), nm_s]
    refine ⟨_, rfl, ?_⟩
    have q := hR.h (t_k σ - 1) (by omega)
    rw [show t_k σ - 1 + 1 = t_k σ from by omega] at q
    refine ⟨repK_0.mp (cpd_to q (h.h _ (by omega))), rfl, fun t ht => ?_, hR.le, hR.tx⟩
    have ht' : t < t_k σ - 1 := ht
    exact cpd_else (by omega) (hR.h t (by omega)) (h.h t (by omega))
theorem type_m {v : MV} {σ : ST} (hR : RelM v σ) (h : OkT σ) {x : Int32} : ∃ v', f_X5_type v x = some ((spType σ x).1, v') ∧ RelM v' (spType σ x).2 := by
  have hL := h.L
  unfold f_X5_type spType
  rw [in_ok, bd_s, b1_ne, hR.le, show (120 : Int32) = nI 120 from rfl, br_eq _ _ (by omega) (by omega)]
  by_cases c : 0 ≤ x ∧ x ≤ 255
  · rw [if_pos c, if_pos c]
    by_cases d : t_L σ < 120
    · rw [if_neg (show ¬ t_L σ = 120 from by omega), if_pos d, ck_in d (by omega), nm_s, nm_s, cl_ (by omega), nI_1]
      exact ⟨_, rfl, hR.r, hR.sa, hR.h, rfl, text_up hR.tx⟩
    · rw [if_pos (show t_L σ = 120 from by omega), if_neg d]; exact ⟨v, rfl, hR⟩
  · rw [if_neg c, if_neg c]; exact ⟨v, rfl, hR⟩
theorem clear_m {v : MV} {σ : ST} (hR : RelM v σ) : ∃ v', f_X5_clearText v = some ((spClear σ).1, v') ∧ RelM v' (spClear σ).2 := by
  unfold f_X5_clearText spClear
  rw [hR.le]
  exact ⟨_, rfl, hR.r, hR.sa, hR.h, rfl, fun i hi => absurd hi (Nat.not_lt_zero i)⟩
/-! digest -/
def sh_ (v : MV) (h : Int64) : MV := (M_ro v, M_sa v, M_od v, M_st v, M_ne v, M_fd v, M_tx v, M_le v, M_at v, M_nu v, M_it v, h)
theorem note_ok {v : MV} {x : Int32} : f_X5_note v x = some (sh_ v (31 * M_h v + x.toInt64)) := rfl
theorem dj_ok {v : MV} {S : SC} (h : RepM (M_ro v) S) (hO : OkC S) : ∀ (d j fu : Nat), j + d = s_m S → 2 * d < fu → f_X5_digest_b78 fu (sh_ v (dgJ S j)) (nI (2 * j)) = some (dig_ S, sh_ v (dig_ S)) := by
  have hm := hO.m
  intro d
  induction d with
  | zero =>
    intro j fu h1 h2
    obtain ⟨fu, rfl⟩ : ∃ z, fu = z + 1 := ⟨fu - 1, by omega⟩
    obtain rfl : j = s_m S := by omega
    rw [f_X5_digest_b78]
    dsimp only
    rw [ck1, z1, show M_ro (sh_ v (dgJ S (s_m S))) 1 = nI (s_m S) from h.m, show (2 : Int32) = nI 2 from rfl, pk_mul, br_le _ _ (by omega) (by omega), if_pos (by omega)]
    rfl
  | succ d ih =>
    intro j fu h1 h2
    obtain ⟨fu, rfl⟩ : ∃ z, fu = z + 1 + 1 := ⟨fu - 2, by omega⟩
    rw [f_X5_digest_b78]
    dsimp only
    rw [ck1, z1, show M_ro (sh_ v (dgJ S j)) = M_ro v from rfl, h.m, show (2 : Int32) = nI 2 from rfl, pk_mul, br_le _ _ (by omega) (by omega), if_neg (by omega), show (52 : Int32) = nI 52 from rfl, nI_add, nm_s, ck_in (by omega) (by omega), cl_ (by omega), h.ja j (by omega), note_ok, bd_s, nm_s, nI_1, f_X5_digest_b78]
    dsimp only
    rw [ck1, z1, show M_ro (sh_ (sh_ v (dgJ S j)) (31 * M_h (sh_ v (dgJ S j)) + (nI (s_ja S j)).toInt64)) = M_ro v from rfl, h.m, show (2 : Int32) = nI 2 from rfl, pk_mul, br_le _ _ (by omega) (by omega), if_neg (by omega), show (52 : Int32) = nI 52 from rfl, nI_add, nm_s, ck_in (by omega) (by omega), cl_ (by omega), show 52 + (2 * j + 1) = 52 + 2 * j + 1 from by omega, h.jb j (by omega), note_ok, bd_s, nm_s, nI_1]
    exact ih (j + 1) fu (by omega) (by omega)
theorem ds_in {v : MV} {S : SC} (h : RepM (M_ro v) S) (hF : Frz v S) (hO : OkC S) {i : Nat} (hi : i < s_n S) (k36 : MV → Int32 → Option (Int64 × MV)) (a : Int64) : f_X5_digest_b48 k36 (nI i) FU (sh_ v (dgs S i a 0)) (nI 0) = k36 (sh_ v (dgs S i a 11)) (nI (i + 1)) := by
  refine loop0 (fun fu k => f_X5_digest_b48 k36 (nI i) fu (sh_ v (dgs S i a k)) (nI k)) 11 _ (by omega) (fun fu k hk => ?_) (fun fu => ?_)
  · try dsimp only
    rw [f_X5_digest_b48]
    dsimp only
    rw [show (11 : Int32) = nI 11 from rfl, br_le _ _ (by omega) (by omega), if_neg (by omega), mprop_ok (v := sh_ v (dgs S i a k)) h hF hO hi (by omega), bd_s, note_ok, bd_s, nm_s, nI_1]
    rfl
  · try dsimp only
    rw [f_X5_digest_b48]
    dsimp only
    rw [show (11 : Int32) = nI 11 from rfl, br_le _ _ (by omega) (by omega), if_pos (by omega), nm_s, nI_1]
theorem ds_ok {v : MV} {S : SC} (h : RepM (M_ro v) S) (hF : Frz v S) (hO : OkC S) : f_X5_digest_b36 FU (sh_ v (dgS S 0)) (nI 0) = some (dig_ S, sh_ v (dig_ S)) := by
  have hn := hO.n
  have hm := hO.m
  refine loop0 (fun fu i => f_X5_digest_b36 fu (sh_ v (dgS S i)) (nI i)) (s_n S) _ (by omega) (fun fu i hi => ?_) (fun fu => ?_)
  · try dsimp only
    rw [f_X5_digest_b36]
    dsimp only
    rw [ck0, z0, show M_ro (sh_ v (dgS S i)) = M_ro v from rfl, h.n, br_le _ _ (by omega) (by omega), if_neg (by omega)]
    exact ds_in h hF hO hi _ _
  · try dsimp only
    rw [f_X5_digest_b36]
    dsimp only
    rw [ck0, z0, show M_ro (sh_ v (dgS S (s_n S))) = M_ro v from rfl, h.n, br_le _ _ (by omega) (by omega), if_pos (by omega)]
    exact dj_ok h hO (s_m S) 0 FU (by omega) (FU_big (by omega))
theorem dc_loop {σ : ST} (h : OkT σ) : ∀ (d k fu : Nat) (v : MV), RelM v σ → k + d = 10 → d < fu → M_h v = dgc (t_S σ) k → ∃ v', f_X5_digest_b9 fu v (nI k) = some (dig_ (t_S σ), v') ∧ RelM v' σ := by
  intro d
  induction d with
  | zero =>
    intro k fu v hR h1 h2 h3
    obtain ⟨fu, rfl⟩ : ∃ z, fu = z + 1 := ⟨fu - 1, by omega⟩
    obtain rfl : k = 10 := by omega
    obtain ⟨v', e, hs, hr, hF⟩ := frz_ok hR.r h.S
    have hR' := hR.same hs
    have hh : v' = sh_ v' (dgS (t_S σ) 0) := by
      show v' = sh_ v' (dgc (t_S σ) 10)
      rw [← h3, ← hs.2.2.2.2.2.2.2]
      rfl
    rw [f_X5_digest_b9]
    dsimp only
    rw [show (10 : Int32) = nI 10 from rfl, br_le _ _ (by omega) (by omega), if_pos (by omega), e, bd_s, hh, show (0 : Int32) = nI 0 from rfl]
    exact ⟨_, ds_ok hr hF h.S, hR'.r, hR'.sa, hR'.h, hR'.le, hR'.tx⟩
  | succ d ih =>
    intro k fu v hR h1 h2 h3
    obtain ⟨fu, rfl⟩ : ∃ z, fu = z + 1 := ⟨fu - 1, by omega⟩
    obtain ⟨v', e, hs⟩ := mcount_ok hR.r h.S (nI k)
    have hR' := hR.same hs
    rw [f_X5_digest_b9]
    dsimp only
    rw [show (10 : Int32) = nI 10 from rfl, br_le _ _ (by omega) (by omega), if_neg (by omega), e, bd2_s, note_ok, bd_s, nm_s, nI_1]
    refine ih (k + 1) fu _ ⟨hR'.r, hR'.sa, hR'.h, hR'.le, hR'.tx⟩ (by omega) (by omega) ?_
    show 31 * M_h v' + (aCount (t_S σ) (nI k)).toInt64 = _
    rw [hs.2.2.2.2.2.2.2, h3, aCount_in (by omega)]
    rfl
theorem digest_m {v : MV} {σ : ST} (hR : RelM v σ) (h : OkT σ) : ∃ v', f_X5_digest v = some (dig_ (t_S σ), v') ∧ RelM v' σ := by
  unfold f_X5_digest
  exact dc_loop h 10 0 FU _ ⟨hR.r, hR.sa, hR.h, hR.le, hR.tx⟩ (by omega) (FU_big (by omega)) rfl
