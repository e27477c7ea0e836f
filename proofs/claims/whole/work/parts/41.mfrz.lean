/-! ===== 41: the model's freezing ===== -/
theorem upd_upd {f : AF} {k : Nat} {x y : Int32} : upd (upd f k x) k y = upd f k y := by
  funext j
  unfold upd
  by_cases c : j = k
  · rw [if_pos c, if_pos c]
  · rw [if_neg c, if_neg c, if_neg c]
theorem isBefore_ok {v : MV} {S : SC} (h : RepM (M_ro v) S) (hO : OkC S) {j i : Nat} (hj : j < s_n S) (hi : i < s_n S) : f_X5_isBefore v (nI j) (nI i) = some (b2 (bef S j i)) := by
  have hn := hO.n
  have p1 := prod_le hO hj hi
  have p2 := prod_le hO hi hj
  unfold f_X5_isBefore f_X5_isBefore_b60
  rw [of0 h hO hj, bd_s, of1 h hO hi, bd_s, of2 h hO hi, bd_s, nm_s, of0 h hO hi, bd_s, of1 h hO hj, bd_s, of2 h hO hj, bd_s, nm_s, nI_add, nI_add, pk_mul, pk_mul, br_lt _ _ (by omega) (by omega), br_eq _ _ (by omega) (by omega), br_le _ _ (by omega) (by omega)]
  unfold bef
  by_cases c1 : s_vo S j * (s_ar S i + s_ch S i) < s_vo S i * (s_ar S j + s_ch S j)
  · rw [if_pos c1, decide_eq_true (Or.inl c1)]; rfl
  · rw [if_neg c1]
    by_cases c2 : s_vo S j * (s_ar S i + s_ch S i) = s_vo S i * (s_ar S j + s_ch S j)
    · rw [if_pos c2]
      by_cases c3 : i ≤ j
      · rw [if_pos c3, decide_eq_false (by omega)]; rfl
      · rw [if_neg c3, decide_eq_true (Or.inr ⟨c2, by omega⟩)]; rfl
    · rw [if_neg c2, decide_eq_false (by omega)]; rfl
theorem mneed_ok {v : MV} {S : SC} (h : RepM (M_ro v) S) (hO : OkC S) {i : Nat} (hi : i < s_n S) : f_X5_firstNeed v (nI i) = some (nI (fneed S i)) := by
  have hv := hO.vo hi
  have hs := hO.sh
  have hp : s_vo S i * s_sh S ≤ 5000 * 200 := Nat.mul_le_mul hv.2 hs
  unfold f_X5_firstNeed fneed
  rw [of0 h hO hi, bd_s, ck2, ck_1000, nm_s, z2, h.sh, pk_mul, show (1000 : Int32) = nI 1000 from rfl, pk_div (by omega) (by omega) (by omega)]
theorem b21_ok {r tx : AF} {sa le a nu it : Int32} {hh : Int64} {S : SC} (h : RepM r S) (hO : OkC S) {i : Nat} (hi : i < s_n S) (k2 : MV → Int32 → Option MV) {od st ne fd : AF} :
    f_X5_freezes_b21 k2 (nI i) FU (r, sa, od, upd st i (nI 0), ne, fd, tx, le, a, nu, it, hh) (nI 0) = k2 (r, sa, upd od (rk S i) (nI i), upd st i (nI (rk S i)), upd ne i (nI (fneed S i)), fd, tx, le, a, nu, it, hh) (nI (i + 1)) := by
  have hn := hO.n
  have hr := rk_lt hi
  refine loop0 (fun fu j => f_X5_freezes_b21 k2 (nI i) fu (r, sa, od, upd st i (nI (cnt (fun j => bef S j i) j)), ne, fd, tx, le, a, nu, it, hh) (nI j)) (s_n S) _ (by omega) (fun fu j hj => ?_) (fun fu => ?_)
  · try dsimp only
    rw [f_X5_freezes_b21]
    dsimp only [M_ro, M_sa, M_od, M_st, M_ne, M_fd, M_tx, M_le, M_at, M_nu, M_it, M_h]
    rw [ck0, z0, h.n, br_le _ _ (by omega) (by omega), if_neg (by omega), ck_in (by omega) (by omega), br_eq _ _ (by omega) (by omega), cl_ (by omega), upd_s, show (nI (cnt (fun j => bef S j i) j) + 0 : Int32) = nI (cnt (fun j => bef S j i) j) from by simp]
    simp only [nm_s, nI_1, upd_upd, ck_in (by omega : i < 12) (by omega : 12 < 2 ^ 31)]
    by_cases c : j = i
    · rw [if_pos c, cnt_f (p := fun j => bef S j i) (by rw [c, bef_irr]; simp)]
    · rw [if_neg c, isBefore_ok (v := (r, sa, od, upd st i (nI (cnt (fun j => bef S j i) j)), ne, fd, tx, le, a, nu, it, hh)) h hO hj hi, bd_s, b2_br]
      by_cases d : bef S j i = true
      · rw [if_pos d, cnt_t (p := fun j => bef S j i) d]
      · rw [if_neg d, cnt_f (p := fun j => bef S j i) d]
  · try dsimp only
    rw [f_X5_freezes_b21]
    dsimp only [M_ro, M_sa, M_od, M_st, M_ne, M_fd, M_tx, M_le, M_at, M_nu, M_it, M_h]
    rw [ck0, z0, h.n, br_le _ _ (by omega) (by omega), if_pos (by omega), ck_in (by omega) (by omega), nm_s, cl_ (by omega), upd_s, show cnt (fun j => bef S j i) (s_n S) = rk S i from rfl, ck_in (by omega) (by omega), nm_s, cl_ (by omega)]
    rw [mneed_ok (v := (r, sa, upd od (rk S i) (nI i), upd st i (nI (rk S i)), ne, fd, tx, le, a, nu, it, hh)) h hO hi, bd_s, nm_s, nm_s, nI_1, ck_in (by omega) (by omega)]
/-- the need, as it is moved on to the source -/
def pass (ne : AF) (i : Nat) : Option Nat → AF
  | none => ne
  | some f => upd ne f (ne f + ne i)
theorem b180_ok {r tx : AF} {sa le a nu it : Int32} {hh : Int64} {S : SC} (hO : OkC S) {t i : Nat} (ht : t < s_n S) (hi : i < s_n S) (k96 : MV → Int32 → Option MV) {od st ne fd : AF} (hfd : fd i = enc (src S i)) :
    f_X5_freezes_b180 k96 (r, sa, od, st, ne, fd, tx, le, a, nu, it, hh) (nI t) (nI i) = k96 (r, sa, od, st, pass ne i (src S i), fd, tx, le, a, nu, it, hh) (nI (t + 1)) := by
  have hn := hO.n
  unfold f_X5_freezes_b180
  dsimp only [M_ro, M_sa, M_od, M_st, M_ne, M_fd, M_tx, M_le, M_at, M_nu, M_it, M_h]
  rw [ck_in (by omega) (by omega), cl_ (by omega), hfd, br_src hO]
  cases e : src S i with
  | none => rw [if_pos rfl, nm_s, nI_1]; rfl
  | some f =>
    have hf := (src_some hO e).1
    rw [if_neg (by simp), ck_in (by omega) (by omega), show enc (some f) = nI f from rfl, nm_s, ck_in (by omega) (by omega), ck_in (by omega) (by omega), nm_s, ck_in (by omega) (by omega), nm_s, nm_s, nI_1, cl_ (by omega)]
    rfl
theorem b129_ok {r tx : AF} {sa le a nu it : Int32} {hh : Int64} {S : SC} (h : RepM r S) (hO : OkC S) {t : Nat} (ht : t < s_n S) (k96 : MV → Int32 → Option MV) {od st ne fd : AF} (hod : ∀ t, t < s_n S → od t = nI (ord S t)) :
    ∀ (d s fu : Nat), t + d = s → s < s_n S → d < fu → (∀ g, nb S (ord S t) g = true → t < rk S g → rk S g ≤ s) →
    f_X5_freezes_b129 k96 (nI t) (nI (ord S t)) fu (r, sa, od, st, ne, upd fd (ord S t) (-1), tx, le, a, nu, it, hh) (nI s) = k96 (r, sa, od, st, pass ne (ord S t) (src S (ord S t)), upd fd (ord S t) (enc (src S (ord S t))), tx, le, a, nu, it, hh) (nI (t + 1)) := by
  have hn := hO.n
  obtain ⟨o1, o2⟩ := ord_ok hO ht
  intro d
  induction d with
  | zero =>
    intro s fu h1 h2 h3 h4
    obtain ⟨fu, rfl⟩ : ∃ z, fu = z + 1 := ⟨fu - 1, by omega⟩
    have e : src S (ord S t) = none := by
      refine (src_uniq hO (o := none) ?_).symm
      intro g hg hlt
      have := h4 g hg (by omega)
      omega
    rw [f_X5_freezes_b129]
    dsimp only
    rw [br_le _ _ (by omega) (by omega), if_pos (by omega), e]
    have := b180_ok (r := r) (tx := tx) (sa := sa) (le := le) (a := a) (nu := nu) (it := it) (hh := hh) hO ht o1 k96 (od := od) (st := st) (ne := ne) (fd := upd fd (ord S t) (-1)) (by rw [upd_s, e]; rfl)
    rw [e] at this
    exact this
  | succ d ih =>
    intro s fu h1 h2 h3 h4
    obtain ⟨fu, rfl⟩ : ∃ z, fu = z + 1 := ⟨fu - 1, by omega⟩
    obtain ⟨p1, p2⟩ := ord_ok hO h2
    rw [f_X5_freezes_b129]
    dsimp only [M_ro, M_sa, M_od, M_st, M_ne, M_fd, M_tx, M_le, M_at, M_nu, M_it, M_h]
    rw [br_le _ _ (by omega) (by omega), if_neg (by omega), ck_in (by omega) (by omega), cl_ (by omega), upd_s, br_T rfl, ck_in (by omega) (by omega), cl_ (by omega), hod s h2, neigh_ok (v := (r, sa, od, st, ne, upd fd (ord S t) (-1), tx, le, a, nu, it, hh)) h hO (by omega) (by omega), bd_s, b2_br]
    by_cases c : nb S (ord S t) (ord S s) = true
    · rw [if_pos c, ck_in (by omega) (by omega), nm_s, ck_in (by omega) (by omega), nm_s, nm_s, upd_upd]
      have e : src S (ord S t) = some (ord S s) := by
        refine (src_uniq hO (o := some (ord S s)) ⟨c, by omega, fun g hg hlt => ?_⟩).symm
        have := h4 g hg (by omega)
        omega
      obtain ⟨fu, rfl⟩ : ∃ z, fu = z + 1 := ⟨fu - 1, by omega⟩
      have key := b180_ok (r := r) (tx := tx) (sa := sa) (le := le) (a := a) (nu := nu) (it := it) (hh := hh) hO ht o1 k96 (od := od) (st := st) (ne := ne) (fd := upd fd (ord S t) (nI (ord S s))) (by rw [upd_s, e]; rfl)
      have eq : ∀ x, f_X5_freezes_b129 k96 (nI t) (nI (ord S t)) (fu + 1) (r, sa, od, st, ne, upd fd (ord S t) (nI (ord S s)), tx, le, a, nu, it, hh) x = f_X5_freezes_b180 k96 (r, sa, od, st, ne, upd fd (ord S t) (nI (ord S s)), tx, le, a, nu, it, hh) (nI t) (nI (ord S t)) := by
        intro x
        rw [f_X5_freezes_b129]
        dsimp only [M_ro, M_sa, M_od, M_st, M_ne, M_fd, M_tx, M_le, M_at, M_nu, M_it, M_h]
        by_cases q : x ≤ nI t
        · rw [br_T q]
        · rw [br_F q, ck_in (by omega) (by omega), cl_ (by omega), upd_s, br_F (m1_ne _ (by omega))]
      refine (eq _).trans (key.trans ?_)
      rw [e]
      rfl
    · rw [if_neg c, ck_in (by omega) (by omega), nm_s, nm_s, upd_upd]
      obtain ⟨s', rfl⟩ : ∃ z, s = z + 1 := ⟨s - 1, by omega⟩
      rw [show (nI (s' + 1) + (-1) : Int32) = nI s' from by rw [← nI_pred s', Int32.sub_eq_add_neg]]
      refine ih s' fu (by omega) (by omega) (by omega) (fun g hg hlt => ?_)
      have := h4 g hg hlt
      by_cases q : rk S g = s' + 1
      · have hg' := (nb_lt hO hg).2.1
        have : g = ord S (s' + 1) := rk_inj hO hg' p1 (by omega)
        rw [this] at hg
        exact absurd hg c
      · omega
def FrM (S : SC) (od st ne fd : AF) : Prop := (∀ t, t < s_n S → od t = nI (ord S t)) ∧ (∀ i, i < s_n S → st i = nI (rk S i)) ∧ (∀ i, i < s_n S → ne i = nI (need S i)) ∧ ∀ i, i < s_n S → fd i = enc (src S i)
theorem b96_ok {r tx : AF} {sa le a nu it : Int32} {hh : Int64} {S : SC} (h : RepM r S) (hO : OkC S) {od st : AF} (hod : ∀ t, t < s_n S → od t = nI (ord S t)) :
    ∀ (d t fu : Nat) (ne fd : AF), t + d = s_n S → d < fu → (∀ i, i < s_n S → ne i = nI (nd S t i)) → (∀ s, s < t → fd (ord S s) = enc (src S (ord S s))) →
    ∃ ne' fd', f_X5_freezes_b96 fu (r, sa, od, st, ne, fd, tx, le, a, nu, it, hh) (nI t) = some (r, sa, od, st, ne', fd', tx, le, a, nu, it, hh) ∧ (∀ i, i < s_n S → ne' i = nI (need S i)) ∧ (∀ i, i < s_n S → fd' i = enc (src S i)) := by
  have hn := hO.n
  intro d
  induction d with
  | zero =>
    intro t fu ne fd h1 h2 h3 h4
    obtain ⟨fu, rfl⟩ : ∃ z, fu = z + 1 := ⟨fu - 1, by omega⟩
    obtain rfl : t = s_n S := by omega
    refine ⟨ne, fd, ?_, h3, fun i hi => ?_⟩
    · rw [f_X5_freezes_b96]
      dsimp only [M_ro, M_sa, M_od, M_st, M_ne, M_fd, M_tx, M_le, M_at, M_nu, M_it, M_h]
      rw [ck0, z0, h.n, br_le _ _ (by omega) (by omega), if_pos (by omega)]
    · have := h4 (rk S i) (rk_lt hi)
      rwa [ord_rk hO hi] at this
  | succ d ih =>
    intro t fu ne fd h1 h2 h3 h4
    obtain ⟨fu, rfl⟩ : ∃ z, fu = z + 1 := ⟨fu - 1, by omega⟩
    have ht : t < s_n S := by omega
    obtain ⟨o1, o2⟩ := ord_ok hO ht
    have hlast := b129_ok (tx := tx) (sa := sa) (le := le) (a := a) (nu := nu) (it := it) (hh := hh) h hO ht (f_X5_freezes_b96 fu) (od := od) (st := st) (ne := ne) (fd := fd) hod (s_n S - 1 - t) (s_n S - 1) FU (by omega) (by omega) (FU_big (by omega)) (fun g hg _ => by have := rk_lt (nb_lt hO hg).2.1; omega)
    have hne : ∀ i, i < s_n S → pass ne (ord S t) (src S (ord S t)) i = nI (nd S (t + 1) i) := by
      intro i hi
      cases e : src S (ord S t) with
      | none => rw [nd_n e]; exact h3 i hi
      | some f =>
        have hf := (src_some hO e).1
        rw [nd_f e]
        show upd ne f (ne f + ne (ord S t)) i = nI (va_up (nd S t) f (nd S t f + nd S t (ord S t)) i)
        unfold upd va_up
        by_cases c : i = f
        · rw [if_pos c, if_pos c, h3 f hf, h3 _ o1, nI_add]
        · rw [if_neg c, if_neg c]; exact h3 i hi
    obtain ⟨ne', fd', e, q1, q2⟩ := ih (t + 1) fu (pass ne (ord S t) (src S (ord S t))) (upd fd (ord S t) (enc (src S (ord S t)))) (by omega) (by omega) hne (fun s hs => by
      by_cases c : s = t
      · subst c; exact upd_s
      · rw [upd_n (fun z => ?_)]
        · exact h4 s (by omega)
        · have := (ord_ok hO (t := s) (by omega)).2
          rw [z, o2] at this
          omega)
    refine ⟨ne', fd', ?_, q1, q2⟩
    rw [f_X5_freezes_b96]
    dsimp only [M_ro, M_sa, M_od, M_st, M_ne, M_fd, M_tx, M_le, M_at, M_nu, M_it, M_h]
    rw [ck0, z0, h.n, br_le _ _ (by omega) (by omega), if_neg (by omega), ck_in (by omega) (by omega), nm_s, cl_ (by omega), hod t ht, ck_in (by omega) (by omega), nm_s, ck0, nm_s, pred_nI (by omega), cl_ (by omega)]
    exact hlast.trans e
theorem freezes_ok {r tx : AF} {sa le a nu it : Int32} {hh : Int64} {S : SC} (h : RepM r S) (hO : OkC S) (od st ne fd : AF) : ∃ od' st' ne' fd', f_X5_freezes (r, sa, od, st, ne, fd, tx, le, a, nu, it, hh) = some (r, sa, od', st', ne', fd', tx, le, a, nu, it, hh) ∧ FrM S od' st' ne' fd' := by
  have hn := hO.n
  have hod : ∀ t, t < s_n S → odw S od (s_n S) t = nI (ord S t) := fun t ht => odw_all hO ht
  have hst : ∀ i, i < s_n S → mix (fun i => nI (rk S i)) st (s_n S) i = nI (rk S i) := fun i hi => mix_in hi
  obtain ⟨ne', fd', e, q1, q2⟩ := b96_ok (tx := tx) (sa := sa) (le := le) (a := a) (nu := nu) (it := it) (hh := hh) h hO (od := odw S od (s_n S)) (st := mix (fun i => nI (rk S i)) st (s_n S)) hod (s_n S) 0 FU (mix (fun i => nI (fneed S i)) ne (s_n S)) fd (by omega) (FU_big (by omega)) (fun i hi => (mix_in hi : mix (fun i => nI (fneed S i)) ne (s_n S) i = _)) (fun s hs => by omega)
  refine ⟨_, _, ne', fd', ?_, hod, hst, q1, q2⟩
  unfold f_X5_freezes
  have e0 : ((r, sa, od, st, ne, fd, tx, le, a, nu, it, hh) : MV) = (r, sa, odw S od 0, mix (fun i => nI (rk S i)) st 0, mix (fun i => nI (fneed S i)) ne 0, fd, tx, le, a, nu, it, hh) := by
    rw [mix_0, mix_0]; rfl
  refine (congrArg (fun z => f_X5_freezes_b2 FU z (nI 0)) e0).trans ?_
  refine loop0 (fun fu i => f_X5_freezes_b2 fu (r, sa, odw S od i, mix (fun i => nI (rk S i)) st i, mix (fun i => nI (fneed S i)) ne i, fd, tx, le, a, nu, it, hh) (nI i)) (s_n S) _ (by omega) (fun fu i hi => ?_) (fun fu => ?_)
  · try dsimp only
    rw [f_X5_freezes_b2]
    dsimp only [M_ro, M_sa, M_od, M_st, M_ne, M_fd, M_tx, M_le, M_at, M_nu, M_it, M_h]
    rw [ck0, z0, h.n, br_le _ _ (by omega) (by omega), if_neg (by omega), ck_in (by omega) (by omega), nm_s, cl_ (by omega)]
    refine (b21_ok h hO hi (f_X5_freezes_b2 fu)).trans ?_
    rw [mix_s rfl, mix_s rfl]
    rfl
  · try dsimp only
    rw [f_X5_freezes_b2]
    dsimp only [M_ro, M_sa, M_od, M_st, M_ne, M_fd, M_tx, M_le, M_at, M_nu, M_it, M_h]
    rw [ck0, z0, h.n, br_le _ _ (by omega) (by omega), if_pos (by omega)]
    exact e
