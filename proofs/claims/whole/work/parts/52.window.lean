/-! PURE: which places a copy comes to: window, newest -/
def eX (b : Nat) : Int32 := if b = 0 then m1 else nI (b - 1)
theorem eX_0 {b : Nat} (h : b = 0) : eX b = m1 := if_pos h
theorem eX_s {b : Nat} (h : b ≠ 0) : eX b = nI (b - 1) := if_neg h
def rA (N : Nat → Int32) (c : Nat) : Nat := if ft N c then ltF N c (pg N) else 0
def rB (N : Nat → Int32) (c l : Nat) : Nat := if ft N c && !abF N c l (pg N) then en N c l + 1 else 0
theorem rA_le {N : Nat → Int32} (h : NN N) {c : Nat} (hc : c < nc N) : rA N c ≤ 240 := by
  have := ltF_le h hc (pg N) (NNb h).2.1
  unfold rA
  split <;> omega
theorem rB_le {N : Nat → Int32} (h : NN N) {c l : Nat} : rB N c l ≤ tp N l + 1 := by
  have := en_le h (c := c) (l := l)
  unfold rB
  split <;> omega
theorem aim_r {N : Nat → Int32} (h : NN N) {t : St} {c l : Nat} (hc : c < nc N) (hl : l < nl N) (A : AimP N (nI c) (nI l) t) : t.1 14 = nI (rA N c) ∧ t.1 15 = eX (rB N c l) := by
  obtain ⟨b1, b2, b3, b4, b5, b6, b7, b8⟩ := NNb h
  unfold rA rB
  rcases A with ⟨A1, A2, A3, A4, A5⟩ | ⟨c', l', hc', hl', e1, e2, hf, A1, A2, A3⟩
  · rw [isN_t hl (by omega), isN_t hc (by omega), n_cl (by omega)] at A1
    rcases A1 with q | q | q
    · cases q
    · cases q
    · rw [q]; exact ⟨A4, A5⟩
  · rw [n_eq (by omega) (by omega)] at e1 e2
    subst e1 e2
    rw [hf]
    rcases A3 with ⟨q1, q2, q3, q4⟩ | ⟨q1, q2, q3, q4, q5⟩
    · rw [q1]; exact ⟨A1, q4⟩
    · rw [q1]; exact ⟨A1, q4⟩
theorem rng {N : Nat → Int32} (h : NN N) {c l p : Nat} (hc : c < nc N) (hl : l < nl N) (hp : p ≤ tp N l) : ocx N (nI c) (nI l) (nI p) = 0 ↔ rA N c ≤ p ∧ p < rB N c l := by
  rw [ocx_n h hc hl hp]
  unfold rA rB oc
  cases d : ft N c
  · simp
  · cases d2 : abF N c l (pg N)
    · have o := oc3_en h (c := c) (l := l) hp
      simp only [if_true, Bool.false_eq_true, if_false, Bool.not_false, Bool.and_self]
      by_cases d3 : p < ltF N c (pg N)
      · rw [if_pos d3]; omega
      · rw [if_neg d3]
        by_cases s : p ≤ en N c l
        · rw [if_pos s] at o; omega
        · rw [if_neg s] at o
          obtain ⟨o1, o2, B, o3, o4, o5, o6⟩ := o
          omega
    · simp
theorem sub_1 (x y : Int32) : x - (y + nI 1) + nI 1 = x - y := by
  rw [Int32.sub_eq_add_neg, Int32.neg_add, Int32.sub_eq_add_neg, Int32.sub_eq_add_neg, Int32.add_assoc, Int32.add_assoc, Int32.add_left_neg, Int32.add_zero]
theorem m1_sub (x : Int32) : m1 - x + nI 1 = nI 0 - x := by
  rw [Int32.sub_eq_add_neg, Int32.add_comm m1, Int32.add_assoc, m1_m1, Int32.sub_eq_add_neg, Int32.add_comm]
theorem mx_sub {a b : Nat} (ha : a < 2 ^ 30) (hb : b < 2 ^ 30) : mx (nI 0) (nI b - nI a) = nI (b - a) := by
  by_cases c : a ≤ b
  · rw [pk_sub c, n_mx (by omega) (by omega), Nat.max_eq_right (by omega)]
  · show (if nI 0 < nI b - nI a then nI b - nI a else nI 0) = nI (b - a)
    rw [if_neg, show b - a = 0 by omega]
    rw [Int32.lt_iff_toInt_lt, pk_sub_toInt (by omega) (by omega), nI_toInt (by omega)]
    omega
theorem d_placesReached {F : Nat} {N : Nat → Int32} (h : NN N) {t : St} {c l : Nat} (hc : c < nc N) (hl : l < nl N) (A : AimP N (nI c) (nI l) t) : f_X3_placesReached F t = some (nI (rB N c l - rA N c)) := by
  obtain ⟨e1, e2⟩ := aim_r h hc hl A
  have ht := (h.2.1.1 l hl).2
  have r1 := rA_le h hc
  have r2 := rB_le h (c := c) (l := l)
  unfold f_X3_placesReached
  rw [e1, e2]
  congr 1
  by_cases b0 : rB N c l = 0
  · rw [eX_0 b0, show (1 : Int32) = nI 1 from rfl, m1_sub, show (0 : Int32) = nI 0 from rfl, mx_sub (by omega) (by omega), b0]
  · rw [eX_s b0, show (1 : Int32) = nI 1 from rfl, show (0 : Int32) = nI 0 from rfl]
    by_cases a0 : rA N c = 0
    · rw [a0, show nI (rB N c l - 1) - nI 0 + nI 1 = nI (rB N c l) - nI 0 by rw [pk_sub (by omega), pk_sub (by omega), n_add]; congr 1; omega, mx_sub (by omega) (by omega)]
    · rw [show nI (rA N c) = nI (rA N c - 1) + nI 1 by rw [n_add]; congr 1; omega, sub_1, mx_sub (by omega) (by omega)]
      congr 1
      omega
def wF (a b p : Nat) : Nat := min p b - a
def wfx (a b p v : Nat) : Int32 := if wF a b p = 0 then m2 else nI v
theorem t_windowL {F : Nat} (hF : 300 < F) {N : Nat → Int32} (h : NN N) {c l w : Nat} (hc : c < nc N) (hl : l < nl N) (hw : w < 3) {τ : St} : ∀ (n p : Nat) (t : St), nw t = N → FrM τ t → p ≤ tp N l + 1 → tp N l + 1 - p < n → ∃ t', f_X8_window_41 F n t (nI c) (nI l) (nI w) (nI (wF (rA N c) (rB N c l) p)) (wfx (rA N c) (rB N c l) p (rA N c)) (wfx (rA N c) (rB N c l) p (min p (rB N c l) - 1)) (nI p) = some (if w = 0 then nI (rB N c l - rA N c) else if rB N c l - rA N c = 0 then m2 else if w = 1 then nI (rA N c) else nI (rB N c l - 1), t') ∧ FrM τ t' ∧ nw t' = N := by
  obtain ⟨b1, b2, b3, b4, b5, b6, b7, b8⟩ := NNb h
  have ht := h.2.1.1 l hl
  have r1 := rA_le h hc
  have r2 := rB_le h (c := c) (l := l)
  intro n
  induction n with
  | zero => intro p t _ _ _ h; omega
  | succ n ih =>
    intro p t hN hFr hp hn
    have tp' := t_placeOf (F := F) (τ := t) (show l < 8 by omega)
    rw [hN, ht.1] at tp'
    rw [f_X8_window_41]
    by_cases e : p = tp N l + 1
    · refine ⟨t, ?_, hFr, hN⟩
      have e1 : wF (rA N c) (rB N c l) p = rB N c l - rA N c := by unfold wF; omega
      unfold wfx
      rw [e1, Nat.min_eq_right (by omega)]
      by_cases w0 : w = 0
      · simp (disch := omega) only [↓bnd_i, ↓cal_s, ↓cal_n, ↓cal2_s, ↓cal2_n, cal_s, cal2_s, ↓reduceIte, fa_lit, m1_lit, m2_lit, m1_lt, m2_lt, m1_eq, m2_eq, m1_le, m2_le, le_m1, le_m2, lt_m1, lt_m2, m12, m21, m1_m1, n_lt, n_le, n_eq, lt_t, lt_f, le_t, le_f, eq_t, eq_f, n_cl, inb_ok, n_add, pk_mul, pk_sub, n_rem, n_div, n_dec, n_mx, n_mn, eq_m1, eq_m2, ss_same, ss_ne, ss_r, ss_l, sr_f, sr_l, sr_same, sr_ne, sw_f, sw_l, sw_at, sw_ne, pk_us, pk_un, bI_t, bI_f, not_true_eq_false, not_false_eq_true, eq_self, and_true, true_and, and_false, false_and, or_true, true_or, or_false, false_or, decide_true, decide_false, Bool.false_eq_true, Bool.true_eq_false, ↓cal_w (tp'), tp']
      · by_cases w1 : w = 1
        · simp (disch := omega) only [↓bnd_i, ↓cal_s, ↓cal_n, ↓cal2_s, ↓cal2_n, cal_s, cal2_s, ↓reduceIte, fa_lit, m1_lit, m2_lit, m1_lt, m2_lt, m1_eq, m2_eq, m1_le, m2_le, le_m1, le_m2, lt_m1, lt_m2, m12, m21, m1_m1, n_lt, n_le, n_eq, lt_t, lt_f, le_t, le_f, eq_t, eq_f, n_cl, inb_ok, n_add, pk_mul, pk_sub, n_rem, n_div, n_dec, n_mx, n_mn, eq_m1, eq_m2, ss_same, ss_ne, ss_r, ss_l, sr_f, sr_l, sr_same, sr_ne, sw_f, sw_l, sw_at, sw_ne, pk_us, pk_un, bI_t, bI_f, not_true_eq_false, not_false_eq_true, eq_self, and_true, true_and, and_false, false_and, or_true, true_or, or_false, false_or, decide_true, decide_false, Bool.false_eq_true, Bool.true_eq_false, ↓cal_w (tp'), tp']
        · simp (disch := omega) only [↓bnd_i, ↓cal_s, ↓cal_n, ↓cal2_s, ↓cal2_n, cal_s, cal2_s, ↓reduceIte, fa_lit, m1_lit, m2_lit, m1_lt, m2_lt, m1_eq, m2_eq, m1_le, m2_le, le_m1, le_m2, lt_m1, lt_m2, m12, m21, m1_m1, n_lt, n_le, n_eq, lt_t, lt_f, le_t, le_f, eq_t, eq_f, n_cl, inb_ok, n_add, pk_mul, pk_sub, n_rem, n_div, n_dec, n_mx, n_mn, eq_m1, eq_m2, ss_same, ss_ne, ss_r, ss_l, sr_f, sr_l, sr_same, sr_ne, sw_f, sw_l, sw_at, sw_ne, pk_us, pk_un, bI_t, bI_f, not_true_eq_false, not_false_eq_true, eq_self, and_true, true_and, and_false, false_and, or_true, true_or, or_false, false_or, decide_true, decide_false, Bool.false_eq_true, Bool.true_eq_false, ↓cal_w (tp'), tp']
    · obtain ⟨u, c1, c2, c3, -⟩ := t_comesOut (F := F) hF (τ := t) (by rw [hN]; exact h) (nI c) (nI l) (nI p)
      rw [hN] at c1 c3
      obtain ⟨t', k1, k2, k3⟩ := ih (p + 1) u c3 (hFr.trans c2) (by omega) (by omega)
      refine ⟨t', ?_, k2, k3⟩
      have rg := rng h hc hl (show p ≤ tp N l by omega)
      have ol := ocx_le h (nI c) (nI l) (nI p)
      rw [← k1]
      by_cases o0 : ocx N (nI c) (nI l) (nI p) = 0
      · have q := rg.mp o0
        have e1 : wF (rA N c) (rB N c l) (p + 1) = wF (rA N c) (rB N c l) p + 1 := by unfold wF; omega
        have e2 : wfx (rA N c) (rB N c l) (p + 1) (rA N c) = nI (rA N c) := by unfold wfx; rw [e1]; exact if_neg (by omega)
        have e3 : wfx (rA N c) (rB N c l) (p + 1) (min (p + 1) (rB N c l) - 1) = nI p := by unfold wfx; rw [e1, if_neg (by omega)]; congr 1; omega
        have hwl : wF (rA N c) (rB N c l) p ≤ 241 := by unfold wF; omega
        rw [e1, e2, e3]
        rw [o0] at c1
        by_cases z : wF (rA N c) (rB N c l) p = 0
        · have pa : p = rA N c := by unfold wF at z; omega
          simp (disch := omega) only [↓bnd_i, ↓cal_s, ↓cal_n, ↓cal2_s, ↓cal2_n, cal_s, cal2_s, ↓reduceIte, fa_lit, m1_lit, m2_lit, m1_lt, m2_lt, m1_eq, m2_eq, m1_le, m2_le, le_m1, le_m2, lt_m1, lt_m2, m12, m21, m1_m1, n_lt, n_le, n_eq, lt_t, lt_f, le_t, le_f, eq_t, eq_f, n_cl, inb_ok, n_add, pk_mul, pk_sub, n_rem, n_div, n_dec, n_mx, n_mn, eq_m1, eq_m2, ss_same, ss_ne, ss_r, ss_l, sr_f, sr_l, sr_same, sr_ne, sw_f, sw_l, sw_at, sw_ne, pk_us, pk_un, bI_t, bI_f, not_true_eq_false, not_false_eq_true, eq_self, and_true, true_and, and_false, false_and, or_true, true_or, or_false, false_or, decide_true, decide_false, Bool.false_eq_true, Bool.true_eq_false, ↓cal_w (tp'), tp', ↓cal2_w (c1), c1, f_X8_window_74, f_X8_window_81]
          rw [pa]
        · have e4 : wfx (rA N c) (rB N c l) p (rA N c) = nI (rA N c) := by unfold wfx; exact if_neg z
          simp (disch := omega) only [↓bnd_i, ↓cal_s, ↓cal_n, ↓cal2_s, ↓cal2_n, cal_s, cal2_s, ↓reduceIte, fa_lit, m1_lit, m2_lit, m1_lt, m2_lt, m1_eq, m2_eq, m1_le, m2_le, le_m1, le_m2, lt_m1, lt_m2, m12, m21, m1_m1, n_lt, n_le, n_eq, lt_t, lt_f, le_t, le_f, eq_t, eq_f, n_cl, inb_ok, n_add, pk_mul, pk_sub, n_rem, n_div, n_dec, n_mx, n_mn, eq_m1, eq_m2, ss_same, ss_ne, ss_r, ss_l, sr_f, sr_l, sr_same, sr_ne, sw_f, sw_l, sw_at, sw_ne, pk_us, pk_un, bI_t, bI_f, not_true_eq_false, not_false_eq_true, eq_self, and_true, true_and, and_false, false_and, or_true, true_or, or_false, false_or, decide_true, decide_false, Bool.false_eq_true, Bool.true_eq_false, ↓cal_w (tp'), tp', ↓cal2_w (c1), c1, f_X8_window_74, f_X8_window_81, e4]
      · have q : ¬ (rA N c ≤ p ∧ p < rB N c l) := fun q => o0 (rg.mpr q)
        have e1 : wF (rA N c) (rB N c l) (p + 1) = wF (rA N c) (rB N c l) p := by unfold wF; omega
        have e2 : wfx (rA N c) (rB N c l) (p + 1) (rA N c) = wfx (rA N c) (rB N c l) p (rA N c) := by unfold wfx; rw [e1]
        have e3 : wfx (rA N c) (rB N c l) (p + 1) (min (p + 1) (rB N c l) - 1) = wfx (rA N c) (rB N c l) p (min p (rB N c l) - 1) := by
          unfold wfx
          rw [e1]
          by_cases z : wF (rA N c) (rB N c l) p = 0
          · rw [if_pos z, if_pos z]
          · rw [if_neg z, if_neg z]
            congr 1
            unfold wF at z
            omega
        rw [e1, e2, e3]
        simp (disch := omega) only [↓bnd_i, ↓cal_s, ↓cal_n, ↓cal2_s, ↓cal2_n, cal_s, cal2_s, ↓reduceIte, fa_lit, m1_lit, m2_lit, m1_lt, m2_lt, m1_eq, m2_eq, m1_le, m2_le, le_m1, le_m2, lt_m1, lt_m2, m12, m21, m1_m1, n_lt, n_le, n_eq, lt_t, lt_f, le_t, le_f, eq_t, eq_f, n_cl, inb_ok, n_add, pk_mul, pk_sub, n_rem, n_div, n_dec, n_mx, n_mn, eq_m1, eq_m2, ss_same, ss_ne, ss_r, ss_l, sr_f, sr_l, sr_same, sr_ne, sw_f, sw_l, sw_at, sw_ne, pk_us, pk_un, bI_t, bI_f, not_true_eq_false, not_false_eq_true, eq_self, and_true, true_and, and_false, false_and, or_true, true_or, or_false, false_or, decide_true, decide_false, Bool.false_eq_true, Bool.true_eq_false, ↓cal_w (tp'), tp', ↓cal2_w (c1), c1, f_X8_window_81]
theorem op_window {F : Nat} (hF : 300 < F) {σ τ : St} (C : Core σ τ) (x y z : Int32) : Op σ τ (f_X7_window F σ x y z) (f_X8_window F τ x y z) := by
  obtain ⟨b1, b2, b3, b4, b5, b6, b7, b8⟩ := NNb C.1
  have hin' := in_isN (F := F) (τ := τ) (x := z) (n := 3) (by omega) (by omega)
  rw [pk_sub (by omega)] at hin'
  unfold f_X7_window f_X8_window
  cases dx : isN x (nc (nw τ))
  · simp (disch := omega) only [↓bnd_i, ↓cal_s, ↓cal_n, ↓cal2_s, ↓cal2_n, cal_s, cal2_s, ↓reduceIte, fa_lit, m1_lit, m2_lit, m1_lt, m2_lt, m1_eq, m2_eq, m1_le, m2_le, le_m1, le_m2, lt_m1, lt_m2, m12, m21, m1_m1, n_lt, n_le, n_eq, lt_t, lt_f, le_t, le_f, eq_t, eq_f, n_cl, inb_ok, n_add, pk_mul, pk_sub, n_rem, n_div, n_dec, n_mx, n_mn, eq_m1, eq_m2, ss_same, ss_ne, ss_r, ss_l, sr_f, sr_l, sr_same, sr_ne, sw_f, sw_l, sw_at, sw_ne, pk_us, pk_un, bI_t, bI_f, not_true_eq_false, not_false_eq_true, eq_self, and_true, true_and, and_false, false_and, or_true, true_or, or_false, false_or, decide_true, decide_false, Bool.false_eq_true, Bool.true_eq_false, ↓cal_w (d_hasCopy C.1 C.2 x), d_hasCopy C.1 C.2 x, ↓cal_w (t_isCopy C.1.1 x), t_isCopy C.1.1 x, dx]
    exact Op.same C _
  · cases dy : isN y (nl (nw τ))
    · simp (disch := omega) only [↓bnd_i, ↓cal_s, ↓cal_n, ↓cal2_s, ↓cal2_n, cal_s, cal2_s, ↓reduceIte, fa_lit, m1_lit, m2_lit, m1_lt, m2_lt, m1_eq, m2_eq, m1_le, m2_le, le_m1, le_m2, lt_m1, lt_m2, m12, m21, m1_m1, n_lt, n_le, n_eq, lt_t, lt_f, le_t, le_f, eq_t, eq_f, n_cl, inb_ok, n_add, pk_mul, pk_sub, n_rem, n_div, n_dec, n_mx, n_mn, eq_m1, eq_m2, ss_same, ss_ne, ss_r, ss_l, sr_f, sr_l, sr_same, sr_ne, sw_f, sw_l, sw_at, sw_ne, pk_us, pk_un, bI_t, bI_f, not_true_eq_false, not_false_eq_true, eq_self, and_true, true_and, and_false, false_and, or_true, true_or, or_false, false_or, decide_true, decide_false, Bool.false_eq_true, Bool.true_eq_false, ↓cal_w (d_hasCopy C.1 C.2 x), d_hasCopy C.1 C.2 x, ↓cal_w (t_isCopy C.1.1 x), t_isCopy C.1.1 x, ↓cal_w (d_hasLine C.1.1 C.2.1 y), d_hasLine C.1.1 C.2.1 y, ↓cal_w (t_isLine C.1.1 y), t_isLine C.1.1 y, dx, dy]
      exact Op.same C _
    · cases d : isN z 3
      · rw [d] at hin'
        rcases n_ex z with hy | ⟨i, hi, rfl⟩
        · simp (disch := omega) only [↓bnd_i, ↓cal_s, ↓cal_n, ↓cal2_s, ↓cal2_n, cal_s, cal2_s, ↓reduceIte, fa_lit, m1_lit, m2_lit, m1_lt, m2_lt, m1_eq, m2_eq, m1_le, m2_le, le_m1, le_m2, lt_m1, lt_m2, m12, m21, m1_m1, n_lt, n_le, n_eq, lt_t, lt_f, le_t, le_f, eq_t, eq_f, n_cl, inb_ok, n_add, pk_mul, pk_sub, n_rem, n_div, n_dec, n_mx, n_mn, eq_m1, eq_m2, ss_same, ss_ne, ss_r, ss_l, sr_f, sr_l, sr_same, sr_ne, sw_f, sw_l, sw_at, sw_ne, pk_us, pk_un, bI_t, bI_f, not_true_eq_false, not_false_eq_true, eq_self, and_true, true_and, and_false, false_and, or_true, true_or, or_false, false_or, decide_true, decide_false, Bool.false_eq_true, Bool.true_eq_false, ↓cal_w (d_hasCopy C.1 C.2 x), d_hasCopy C.1 C.2 x, ↓cal_w (t_isCopy C.1.1 x), t_isCopy C.1.1 x, ↓cal_w (d_hasLine C.1.1 C.2.1 y), d_hasLine C.1.1 C.2.1 y, ↓cal_w (t_isLine C.1.1 y), t_isLine C.1.1 y, ↓cal_w (hin'), hin', dx, dy, eq_true (show z < nI 0 from hy)]
          exact Op.same C _
        · rw [isN_n hi] at d
          have d' := of_decide_eq_false d
          simp (disch := omega) only [↓bnd_i, ↓cal_s, ↓cal_n, ↓cal2_s, ↓cal2_n, cal_s, cal2_s, ↓reduceIte, fa_lit, m1_lit, m2_lit, m1_lt, m2_lt, m1_eq, m2_eq, m1_le, m2_le, le_m1, le_m2, lt_m1, lt_m2, m12, m21, m1_m1, n_lt, n_le, n_eq, lt_t, lt_f, le_t, le_f, eq_t, eq_f, n_cl, inb_ok, n_add, pk_mul, pk_sub, n_rem, n_div, n_dec, n_mx, n_mn, eq_m1, eq_m2, ss_same, ss_ne, ss_r, ss_l, sr_f, sr_l, sr_same, sr_ne, sw_f, sw_l, sw_at, sw_ne, pk_us, pk_un, bI_t, bI_f, not_true_eq_false, not_false_eq_true, eq_self, and_true, true_and, and_false, false_and, or_true, true_or, or_false, false_or, decide_true, decide_false, Bool.false_eq_true, Bool.true_eq_false, ↓cal_w (d_hasCopy C.1 C.2 x), d_hasCopy C.1 C.2 x, ↓cal_w (t_isCopy C.1.1 x), t_isCopy C.1.1 x, ↓cal_w (d_hasLine C.1.1 C.2.1 y), d_hasLine C.1.1 C.2.1 y, ↓cal_w (t_isLine C.1.1 y), t_isLine C.1.1 y, ↓cal_w (hin'), hin', dx, dy]
          exact Op.same C _
      · rw [d] at hin'
        obtain ⟨w, hw, rfl⟩ := isN_e d (by omega)
        obtain ⟨c, hc, rfl⟩ := isN_e dx (by omega)
        obtain ⟨l, hl, rfl⟩ := isN_e dy (by omega)
        have ht := (C.1.2.1.1 l hl).2
        obtain ⟨t, a1, a2, a3, a4, a5⟩ := d_aim (F := F) hF C.1 C.2 (nI c) (nI l)
        have w1 := d_placesReached (F := F) C.1 hc hl a5
        obtain ⟨e1, e2⟩ := aim_r C.1 hc hl a5
        obtain ⟨u, k1, k2, k3⟩ := t_windowL (F := F) hF C.1 hc hl hw (τ := τ) F 0 τ rfl (FrM.refl τ) (by omega) (by omega)
        have r1 := rA_le C.1 hc
        have r2 := rB_le C.1 (c := c) (l := l)
        have z0 : wF (rA (nw τ) c) (rB (nw τ) c l) 0 = 0 := by unfold wF; omega
        have z1 : ∀ v, wfx (rA (nw τ) c) (rB (nw τ) c l) 0 v = m2 := fun v => by unfold wfx; exact if_pos z0
        rw [z0, z1, z1] at k1
        have k1' : f_X8_window_41 F F τ (nI c) (nI l) (nI w) (nI 0) m2 m2 (nI 0) = _ := k1
        by_cases w0 : w = 0
        · rw [if_pos w0] at k1'
          simp (disch := omega) only [↓bnd_i, ↓cal_s, ↓cal_n, ↓cal2_s, ↓cal2_n, cal_s, cal2_s, ↓reduceIte, fa_lit, m1_lit, m2_lit, m1_lt, m2_lt, m1_eq, m2_eq, m1_le, m2_le, le_m1, le_m2, lt_m1, lt_m2, m12, m21, m1_m1, n_lt, n_le, n_eq, lt_t, lt_f, le_t, le_f, eq_t, eq_f, n_cl, inb_ok, n_add, pk_mul, pk_sub, n_rem, n_div, n_dec, n_mx, n_mn, eq_m1, eq_m2, ss_same, ss_ne, ss_r, ss_l, sr_f, sr_l, sr_same, sr_ne, sw_f, sw_l, sw_at, sw_ne, pk_us, pk_un, bI_t, bI_f, not_true_eq_false, not_false_eq_true, eq_self, and_true, true_and, and_false, false_and, or_true, true_or, or_false, false_or, decide_true, decide_false, Bool.false_eq_true, Bool.true_eq_false, ↓cal_w (d_hasCopy C.1 C.2 _), d_hasCopy C.1 C.2 _, ↓cal_w (t_isCopy C.1.1 _), t_isCopy C.1.1 _, ↓cal_w (d_hasLine C.1.1 C.2.1 _), d_hasLine C.1.1 C.2.1 _, ↓cal_w (t_isLine C.1.1 _), t_isLine C.1.1 _, ↓cal_w (hin'), hin', ↓cal_w (a1), a1, ↓cal_w (w1), w1, ↓cal2_w (k1'), k1', dx, dy]
          exact opA C a2 a3 k2 k3 _
        · rw [if_neg w0] at k1'
          by_cases m0 : rB (nw τ) c l - rA (nw τ) c = 0
          · rw [if_pos m0] at k1'
            simp (disch := omega) only [↓bnd_i, ↓cal_s, ↓cal_n, ↓cal2_s, ↓cal2_n, cal_s, cal2_s, ↓reduceIte, fa_lit, m1_lit, m2_lit, m1_lt, m2_lt, m1_eq, m2_eq, m1_le, m2_le, le_m1, le_m2, lt_m1, lt_m2, m12, m21, m1_m1, n_lt, n_le, n_eq, lt_t, lt_f, le_t, le_f, eq_t, eq_f, n_cl, inb_ok, n_add, pk_mul, pk_sub, n_rem, n_div, n_dec, n_mx, n_mn, eq_m1, eq_m2, ss_same, ss_ne, ss_r, ss_l, sr_f, sr_l, sr_same, sr_ne, sw_f, sw_l, sw_at, sw_ne, pk_us, pk_un, bI_t, bI_f, not_true_eq_false, not_false_eq_true, eq_self, and_true, true_and, and_false, false_and, or_true, true_or, or_false, false_or, decide_true, decide_false, Bool.false_eq_true, Bool.true_eq_false, ↓cal_w (d_hasCopy C.1 C.2 _), d_hasCopy C.1 C.2 _, ↓cal_w (t_isCopy C.1.1 _), t_isCopy C.1.1 _, ↓cal_w (d_hasLine C.1.1 C.2.1 _), d_hasLine C.1.1 C.2.1 _, ↓cal_w (t_isLine C.1.1 _), t_isLine C.1.1 _, ↓cal_w (hin'), hin', ↓cal_w (a1), a1, ↓cal_w (w1), w1, ↓cal2_w (k1'), k1', dx, dy]
            exact opA C a2 a3 k2 k3 _
          · rw [if_neg m0] at k1'
            rw [eX_s (by omega)] at e2
            by_cases w1' : w = 1
            · rw [if_pos w1'] at k1'
              simp (disch := omega) only [↓bnd_i, ↓cal_s, ↓cal_n, ↓cal2_s, ↓cal2_n, cal_s, cal2_s, ↓reduceIte, fa_lit, m1_lit, m2_lit, m1_lt, m2_lt, m1_eq, m2_eq, m1_le, m2_le, le_m1, le_m2, lt_m1, lt_m2, m12, m21, m1_m1, n_lt, n_le, n_eq, lt_t, lt_f, le_t, le_f, eq_t, eq_f, n_cl, inb_ok, n_add, pk_mul, pk_sub, n_rem, n_div, n_dec, n_mx, n_mn, eq_m1, eq_m2, ss_same, ss_ne, ss_r, ss_l, sr_f, sr_l, sr_same, sr_ne, sw_f, sw_l, sw_at, sw_ne, pk_us, pk_un, bI_t, bI_f, not_true_eq_false, not_false_eq_true, eq_self, and_true, true_and, and_false, false_and, or_true, true_or, or_false, false_or, decide_true, decide_false, Bool.false_eq_true, Bool.true_eq_false, ↓cal_w (d_hasCopy C.1 C.2 _), d_hasCopy C.1 C.2 _, ↓cal_w (t_isCopy C.1.1 _), t_isCopy C.1.1 _, ↓cal_w (d_hasLine C.1.1 C.2.1 _), d_hasLine C.1.1 C.2.1 _, ↓cal_w (t_isLine C.1.1 _), t_isLine C.1.1 _, ↓cal_w (hin'), hin', ↓cal_w (a1), a1, ↓cal_w (w1), w1, ↓cal2_w (k1'), k1', dx, dy, e1]
              exact opA C a2 a3 k2 k3 _
            · rw [if_neg w1'] at k1'
              simp (disch := omega) only [↓bnd_i, ↓cal_s, ↓cal_n, ↓cal2_s, ↓cal2_n, cal_s, cal2_s, ↓reduceIte, fa_lit, m1_lit, m2_lit, m1_lt, m2_lt, m1_eq, m2_eq, m1_le, m2_le, le_m1, le_m2, lt_m1, lt_m2, m12, m21, m1_m1, n_lt, n_le, n_eq, lt_t, lt_f, le_t, le_f, eq_t, eq_f, n_cl, inb_ok, n_add, pk_mul, pk_sub, n_rem, n_div, n_dec, n_mx, n_mn, eq_m1, eq_m2, ss_same, ss_ne, ss_r, ss_l, sr_f, sr_l, sr_same, sr_ne, sw_f, sw_l, sw_at, sw_ne, pk_us, pk_un, bI_t, bI_f, not_true_eq_false, not_false_eq_true, eq_self, and_true, true_and, and_false, false_and, or_true, true_or, or_false, false_or, decide_true, decide_false, Bool.false_eq_true, Bool.true_eq_false, ↓cal_w (d_hasCopy C.1 C.2 _), d_hasCopy C.1 C.2 _, ↓cal_w (t_isCopy C.1.1 _), t_isCopy C.1.1 _, ↓cal_w (d_hasLine C.1.1 C.2.1 _), d_hasLine C.1.1 C.2.1 _, ↓cal_w (t_isLine C.1.1 _), t_isLine C.1.1 _, ↓cal_w (hin'), hin', ↓cal_w (a1), a1, ↓cal_w (w1), w1, ↓cal2_w (k1'), k1', dx, dy, e2]
              exact opA C a2 a3 k2 k3 _
/-- whether one of the first copies comes to a place -/
def rcF (N : Nat → Int32) (l : Nat) : Nat → Nat → Bool
  | 0, _ => false
  | c + 1, p => rcF N l c p || decide (rA N c ≤ p ∧ p < rB N c l)
theorem rcF_s {N : Nat → Int32} {l c p : Nat} : rcF N l (c + 1) p = (rcF N l c p || decide (rA N c ≤ p ∧ p < rB N c l)) := rfl
theorem rcF_up {N : Nat → Int32} {l c p : Nat} (h : rcF N l c p = true) : ∀ d, rcF N l (c + d) p = true
  | 0 => h
  | d + 1 => by
    have := rcF_up h d
    show (rcF N l (c + d) p || _) = true
    rw [this, Bool.true_or]
theorem rcF_t {N : Nat → Int32} {l p : Nat} : ∀ n, rcF N l n p = true ↔ ∃ c, c < n ∧ rA N c ≤ p ∧ p < rB N c l
  | 0 => by
    constructor
    · intro h; cases h
    · rintro ⟨c, h, -⟩; omega
  | n + 1 => by
    rw [rcF_s, Bool.or_eq_true, rcF_t n, decide_eq_true_eq]
    constructor
    · rintro (⟨c, h1, h2⟩ | h)
      · exact ⟨c, by omega, h2⟩
      · exact ⟨n, by omega, h⟩
    · rintro ⟨c, h1, h2⟩
      by_cases e : c = n
      · subst e; exact Or.inr h2
      · exact Or.inl ⟨c, by omega, h2⟩
theorem t_isAnyTo {F : Nat} (hF : 300 < F) {τ : St} (h : NN (nw τ)) {l p : Nat} (hl : l < nl (nw τ)) (hp : p ≤ tp (nw τ) l) : ∃ t', f_X8_isAnyTo F τ (nI l) (nI p) = some (bI (rcF (nw τ) l (nc (nw τ)) p), t') ∧ FrM τ t' ∧ nw t' = nw τ := by
  obtain ⟨b1, b2, b3, b4, b5, b6, b7, b8⟩ := NNb h
  have key : ∀ (n c : Nat) (t : St), nw t = nw τ → FrM τ t → c ≤ nc (nw τ) → nc (nw τ) - c < n → rcF (nw τ) l c p = false → ∃ t', f_X8_isAnyTo_2 F n t (nI l) (nI p) (nI c) = some (bI (rcF (nw τ) l (nc (nw τ)) p), t') ∧ FrM τ t' ∧ nw t' = nw τ := by
    intro n
    induction n with
    | zero => intro c t _ _ _ h; omega
    | succ n ih =>
      intro c t hN hFr hc hn hr
      have h5 : t.2.1 19 5 = nI (nc (nw τ)) := by rw [show t.2.1 19 = nw τ from hN]; exact h.1.2.2.2.2.2.1.1
      rw [f_X8_isAnyTo_2]
      by_cases e : c = nc (nw τ)
      · refine ⟨t, ?_, hFr, hN⟩
        rw [← e, hr]
        rw [← e] at h5
        simp (disch := omega) only [↓bnd_i, ↓cal_s, ↓cal_n, ↓cal2_s, ↓cal2_n, cal_s, cal2_s, ↓reduceIte, fa_lit, m1_lit, m2_lit, m1_lt, m2_lt, m1_eq, m2_eq, m1_le, m2_le, le_m1, le_m2, lt_m1, lt_m2, m12, m21, m1_m1, n_lt, n_le, n_eq, lt_t, lt_f, le_t, le_f, eq_t, eq_f, n_cl, inb_ok, n_add, pk_mul, pk_sub, n_rem, n_div, n_dec, n_mx, n_mn, eq_m1, eq_m2, ss_same, ss_ne, ss_r, ss_l, sr_f, sr_l, sr_same, sr_ne, sw_f, sw_l, sw_at, sw_ne, pk_us, pk_un, bI_t, bI_f, not_true_eq_false, not_false_eq_true, eq_self, and_true, true_and, and_false, false_and, or_true, true_or, or_false, false_or, decide_true, decide_false, Bool.false_eq_true, Bool.true_eq_false, h5]
      · obtain ⟨u, c1, c2, c3, -⟩ := t_comesOut (F := F) hF (τ := t) (by rw [hN]; exact h) (nI c) (nI l) (nI p)
        rw [hN] at c1 c3
        have rg := rng h (show c < nc (nw τ) by omega) hl hp
        have ol := ocx_le h (nI c) (nI l) (nI p)
        by_cases o0 : ocx (nw τ) (nI c) (nI l) (nI p) = 0
        · have hu := rcF_up (N := nw τ) (l := l) (p := p) (c := c + 1) (by rw [rcF_s, decide_eq_true (rg.mp o0), Bool.or_true]) (nc (nw τ) - (c + 1))
          rw [show c + 1 + (nc (nw τ) - (c + 1)) = nc (nw τ) by omega] at hu
          refine ⟨u, ?_, hFr.trans c2, c3⟩
          rw [hu]
          rw [o0] at c1
          simp (disch := omega) only [↓bnd_i, ↓cal_s, ↓cal_n, ↓cal2_s, ↓cal2_n, cal_s, cal2_s, ↓reduceIte, fa_lit, m1_lit, m2_lit, m1_lt, m2_lt, m1_eq, m2_eq, m1_le, m2_le, le_m1, le_m2, lt_m1, lt_m2, m12, m21, m1_m1, n_lt, n_le, n_eq, lt_t, lt_f, le_t, le_f, eq_t, eq_f, n_cl, inb_ok, n_add, pk_mul, pk_sub, n_rem, n_div, n_dec, n_mx, n_mn, eq_m1, eq_m2, ss_same, ss_ne, ss_r, ss_l, sr_f, sr_l, sr_same, sr_ne, sw_f, sw_l, sw_at, sw_ne, pk_us, pk_un, bI_t, bI_f, not_true_eq_false, not_false_eq_true, eq_self, and_true, true_and, and_false, false_and, or_true, true_or, or_false, false_or, decide_true, decide_false, Bool.false_eq_true, Bool.true_eq_false, ↓cal2_w (c1), c1, h5]
        · obtain ⟨t', k1, k2, k3⟩ := ih (c + 1) u c3 (hFr.trans c2) (by omega) (by omega) (by rw [rcF_s, hr, decide_eq_false (fun q => o0 (rg.mpr q))]; rfl)
          refine ⟨t', ?_, k2, k3⟩
          simp (disch := omega) only [↓bnd_i, ↓cal_s, ↓cal_n, ↓cal2_s, ↓cal2_n, cal_s, cal2_s, ↓reduceIte, fa_lit, m1_lit, m2_lit, m1_lt, m2_lt, m1_eq, m2_eq, m1_le, m2_le, le_m1, le_m2, lt_m1, lt_m2, m12, m21, m1_m1, n_lt, n_le, n_eq, lt_t, lt_f, le_t, le_f, eq_t, eq_f, n_cl, inb_ok, n_add, pk_mul, pk_sub, n_rem, n_div, n_dec, n_mx, n_mn, eq_m1, eq_m2, ss_same, ss_ne, ss_r, ss_l, sr_f, sr_l, sr_same, sr_ne, sw_f, sw_l, sw_at, sw_ne, pk_us, pk_un, bI_t, bI_f, not_true_eq_false, not_false_eq_true, eq_self, and_true, true_and, and_false, false_and, or_true, true_or, or_false, false_or, decide_true, decide_false, Bool.false_eq_true, Bool.true_eq_false, ↓cal2_w (c1), c1, h5]
          exact k1
  exact key F 0 τ rfl (FrM.refl τ) (by omega) (by omega) rfl
/-- the end of the furthest of the first copies' stretches -/
def nwF (N : Nat → Int32) (l : Nat) : Nat → Nat
  | 0 => 0
  | c + 1 => if rA N c < rB N c l then max (nwF N l c) (rB N c l) else nwF N l c
theorem nwF_s {N : Nat → Int32} {l c : Nat} : nwF N l (c + 1) = if rA N c < rB N c l then max (nwF N l c) (rB N c l) else nwF N l c := rfl
theorem nwF_le {N : Nat → Int32} (h : NN N) {l : Nat} : ∀ n, nwF N l n ≤ tp N l + 1
  | 0 => Nat.zero_le _
  | n + 1 => by
    have := nwF_le h (l := l) n
    have := rB_le h (c := n) (l := l)
    rw [nwF_s]
    split <;> omega
theorem nwF_ge {N : Nat → Int32} {l : Nat} : ∀ n c, c < n → rA N c < rB N c l → rB N c l ≤ nwF N l n
  | 0, c, h, _ => by omega
  | n + 1, c, h, h2 => by
    rw [nwF_s]
    by_cases e : c = n
    · subst e; rw [if_pos h2]; omega
    · have := nwF_ge n c (by omega) h2
      split <;> omega
theorem nwF_ex {N : Nat → Int32} {l : Nat} : ∀ n, nwF N l n ≠ 0 → ∃ c, c < n ∧ rA N c < rB N c l ∧ rB N c l = nwF N l n
  | 0, h => absurd rfl h
  | n + 1, h => by
    rw [nwF_s] at h ⊢
    by_cases e : rA N n < rB N n l
    · rw [if_pos e] at h ⊢
      by_cases e2 : nwF N l n ≤ rB N n l
      · exact ⟨n, by omega, e, by omega⟩
      · obtain ⟨c, h1, h2, h3⟩ := nwF_ex n (fun z => e2 (by rw [z]; exact Nat.zero_le _))
        exact ⟨c, by omega, h2, by rw [h3, Nat.max_eq_left (by omega)]⟩
    · rw [if_neg e] at h ⊢
      obtain ⟨c, h1, h2, h3⟩ := nwF_ex n h
      exact ⟨c, by omega, h2, h3⟩
def eY (b : Nat) : Int32 := if b = 0 then m2 else nI (b - 1)
theorem eY_0 {b : Nat} (h : b = 0) : eY b = m2 := if_pos h
theorem eY_s {b : Nat} (h : b ≠ 0) : eY b = nI (b - 1) := if_neg h
theorem d_newestL {F : Nat} (hF : 300 < F) {N : Nat → Int32} (h : NN N) {l : Nat} (hl : l < nl N) {σ : St} : ∀ (n c : Nat) (t : St), JJ t N → Fr σ t → c ≤ nc N → nc N - c < n → ∃ t', f_X7_newest_18 F n t (nI l) (eY (nwF N l c)) (nI c) = some (eY (nwF N l (nc N)), t') ∧ JJ t' N ∧ Fr σ t' := by
  obtain ⟨b1, b2, b3, b4, b5, b6, b7, b8⟩ := NNb h
  have ht := (h.2.1.1 l hl).2
  intro n
  induction n with
  | zero => intro c t _ _ _ h; omega
  | succ n ih =>
    intro c t hJ hFr hc hn
    have e8 := (JJf h hJ).2.2.2.2
    rw [f_X7_newest_18]
    by_cases e : c = nc N
    · refine ⟨t, ?_, hJ, hFr⟩
      rw [e]
      simp (disch := omega) only [↓bnd_i, ↓cal_s, ↓cal_n, ↓cal2_s, ↓cal2_n, cal_s, cal2_s, ↓reduceIte, fa_lit, m1_lit, m2_lit, m1_lt, m2_lt, m1_eq, m2_eq, m1_le, m2_le, le_m1, le_m2, lt_m1, lt_m2, m12, m21, m1_m1, n_lt, n_le, n_eq, lt_t, lt_f, le_t, le_f, eq_t, eq_f, n_cl, inb_ok, n_add, pk_mul, pk_sub, n_rem, n_div, n_dec, n_mx, n_mn, eq_m1, eq_m2, ss_same, ss_ne, ss_r, ss_l, sr_f, sr_l, sr_same, sr_ne, sw_f, sw_l, sw_at, sw_ne, pk_us, pk_un, bI_t, bI_f, not_true_eq_false, not_false_eq_true, eq_self, and_true, true_and, and_false, false_and, or_true, true_or, or_false, false_or, decide_true, decide_false, Bool.false_eq_true, Bool.true_eq_false, e8]
    · obtain ⟨u, a1, a2, a3, a4, a5⟩ := d_aim (F := F) hF h hJ (nI c) (nI l)
      have hc' : c < nc N := by omega
      have w1 := d_placesReached (F := F) h hc' hl a5
      obtain ⟨e1, e2⟩ := aim_r h hc' hl a5
      obtain ⟨t', k1, k2, k3⟩ := ih (c + 1) u a2 (hFr.trans a3) (by omega) (by omega)
      refine ⟨t', ?_, k2, k3⟩
      have r1 := rA_le h hc'
      have r2 := rB_le h (c := c) (l := l)
      have r3 := nwF_le h (l := l) c
      rw [nwF_s] at k1
      by_cases q : rA N c < rB N c l
      · rw [if_pos q] at k1
        rw [eX_s (by omega)] at e2
        have em : mx (eY (nwF N l c)) (nI (rB N c l - 1)) = eY (max (nwF N l c) (rB N c l)) := by
          rw [eY_s (b := max (nwF N l c) (rB N c l)) (by omega)]
          by_cases z : nwF N l c = 0
          · rw [eY_0 z, mx_m2 (by omega)]; congr 1; omega
          · rw [eY_s z, n_mx (by omega) (by omega)]; congr 1; omega
        simp (disch := omega) only [↓bnd_i, ↓cal_s, ↓cal_n, ↓cal2_s, ↓cal2_n, cal_s, cal2_s, ↓reduceIte, fa_lit, m1_lit, m2_lit, m1_lt, m2_lt, m1_eq, m2_eq, m1_le, m2_le, le_m1, le_m2, lt_m1, lt_m2, m12, m21, m1_m1, n_lt, n_le, n_eq, lt_t, lt_f, le_t, le_f, eq_t, eq_f, n_cl, inb_ok, n_add, pk_mul, pk_sub, n_rem, n_div, n_dec, n_mx, n_mn, eq_m1, eq_m2, ss_same, ss_ne, ss_r, ss_l, sr_f, sr_l, sr_same, sr_ne, sw_f, sw_l, sw_at, sw_ne, pk_us, pk_un, bI_t, bI_f, not_true_eq_false, not_false_eq_true, eq_self, and_true, true_and, and_false, false_and, or_true, true_or, or_false, false_or, decide_true, decide_false, Bool.false_eq_true, Bool.true_eq_false, ↓cal_w (a1), a1, ↓cal_w (w1), w1, e8, e2, em, f_X7_newest_60]
        exact k1
      · rw [if_neg q] at k1
        simp (disch := omega) only [↓bnd_i, ↓cal_s, ↓cal_n, ↓cal2_s, ↓cal2_n, cal_s, cal2_s, ↓reduceIte, fa_lit, m1_lit, m2_lit, m1_lt, m2_lt, m1_eq, m2_eq, m1_le, m2_le, le_m1, le_m2, lt_m1, lt_m2, m12, m21, m1_m1, n_lt, n_le, n_eq, lt_t, lt_f, le_t, le_f, eq_t, eq_f, n_cl, inb_ok, n_add, pk_mul, pk_sub, n_rem, n_div, n_dec, n_mx, n_mn, eq_m1, eq_m2, ss_same, ss_ne, ss_r, ss_l, sr_f, sr_l, sr_same, sr_ne, sw_f, sw_l, sw_at, sw_ne, pk_us, pk_un, bI_t, bI_f, not_true_eq_false, not_false_eq_true, eq_self, and_true, true_and, and_false, false_and, or_true, true_or, or_false, false_or, decide_true, decide_false, Bool.false_eq_true, Bool.true_eq_false, ↓cal_w (a1), a1, ↓cal_w (w1), w1, e8, f_X7_newest_60]
        exact k1
theorem op_newest {F : Nat} (hF : 300 < F) {σ τ : St} (C : Core σ τ) (x : Int32) : Op σ τ (f_X7_newest F σ x) (f_X8_newest F τ x) := by
  obtain ⟨b1, b2, b3, b4, b5, b6, b7, b8⟩ := NNb C.1
  unfold f_X7_newest f_X8_newest
  cases dx : isN x (nl (nw τ))
  · simp (disch := omega) only [↓bnd_i, ↓cal_s, ↓cal_n, ↓cal2_s, ↓cal2_n, cal_s, cal2_s, ↓reduceIte, fa_lit, m1_lit, m2_lit, m1_lt, m2_lt, m1_eq, m2_eq, m1_le, m2_le, le_m1, le_m2, lt_m1, lt_m2, m12, m21, m1_m1, n_lt, n_le, n_eq, lt_t, lt_f, le_t, le_f, eq_t, eq_f, n_cl, inb_ok, n_add, pk_mul, pk_sub, n_rem, n_div, n_dec, n_mx, n_mn, eq_m1, eq_m2, ss_same, ss_ne, ss_r, ss_l, sr_f, sr_l, sr_same, sr_ne, sw_f, sw_l, sw_at, sw_ne, pk_us, pk_un, bI_t, bI_f, not_true_eq_false, not_false_eq_true, eq_self, and_true, true_and, and_false, false_and, or_true, true_or, or_false, false_or, decide_true, decide_false, Bool.false_eq_true, Bool.true_eq_false, ↓cal_w (d_hasLine C.1.1 C.2.1 x), d_hasLine C.1.1 C.2.1 x, ↓cal_w (t_isLine C.1.1 x), t_isLine C.1.1 x, dx]
    exact Op.same C _
  · obtain ⟨l, hl, rfl⟩ := isN_e dx (by omega)
    have ht := C.1.2.1.1 l hl
    obtain ⟨t, k1, k2, k3⟩ := d_newestL (F := F) hF C.1 hl (σ := σ) F 0 σ C.2 (Fr.refl σ) (by omega) (by omega)
    have k1' : f_X7_newest_18 F F σ (nI l) m2 (nI 0) = _ := k1
    have hM := nwF_le C.1 (l := l) (nc (nw τ))
    have key : ∀ (n q : Nat) (t : St), nw t = nw τ → FrM τ t → nwF (nw τ) l (nc (nw τ)) ≤ q → q ≤ tp (nw τ) l + 1 → q < n → ∃ t', f_X8_newest_16 F n t (nI l) (eX q) = some (eY (nwF (nw τ) l (nc (nw τ))), t') ∧ FrM τ t' ∧ nw t' = nw τ := by
      intro n
      induction n with
      | zero => intro q t _ _ _ _ h; omega
      | succ n ih =>
        intro q t hN hFr hq hq2 hn
        rw [f_X8_newest_16]
        by_cases q0 : q = 0
        · refine ⟨t, ?_, hFr, hN⟩
          rw [eX_0 q0, eY_0 (by omega)]
          simp (disch := omega) only [↓bnd_i, ↓cal_s, ↓cal_n, ↓cal2_s, ↓cal2_n, cal_s, cal2_s, ↓reduceIte, fa_lit, m1_lit, m2_lit, m1_lt, m2_lt, m1_eq, m2_eq, m1_le, m2_le, le_m1, le_m2, lt_m1, lt_m2, m12, m21, m1_m1, n_lt, n_le, n_eq, lt_t, lt_f, le_t, le_f, eq_t, eq_f, n_cl, inb_ok, n_add, pk_mul, pk_sub, n_rem, n_div, n_dec, n_mx, n_mn, eq_m1, eq_m2, ss_same, ss_ne, ss_r, ss_l, sr_f, sr_l, sr_same, sr_ne, sw_f, sw_l, sw_at, sw_ne, pk_us, pk_un, bI_t, bI_f, not_true_eq_false, not_false_eq_true, eq_self, and_true, true_and, and_false, false_and, or_true, true_or, or_false, false_or, decide_true, decide_false, Bool.false_eq_true, Bool.true_eq_false]
        · rw [eX_s q0]
          obtain ⟨u, c1, c2, c3⟩ := t_isAnyTo (F := F) hF (τ := t) (by rw [hN]; exact C.1) (l := l) (p := q - 1) (by rw [hN]; exact hl) (by rw [hN]; omega)
          rw [hN] at c1 c3
          cases d : rcF (nw τ) l (nc (nw τ)) (q - 1)
          · rw [d] at c1
            have hne : q ≠ nwF (nw τ) l (nc (nw τ)) := fun e => by
              obtain ⟨c, h1, h2, h3⟩ := nwF_ex (N := nw τ) (l := l) (nc (nw τ)) (by omega)
              have := (rcF_t (N := nw τ) (l := l) (p := q - 1) (nc (nw τ))).mpr ⟨c, h1, by omega, by omega⟩
              rw [d] at this; cases this
            obtain ⟨t', k1, k2, k3⟩ := ih (q - 1) u c3 (hFr.trans c2) (by omega) (by omega) (by omega)
            refine ⟨t', ?_, k2, k3⟩
            have eD : nI (q - 1) + m1 = eX (q - 1) := by
              by_cases z : q - 1 = 0
              · rw [eX_0 z, z]; decide
              · rw [eX_s z, n_dec (by omega)]
            simp (disch := omega) only [↓bnd_i, ↓cal_s, ↓cal_n, ↓cal2_s, ↓cal2_n, cal_s, cal2_s, ↓reduceIte, fa_lit, m1_lit, m2_lit, m1_lt, m2_lt, m1_eq, m2_eq, m1_le, m2_le, le_m1, le_m2, lt_m1, lt_m2, m12, m21, m1_m1, n_lt, n_le, n_eq, lt_t, lt_f, le_t, le_f, eq_t, eq_f, n_cl, inb_ok, n_add, pk_mul, pk_sub, n_rem, n_div, n_dec, n_mx, n_mn, eq_m1, eq_m2, ss_same, ss_ne, ss_r, ss_l, sr_f, sr_l, sr_same, sr_ne, sw_f, sw_l, sw_at, sw_ne, pk_us, pk_un, bI_t, bI_f, not_true_eq_false, not_false_eq_true, eq_self, and_true, true_and, and_false, false_and, or_true, true_or, or_false, false_or, decide_true, decide_false, Bool.false_eq_true, Bool.true_eq_false, ↓cal2_w (c1), c1, eD]
            exact k1
          · rw [d] at c1
            obtain ⟨c, h1, h2, h3⟩ := (rcF_t (N := nw τ) (l := l) (p := q - 1) (nc (nw τ))).mp d
            have hge := nwF_ge (N := nw τ) (l := l) (nc (nw τ)) c h1 (by omega)
            have e : nwF (nw τ) l (nc (nw τ)) = q := by omega
            refine ⟨u, ?_, hFr.trans c2, c3⟩
            rw [e, eY_s q0]
            simp (disch := omega) only [↓bnd_i, ↓cal_s, ↓cal_n, ↓cal2_s, ↓cal2_n, cal_s, cal2_s, ↓reduceIte, fa_lit, m1_lit, m2_lit, m1_lt, m2_lt, m1_eq, m2_eq, m1_le, m2_le, le_m1, le_m2, lt_m1, lt_m2, m12, m21, m1_m1, n_lt, n_le, n_eq, lt_t, lt_f, le_t, le_f, eq_t, eq_f, n_cl, inb_ok, n_add, pk_mul, pk_sub, n_rem, n_div, n_dec, n_mx, n_mn, eq_m1, eq_m2, ss_same, ss_ne, ss_r, ss_l, sr_f, sr_l, sr_same, sr_ne, sw_f, sw_l, sw_at, sw_ne, pk_us, pk_un, bI_t, bI_f, not_true_eq_false, not_false_eq_true, eq_self, and_true, true_and, and_false, false_and, or_true, true_or, or_false, false_or, decide_true, decide_false, Bool.false_eq_true, Bool.true_eq_false, ↓cal2_w (c1), c1]
    obtain ⟨u, g1, g2, g3⟩ := key F (tp (nw τ) l + 1) τ rfl (FrM.refl τ) hM (Nat.le_refl _) (by omega)
    rw [eX_s (by omega), Nat.add_sub_cancel] at g1
    simp (disch := omega) only [↓bnd_i, ↓cal_s, ↓cal_n, ↓cal2_s, ↓cal2_n, cal_s, cal2_s, ↓reduceIte, fa_lit, m1_lit, m2_lit, m1_lt, m2_lt, m1_eq, m2_eq, m1_le, m2_le, le_m1, le_m2, lt_m1, lt_m2, m12, m21, m1_m1, n_lt, n_le, n_eq, lt_t, lt_f, le_t, le_f, eq_t, eq_f, n_cl, inb_ok, n_add, pk_mul, pk_sub, n_rem, n_div, n_dec, n_mx, n_mn, eq_m1, eq_m2, ss_same, ss_ne, ss_r, ss_l, sr_f, sr_l, sr_same, sr_ne, sw_f, sw_l, sw_at, sw_ne, pk_us, pk_un, bI_t, bI_f, not_true_eq_false, not_false_eq_true, eq_self, and_true, true_and, and_false, false_and, or_true, true_or, or_false, false_or, decide_true, decide_false, Bool.false_eq_true, Bool.true_eq_false, ↓cal_w (d_hasLine C.1.1 C.2.1 _), d_hasLine C.1.1 C.2.1 _, ↓cal_w (t_isLine C.1.1 _), t_isLine C.1.1 _, ↓cal_w (t_placeOf (τ := τ) (show l < 8 by omega)), t_placeOf (τ := τ) (show l < 8 by omega), ↓cal2_w (k1'), k1', ↓cal2_w (g1), g1, dx, ht.1]
    exact opA C k2 k3 g2 g3 _
