/-! PURE: named, the two sides -/
theorem t_namedEnd {F : Nat} {u : St} {n : Nat} {g : Nat → Nat} (T : Tm u n g) (hn : 1 ≤ n) (x : Int32) : (cal (f_X8_in F u x 0 ((u.1 18) - 1)) (fun r5 => if r5 = 0 then (some ((-1 : Int32), u)) else (if inb x 16 = true then some ((u.2.1 21 x.toNatClampNeg), u) else none))) = some (nmR x n g, u) := by
  obtain ⟨h1, h2, h3⟩ := T
  have w := in_isN (F := F) (τ := u) (x := x) (n := n) hn (by omega)
  rw [h1, show (1 : Int32) = nI 1 from rfl, show (0 : Int32) = nI 0 from rfl, cal_w w]
  unfold nmR
  cases d : isN x n
  · simp (disch := omega) only [↓bnd_i, ↓cal_s, ↓cal_n, ↓cal2_s, ↓cal2_n, cal_s, cal2_s, ↓reduceIte, fa_lit, m1_lit, m2_lit, m1_lt, m2_lt, m1_eq, m2_eq, m1_le, m2_le, le_m1, le_m2, lt_m1, lt_m2, m12, m21, m1_m1, n_lt, n_le, n_eq, lt_t, lt_f, le_t, le_f, eq_t, eq_f, n_cl, inb_ok, n_add, pk_mul, pk_sub, n_rem, n_div, n_dec, n_mx, n_mn, eq_m1, eq_m2, ss_same, ss_ne, ss_r, ss_l, sr_f, sr_l, sr_same, sr_ne, sw_f, sw_l, sw_at, sw_ne, pk_us, pk_un, bI_t, bI_f, not_true_eq_false, not_false_eq_true, eq_self, and_true, true_and, and_false, false_and, or_true, true_or, or_false, false_or, decide_true, decide_false, Bool.false_eq_true, Bool.true_eq_false]
  · obtain ⟨k, hk, rfl⟩ := isN_e d (by omega)
    have h4 := h3 k hk
    simp (disch := omega) only [↓bnd_i, ↓cal_s, ↓cal_n, ↓cal2_s, ↓cal2_n, cal_s, cal2_s, ↓reduceIte, fa_lit, m1_lit, m2_lit, m1_lt, m2_lt, m1_eq, m2_eq, m1_le, m2_le, le_m1, le_m2, lt_m1, lt_m2, m12, m21, m1_m1, n_lt, n_le, n_eq, lt_t, lt_f, le_t, le_f, eq_t, eq_f, n_cl, inb_ok, n_add, pk_mul, pk_sub, n_rem, n_div, n_dec, n_mx, n_mn, eq_m1, eq_m2, ss_same, ss_ne, ss_r, ss_l, sr_f, sr_l, sr_same, sr_ne, sw_f, sw_l, sw_at, sw_ne, pk_us, pk_un, bI_t, bI_f, not_true_eq_false, not_false_eq_true, eq_self, and_true, true_and, and_false, false_and, or_true, true_or, or_false, false_or, decide_true, decide_false, Bool.false_eq_true, Bool.true_eq_false, h4]
theorem named_fin {F : Nat} {σ τ t u v' u' : St} {x y z w : Int32} {n : Nat} {g : Nat → Nat} (C : Core σ τ) (d1 : f_X7_named F σ x y z w = f_X7_named_154 F v' w) (d2 : f_X8_named F τ x y z w = some (nmR w n g, u')) (T : Tx v' n g) (hg : ∀ i, i < n → g i < 128) (a2 : JJ t (nw τ)) (a3 : Fr σ t) (fv : FrN t v') (c2 : FrM τ u) (c3 : nw u = nw τ) (fu : FmN u u') : OpX σ τ (f_X7_named F σ x y z w) (f_X8_named F τ x y z w) := by
  rw [d1, d2, d_named154 T hg w]
  have e : nw u' = nw τ := (fu.2.1 19 (by omega)).trans c3
  refine ⟨_, v', u', rfl, rfl, ?_, ⟨⟨fun k hk => ?_, fun r hr => ?_, ?_⟩, fun _ => ⟨T.1, n, T.2.2.1, T.2.1⟩⟩, ⟨fun k hk => ?_, fun r hr => ?_, ?_⟩, by rw [e]⟩
  · unfold Core
    rw [e]
    exact ⟨C.1, JJ_same a2 (fun k _ _ => fv.1 k (by omega) (by omega)) (fun r _ _ => fv.2.1 r (by omega))⟩
  · rw [fv.1 k (by omega) (by omega), a3.1 k (by omega)]
  · rw [fv.2.1 r (by omega), a3.2.1 r (by omega)]
  · rw [fv.2.2, a3.2.2]
  · rw [fu.1 k (by omega), c2.1 k hk]
  · rw [fu.2.1 r (by omega), c2.2.1 r hr]
  · rw [fu.2.2, c2.2.2]
theorem op_named {F : Nat} (hF : 300 < F) {σ τ : St} (C : Core σ τ) (S : SB σ) (x y z w : Int32) : OpX σ τ (f_X7_named F σ x y z w) (f_X8_named F τ x y z w) := by
  obtain ⟨b1, b2, b3, b4, b5, b6, b7, b8⟩ := NNb C.1
  obtain ⟨t, a1, a2, a3, a4, a5⟩ := d_aim (F := F) hF C.1 C.2 x y
  obtain ⟨u, c1, c2, c3, c4⟩ := t_comesOut (F := F) hF (τ := ss τ 18 (nI 0)) C.1 x y z
  have h18 : u.1 18 = nI 0 := (co_18 c1).trans ss_same
  have c1 : f_X8_comesOut_ F (ss τ 18 (nI 0)) x y z = some (nI (ocx (nw τ) x y z), u) := c1
  have c2 : FrM τ u := ((FrM.refl τ).ss (by omega) (by omega)).trans c2
  have c3 : nw u = nw τ := c3
  have w0 := d_outcomeAt (F := F) C.1 a2 a4 a5 z
  obtain ⟨v, s1, s2, s3⟩ := d_setLength (F := F) (a3.to10.toX.2 S)
  have dw : f_X7_would F σ x y z = some (nI (ocx (nw τ) x y z), t) := by
    unfold f_X7_would
    simp (disch := omega) only [↓bnd_i, ↓cal_s, ↓cal_n, ↓cal2_s, ↓cal2_n, cal_s, cal2_s, ↓reduceIte, fa_lit, m1_lit, m2_lit, m1_lt, m2_lt, m1_eq, m2_eq, m1_le, m2_le, le_m1, le_m2, lt_m1, lt_m2, m12, m21, m1_m1, n_lt, n_le, n_eq, lt_t, lt_f, le_t, le_f, eq_t, eq_f, n_cl, inb_ok, n_add, pk_mul, pk_sub, n_rem, n_div, n_dec, n_mx, n_mn, eq_m1, eq_m2, ss_same, ss_ne, ss_r, ss_l, sr_f, sr_l, sr_same, sr_ne, sw_f, sw_l, sw_at, sw_ne, pk_us, pk_un, bI_t, bI_f, not_true_eq_false, not_false_eq_true, eq_self, and_true, true_and, and_false, false_and, or_true, true_or, or_false, false_or, decide_true, decide_false, Bool.false_eq_true, Bool.true_eq_false, ↓cal_w (a1), a1, ↓cal_w (w0), w0]
  have hT := s2 (fun _ => 0)
  have hM : Tm u 0 (fun _ => 0) := ⟨h18, by omega, fun i hi => by omega⟩
  have ol := ocx_le C.1 x y z
  have md2 : ∀ {u' : St} {n : Nat} {g : Nat → Nat}, f_X8_saysOutcome F u (nI (ocx (nw τ) x y z)) = some u' → Tm u' n g → 1 ≤ n → f_X8_named F τ x y z w = some (nmR w n g, u') := by
    intro u' n g e T hn
    unfold f_X8_named
    rw [show (0 : Int32) = nI 0 from rfl, bnd_i, cal2_w c1, cal_w e]
    exact t_namedEnd T hn w
  rcases (show ocx (nw τ) x y z = 0 ∨ ocx (nw τ) x y z = 1 ∨ ocx (nw τ) x y z = 2 ∨ ocx (nw τ) x y z = 3 ∨ 4 ≤ ocx (nw τ) x y z by omega) with o | o | o | o | o
  · rw [o] at dw md2
    obtain ⟨u1, p1, q1, f1⟩ := t_says (F := F) hM (by omega) 111
    obtain ⟨u2, p2, q2, f2⟩ := t_says (F := F) q1 (by omega) 107
    have hb : ∀ j, j < 2 → (bytS.getD 2 []).getD j 0 = nI (pt (pt (fun _ => 0) 0 111) 1 107 j) := by
      intro j hj
      rcases (show j = 0 ∨ j = 1 by omega) with rfl | rfl <;> rfl
    obtain ⟨v', k1, k2, k3⟩ := d_str (F := F) hT (i := 2) (by omega) hb
    refine named_fin C ?_ (md2 ?_ q2 (by omega)) k2 (pt_lt (pt_lt (fun i hi => by omega) (by omega)) (by omega)) a2 a3 (s3.trans k3) c2 c3 (f1.trans f2)
    · unfold f_X7_named
      simp (disch := omega) only [↓bnd_i, ↓cal_s, ↓cal_n, ↓cal2_s, ↓cal2_n, cal_s, cal2_s, ↓reduceIte, fa_lit, m1_lit, m2_lit, m1_lt, m2_lt, m1_eq, m2_eq, m1_le, m2_le, le_m1, le_m2, lt_m1, lt_m2, m12, m21, m1_m1, n_lt, n_le, n_eq, lt_t, lt_f, le_t, le_f, eq_t, eq_f, n_cl, inb_ok, n_add, pk_mul, pk_sub, n_rem, n_div, n_dec, n_mx, n_mn, eq_m1, eq_m2, ss_same, ss_ne, ss_r, ss_l, sr_f, sr_l, sr_same, sr_ne, sw_f, sw_l, sw_at, sw_ne, pk_us, pk_un, bI_t, bI_f, not_true_eq_false, not_false_eq_true, eq_self, and_true, true_and, and_false, false_and, or_true, true_or, or_false, false_or, decide_true, decide_false, Bool.false_eq_true, Bool.true_eq_false, ↓cal_w (s1), s1, ↓cal_w (k1), k1, ↓cal2_w (dw), dw]
    · unfold f_X8_saysOutcome
      simp (disch := omega) only [↓bnd_i, ↓cal_s, ↓cal_n, ↓cal2_s, ↓cal2_n, cal_s, cal2_s, ↓reduceIte, fa_lit, m1_lit, m2_lit, m1_lt, m2_lt, m1_eq, m2_eq, m1_le, m2_le, le_m1, le_m2, lt_m1, lt_m2, m12, m21, m1_m1, n_lt, n_le, n_eq, lt_t, lt_f, le_t, le_f, eq_t, eq_f, n_cl, inb_ok, n_add, pk_mul, pk_sub, n_rem, n_div, n_dec, n_mx, n_mn, eq_m1, eq_m2, ss_same, ss_ne, ss_r, ss_l, sr_f, sr_l, sr_same, sr_ne, sw_f, sw_l, sw_at, sw_ne, pk_us, pk_un, bI_t, bI_f, not_true_eq_false, not_false_eq_true, eq_self, and_true, true_and, and_false, false_and, or_true, true_or, or_false, false_or, decide_true, decide_false, Bool.false_eq_true, Bool.true_eq_false, ↓cal_w (p1), p1, ↓cal_w (p2), p2]
  · rw [o] at dw md2
    obtain ⟨u1, p1, q1, f1⟩ := t_says (F := F) hM (by omega) 110
    obtain ⟨u2, p2, q2, f2⟩ := t_says (F := F) q1 (by omega) 111
    obtain ⟨u3, p3, q3, f3⟩ := t_says (F := F) q2 (by omega) 110
    obtain ⟨u4, p4, q4, f4⟩ := t_says (F := F) q3 (by omega) 101
    have hb : ∀ j, j < 4 → (bytS.getD 3 []).getD j 0 = nI (pt (pt (pt (pt (fun _ => 0) 0 110) 1 111) 2 110) 3 101 j) := by
      intro j hj
      rcases (show j = 0 ∨ j = 1 ∨ j = 2 ∨ j = 3 by omega) with rfl | rfl | rfl | rfl <;> rfl
    obtain ⟨v', k1, k2, k3⟩ := d_str (F := F) hT (i := 3) (by omega) hb
    refine named_fin C ?_ (md2 ?_ q4 (by omega)) k2 (pt_lt (pt_lt (pt_lt (pt_lt (fun i hi => by omega) (by omega)) (by omega)) (by omega)) (by omega)) a2 a3 (s3.trans k3) c2 c3 (f1.trans (f2.trans (f3.trans f4)))
    · unfold f_X7_named
      simp (disch := omega) only [↓bnd_i, ↓cal_s, ↓cal_n, ↓cal2_s, ↓cal2_n, cal_s, cal2_s, ↓reduceIte, fa_lit, m1_lit, m2_lit, m1_lt, m2_lt, m1_eq, m2_eq, m1_le, m2_le, le_m1, le_m2, lt_m1, lt_m2, m12, m21, m1_m1, n_lt, n_le, n_eq, lt_t, lt_f, le_t, le_f, eq_t, eq_f, n_cl, inb_ok, n_add, pk_mul, pk_sub, n_rem, n_div, n_dec, n_mx, n_mn, eq_m1, eq_m2, ss_same, ss_ne, ss_r, ss_l, sr_f, sr_l, sr_same, sr_ne, sw_f, sw_l, sw_at, sw_ne, pk_us, pk_un, bI_t, bI_f, not_true_eq_false, not_false_eq_true, eq_self, and_true, true_and, and_false, false_and, or_true, true_or, or_false, false_or, decide_true, decide_false, Bool.false_eq_true, Bool.true_eq_false, ↓cal_w (s1), s1, ↓cal_w (k1), k1, ↓cal2_w (dw), dw]
    · unfold f_X8_saysOutcome
      simp (disch := omega) only [↓bnd_i, ↓cal_s, ↓cal_n, ↓cal2_s, ↓cal2_n, cal_s, cal2_s, ↓reduceIte, fa_lit, m1_lit, m2_lit, m1_lt, m2_lt, m1_eq, m2_eq, m1_le, m2_le, le_m1, le_m2, lt_m1, lt_m2, m12, m21, m1_m1, n_lt, n_le, n_eq, lt_t, lt_f, le_t, le_f, eq_t, eq_f, n_cl, inb_ok, n_add, pk_mul, pk_sub, n_rem, n_div, n_dec, n_mx, n_mn, eq_m1, eq_m2, ss_same, ss_ne, ss_r, ss_l, sr_f, sr_l, sr_same, sr_ne, sw_f, sw_l, sw_at, sw_ne, pk_us, pk_un, bI_t, bI_f, not_true_eq_false, not_false_eq_true, eq_self, and_true, true_and, and_false, false_and, or_true, true_or, or_false, false_or, decide_true, decide_false, Bool.false_eq_true, Bool.true_eq_false, ↓cal_w (p1), p1, ↓cal_w (p2), p2, ↓cal_w (p3), p3, ↓cal_w (p4), p4]
  · rw [o] at dw md2
    obtain ⟨u1, p1, q1, f1⟩ := t_says (F := F) hM (by omega) 98
    obtain ⟨u2, p2, q2, f2⟩ := t_says (F := F) q1 (by omega) 114
    obtain ⟨u3, p3, q3, f3⟩ := t_says (F := F) q2 (by omega) 97
    obtain ⟨u4, p4, q4, f4⟩ := t_says (F := F) q3 (by omega) 110
    obtain ⟨u5, p5, q5, f5⟩ := t_says (F := F) q4 (by omega) 99
    obtain ⟨u6, p6, q6, f6⟩ := t_says (F := F) q5 (by omega) 104
    have hb : ∀ j, j < 6 → (bytS.getD 4 []).getD j 0 = nI (pt (pt (pt (pt (pt (pt (fun _ => 0) 0 98) 1 114) 2 97) 3 110) 4 99) 5 104 j) := by
      intro j hj
      rcases (show j = 0 ∨ j = 1 ∨ j = 2 ∨ j = 3 ∨ j = 4 ∨ j = 5 by omega) with rfl | rfl | rfl | rfl | rfl | rfl <;> rfl
    obtain ⟨v', k1, k2, k3⟩ := d_str (F := F) hT (i := 4) (by omega) hb
    refine named_fin C ?_ (md2 ?_ q6 (by omega)) k2 (pt_lt (pt_lt (pt_lt (pt_lt (pt_lt (pt_lt (fun i hi => by omega) (by omega)) (by omega)) (by omega)) (by omega)) (by omega)) (by omega)) a2 a3 (s3.trans k3) c2 c3 (f1.trans (f2.trans (f3.trans (f4.trans (f5.trans f6)))))
    · unfold f_X7_named
      simp (disch := omega) only [↓bnd_i, ↓cal_s, ↓cal_n, ↓cal2_s, ↓cal2_n, cal_s, cal2_s, ↓reduceIte, fa_lit, m1_lit, m2_lit, m1_lt, m2_lt, m1_eq, m2_eq, m1_le, m2_le, le_m1, le_m2, lt_m1, lt_m2, m12, m21, m1_m1, n_lt, n_le, n_eq, lt_t, lt_f, le_t, le_f, eq_t, eq_f, n_cl, inb_ok, n_add, pk_mul, pk_sub, n_rem, n_div, n_dec, n_mx, n_mn, eq_m1, eq_m2, ss_same, ss_ne, ss_r, ss_l, sr_f, sr_l, sr_same, sr_ne, sw_f, sw_l, sw_at, sw_ne, pk_us, pk_un, bI_t, bI_f, not_true_eq_false, not_false_eq_true, eq_self, and_true, true_and, and_false, false_and, or_true, true_or, or_false, false_or, decide_true, decide_false, Bool.false_eq_true, Bool.true_eq_false, ↓cal_w (s1), s1, ↓cal_w (k1), k1, ↓cal2_w (dw), dw]
    · unfold f_X8_saysOutcome
      simp (disch := omega) only [↓bnd_i, ↓cal_s, ↓cal_n, ↓cal2_s, ↓cal2_n, cal_s, cal2_s, ↓reduceIte, fa_lit, m1_lit, m2_lit, m1_lt, m2_lt, m1_eq, m2_eq, m1_le, m2_le, le_m1, le_m2, lt_m1, lt_m2, m12, m21, m1_m1, n_lt, n_le, n_eq, lt_t, lt_f, le_t, le_f, eq_t, eq_f, n_cl, inb_ok, n_add, pk_mul, pk_sub, n_rem, n_div, n_dec, n_mx, n_mn, eq_m1, eq_m2, ss_same, ss_ne, ss_r, ss_l, sr_f, sr_l, sr_same, sr_ne, sw_f, sw_l, sw_at, sw_ne, pk_us, pk_un, bI_t, bI_f, not_true_eq_false, not_false_eq_true, eq_self, and_true, true_and, and_false, false_and, or_true, true_or, or_false, false_or, decide_true, decide_false, Bool.false_eq_true, Bool.true_eq_false, ↓cal_w (p1), p1, ↓cal_w (p2), p2, ↓cal_w (p3), p3, ↓cal_w (p4), p4, ↓cal_w (p5), p5, ↓cal_w (p6), p6]
  · rw [o] at dw md2
    obtain ⟨u1, p1, q1, f1⟩ := t_says (F := F) hM (by omega) 101
    obtain ⟨u2, p2, q2, f2⟩ := t_says (F := F) q1 (by omega) 97
    obtain ⟨u3, p3, q3, f3⟩ := t_says (F := F) q2 (by omega) 114
    obtain ⟨u4, p4, q4, f4⟩ := t_says (F := F) q3 (by omega) 108
    obtain ⟨u5, p5, q5, f5⟩ := t_says (F := F) q4 (by omega) 121
    have hb : ∀ j, j < 5 → (bytS.getD 5 []).getD j 0 = nI (pt (pt (pt (pt (pt (fun _ => 0) 0 101) 1 97) 2 114) 3 108) 4 121 j) := by
      intro j hj
      rcases (show j = 0 ∨ j = 1 ∨ j = 2 ∨ j = 3 ∨ j = 4 by omega) with rfl | rfl | rfl | rfl | rfl <;> rfl
    obtain ⟨v', k1, k2, k3⟩ := d_str (F := F) hT (i := 5) (by omega) hb
    refine named_fin C ?_ (md2 ?_ q5 (by omega)) k2 (pt_lt (pt_lt (pt_lt (pt_lt (pt_lt (fun i hi => by omega) (by omega)) (by omega)) (by omega)) (by omega)) (by omega)) a2 a3 (s3.trans k3) c2 c3 (f1.trans (f2.trans (f3.trans (f4.trans f5))))
    · unfold f_X7_named
      simp (disch := omega) only [↓bnd_i, ↓cal_s, ↓cal_n, ↓cal2_s, ↓cal2_n, cal_s, cal2_s, ↓reduceIte, fa_lit, m1_lit, m2_lit, m1_lt, m2_lt, m1_eq, m2_eq, m1_le, m2_le, le_m1, le_m2, lt_m1, lt_m2, m12, m21, m1_m1, n_lt, n_le, n_eq, lt_t, lt_f, le_t, le_f, eq_t, eq_f, n_cl, inb_ok, n_add, pk_mul, pk_sub, n_rem, n_div, n_dec, n_mx, n_mn, eq_m1, eq_m2, ss_same, ss_ne, ss_r, ss_l, sr_f, sr_l, sr_same, sr_ne, sw_f, sw_l, sw_at, sw_ne, pk_us, pk_un, bI_t, bI_f, not_true_eq_false, not_false_eq_true, eq_self, and_true, true_and, and_false, false_and, or_true, true_or, or_false, false_or, decide_true, decide_false, Bool.false_eq_true, Bool.true_eq_false, ↓cal_w (s1), s1, ↓cal_w (k1), k1, ↓cal2_w (dw), dw]
    · unfold f_X8_saysOutcome
      simp (disch := omega) only [↓bnd_i, ↓cal_s, ↓cal_n, ↓cal2_s, ↓cal2_n, cal_s, cal2_s, ↓reduceIte, fa_lit, m1_lit, m2_lit, m1_lt, m2_lt, m1_eq, m2_eq, m1_le, m2_le, le_m1, le_m2, lt_m1, lt_m2, m12, m21, m1_m1, n_lt, n_le, n_eq, lt_t, lt_f, le_t, le_f, eq_t, eq_f, n_cl, inb_ok, n_add, pk_mul, pk_sub, n_rem, n_div, n_dec, n_mx, n_mn, eq_m1, eq_m2, ss_same, ss_ne, ss_r, ss_l, sr_f, sr_l, sr_same, sr_ne, sw_f, sw_l, sw_at, sw_ne, pk_us, pk_un, bI_t, bI_f, not_true_eq_false, not_false_eq_true, eq_self, and_true, true_and, and_false, false_and, or_true, true_or, or_false, false_or, decide_true, decide_false, Bool.false_eq_true, Bool.true_eq_false, ↓cal_w (p1), p1, ↓cal_w (p2), p2, ↓cal_w (p3), p3, ↓cal_w (p4), p4, ↓cal_w (p5), p5]
  · obtain ⟨c, l, p, rfl, rfl, rfl, g⟩ := nd_gd C.1 (x := x) (y := y) (z := z) (by unfold nd; exact decide_eq_true (Or.inr o))
    obtain ⟨r1, r2⟩ := c4 c l p rfl rfl rfl g
    obtain ⟨q1, q2, q3, q4, q5, q6⟩ := aim_gd C.1 g a5
    have oe := ocx_gd C.1 g
    have hg := g
    obtain ⟨g1, g2, g3, -⟩ := hg
    have ht := (C.1.2.1.1 l g2).2
    have o3 := oc3_en C.1 (c := c) (l := l) g3
    by_cases le : p ≤ en (nw τ) c l
    · rw [if_pos le] at o3; omega
    · rw [if_neg le] at o3
      obtain ⟨n1, n2, B, n3, n4, n5, n6⟩ := o3
      have hfp := fc_le (N := nw τ) (c := c) (l := l) (p := p)
      obtain ⟨x16, x17⟩ := r2 B n1 n3
      obtain ⟨y16, y17, -⟩ := q6 B (by rw [← n2]; exact n1) n4
      have hB : B < 120 := by
        have h1 := bdF_some n3
        have h2 := div120 (p := p) (w := wd (nw τ)) (by omega) b3 (by omega)
        have hm2 : (fc (nw τ) c l p - 1) / wd (nw τ) ≤ (p - 1) / wd (nw τ) := Nat.div_le_div_right (by omega)
        omega
      have hH := hd_lt C.1 (k := B) g2
      have x16 : u.1 16 = nI (hd (nw τ) l B) := x16
      have x17 : u.1 17 = nI B := x17
      have i1 := dgN_le (hd (nw τ) l B)
      have i2 := dgN_le B
      obtain ⟨u1, p1, t1, f1⟩ := t_says (F := F) hM (by omega) 116
      obtain ⟨u2, p2, t2, f2⟩ := t_saysInt (F := F) t1 (by omega) (v := hd (nw τ) l B) (by omega)
      obtain ⟨u3, p3, t3, f3⟩ := t_says (F := F) t2 (by omega) 112
      obtain ⟨u4, p4, t4, f4⟩ := t_saysInt (F := F) t3 (by omega) (v := B) hB
      obtain ⟨v1, k1, s4, e1⟩ := d_app1 (F := F) hT (by omega) (c := 116) (by omega)
      obtain ⟨v2, k2, s5, e2⟩ := d_appInt (F := F) (by omega) s4 (by omega) (v := hd (nw τ) l B) (by omega)
      obtain ⟨v3, k3, s6, e3⟩ := d_app1 (F := F) s5 (by omega) (c := 112) (by omega)
      obtain ⟨v4, k4, s7, e4⟩ := d_appInt (F := F) (by omega) s6 (by omega) (v := B) hB
      have z16 : v1.1 16 = nI (hd (nw τ) l B) := by rw [e1.1 16 (by omega) (by omega), s3.1 16 (by omega) (by omega)]; exact y16
      have z17 : v3.1 17 = nI B := by rw [e3.1 17 (by omega) (by omega), e2.1 17 (by omega) (by omega), e1.1 17 (by omega) (by omega), s3.1 17 (by omega) (by omega)]; exact y17
      have m16 : u1.1 16 = nI (hd (nw τ) l B) := by rw [f1.1 16 (by omega)]; exact x16
      have m17 : u3.1 17 = nI B := by rw [f3.1 17 (by omega), f2.1 17 (by omega), f1.1 17 (by omega)]; exact x17
      refine named_fin C ?_ (md2 ?_ t4 (by omega)) s7 (dg_lt (pt_lt (dg_lt (pt_lt (fun i hi => by omega) (by omega)) (by omega)) (by omega)) hB) a2 a3 (s3.trans (e1.trans (e2.trans (e3.trans e4)))) c2 c3 (f1.trans (f2.trans (f3.trans f4)))
      · unfold f_X7_named
        simp (disch := omega) only [↓bnd_i, ↓cal_s, ↓cal_n, ↓cal2_s, ↓cal2_n, cal_s, cal2_s, ↓reduceIte, fa_lit, m1_lit, m2_lit, m1_lt, m2_lt, m1_eq, m2_eq, m1_le, m2_le, le_m1, le_m2, lt_m1, lt_m2, m12, m21, m1_m1, n_lt, n_le, n_eq, lt_t, lt_f, le_t, le_f, eq_t, eq_f, n_cl, inb_ok, n_add, pk_mul, pk_sub, n_rem, n_div, n_dec, n_mx, n_mn, eq_m1, eq_m2, ss_same, ss_ne, ss_r, ss_l, sr_f, sr_l, sr_same, sr_ne, sw_f, sw_l, sw_at, sw_ne, pk_us, pk_un, bI_t, bI_f, not_true_eq_false, not_false_eq_true, eq_self, and_true, true_and, and_false, false_and, or_true, true_or, or_false, false_or, decide_true, decide_false, Bool.false_eq_true, Bool.true_eq_false, ↓cal_w (s1), s1, ↓cal_w (k1), k1, ↓cal_w (k2), k2, ↓cal_w (k3), k3, ↓cal_w (k4), k4, ↓cal2_w (dw), dw, z16, z17]
      · unfold f_X8_saysOutcome
        simp (disch := omega) only [↓bnd_i, ↓cal_s, ↓cal_n, ↓cal2_s, ↓cal2_n, cal_s, cal2_s, ↓reduceIte, fa_lit, m1_lit, m2_lit, m1_lt, m2_lt, m1_eq, m2_eq, m1_le, m2_le, le_m1, le_m2, lt_m1, lt_m2, m12, m21, m1_m1, n_lt, n_le, n_eq, lt_t, lt_f, le_t, le_f, eq_t, eq_f, n_cl, inb_ok, n_add, pk_mul, pk_sub, n_rem, n_div, n_dec, n_mx, n_mn, eq_m1, eq_m2, ss_same, ss_ne, ss_r, ss_l, sr_f, sr_l, sr_same, sr_ne, sw_f, sw_l, sw_at, sw_ne, pk_us, pk_un, bI_t, bI_f, not_true_eq_false, not_false_eq_true, eq_self, and_true, true_and, and_false, false_and, or_true, true_or, or_false, false_or, decide_true, decide_false, Bool.false_eq_true, Bool.true_eq_false, ↓cal_w (p1), p1, ↓cal_w (p2), p2, ↓cal_w (p3), p3, ↓cal_w (p4), p4, m16, m17]
