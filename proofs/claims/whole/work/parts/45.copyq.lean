/-! PURE: questions on copies -/
theorem t_pagesOf1 {F : Nat} (hF : 20 < F) {τ : St} (h : NN (nw τ)) {c : Nat} (hc : c < nc (nw τ)) : f_X8_pagesOf F τ (nI c) (nI 1) = some (nI (bs (tk (nw τ) c) 8)) := by
  obtain ⟨b1, b2, b3, b4, b5, b6, b7, b8⟩ := NNb h
  have h0 : τ.2.1 19 0 = nI (pg (nw τ)) := h.1.1.1
  have key : ∀ n g, g ≤ pg (nw τ) → pg (nw τ) - g < n → f_X8_pagesOf_5 F n τ (nI c) (nI 1) (nI (bs (tk (nw τ) c) g)) (nI g) = some (nI (bs (tk (nw τ) c) (pg (nw τ)))) := by
    intro n
    induction n with
    | zero => intro g _ h; omega
    | succ n ih =>
      intro g hg hn
      rw [f_X8_pagesOf_5]
      by_cases e : g = pg (nw τ)
      · rw [e]
        simp (disch := omega) only [↓bnd_i, ↓cal_s, ↓cal_n, ↓cal2_s, ↓cal2_n, cal_s, cal2_s, ↓reduceIte, fa_lit, m1_lit, m2_lit, m1_lt, m2_lt, m1_eq, m2_eq, m1_le, m2_le, le_m1, le_m2, lt_m1, lt_m2, m12, m21, m1_m1, n_lt, n_le, n_eq, lt_t, lt_f, le_t, le_f, eq_t, eq_f, n_cl, inb_ok, n_add, pk_mul, pk_sub, n_rem, n_div, n_dec, n_mx, n_mn, eq_m1, eq_m2, ss_same, ss_ne, ss_r, ss_l, sr_f, sr_l, sr_same, sr_ne, sw_f, sw_l, sw_at, sw_ne, pk_us, pk_un, bI_t, bI_f, not_true_eq_false, not_false_eq_true, eq_self, and_true, true_and, and_false, false_and, or_true, true_or, or_false, false_or, decide_true, decide_false, Bool.false_eq_true, Bool.true_eq_false, h0]
      · have ih' := ih (g + 1) (by omega) (by omega)
        have e0 : τ.2.1 19 (100 + 4 * (8 * c + g)) = bI (tk (nw τ) c g) := ((h.2.2.2.2 c hc).2.2.2 g (by omega)).1
        cases d : tk (nw τ) c g
        · rw [d] at e0
          rw [← st_F d] at ih'
          simp (disch := omega) only [↓bnd_i, ↓cal_s, ↓cal_n, ↓cal2_s, ↓cal2_n, cal_s, cal2_s, ↓reduceIte, fa_lit, m1_lit, m2_lit, m1_lt, m2_lt, m1_eq, m2_eq, m1_le, m2_le, le_m1, le_m2, lt_m1, lt_m2, m12, m21, m1_m1, n_lt, n_le, n_eq, lt_t, lt_f, le_t, le_f, eq_t, eq_f, n_cl, inb_ok, n_add, pk_mul, pk_sub, n_rem, n_div, n_dec, n_mx, n_mn, eq_m1, eq_m2, ss_same, ss_ne, ss_r, ss_l, sr_f, sr_l, sr_same, sr_ne, sw_f, sw_l, sw_at, sw_ne, pk_us, pk_un, bI_t, bI_f, not_true_eq_false, not_false_eq_true, eq_self, and_true, true_and, and_false, false_and, or_true, true_or, or_false, false_or, decide_true, decide_false, Bool.false_eq_true, Bool.true_eq_false, h0, e0, f_X8_pagesOf_61]
          exact ih'
        · rw [d] at e0
          rw [← st_T (by omega) d] at ih'
          simp (disch := omega) only [↓bnd_i, ↓cal_s, ↓cal_n, ↓cal2_s, ↓cal2_n, cal_s, cal2_s, ↓reduceIte, fa_lit, m1_lit, m2_lit, m1_lt, m2_lt, m1_eq, m2_eq, m1_le, m2_le, le_m1, le_m2, lt_m1, lt_m2, m12, m21, m1_m1, n_lt, n_le, n_eq, lt_t, lt_f, le_t, le_f, eq_t, eq_f, n_cl, inb_ok, n_add, pk_mul, pk_sub, n_rem, n_div, n_dec, n_mx, n_mn, eq_m1, eq_m2, ss_same, ss_ne, ss_r, ss_l, sr_f, sr_l, sr_same, sr_ne, sw_f, sw_l, sw_at, sw_ne, pk_us, pk_un, bI_t, bI_f, not_true_eq_false, not_false_eq_true, eq_self, and_true, true_and, and_false, false_and, or_true, true_or, or_false, false_or, decide_true, decide_false, Bool.false_eq_true, Bool.true_eq_false, h0, e0, f_X8_pagesOf_54, f_X8_pagesOf_61]
          exact ih'
  have e := key F 0 (by omega) (by omega)
  rw [← bs_ext b2 (fun i h1 h2 => by
    cases d : tk (nw τ) c i
    · rfl
    · have := (((h.2.2.2.2 c hc).2.2.2 i h2).2 d).1
      omega)] at e
  exact e
theorem t_pagesOf0 {F : Nat} (hF : 20 < F) {τ : St} (h : NN (nw τ)) {c : Nat} (hc : c < nc (nw τ)) : f_X8_pagesOf F τ (nI c) (nI 0) = some (nI (bs (fun g => (tc (nw τ) c g).isSome) 8)) := by
  obtain ⟨b1, b2, b3, b4, b5, b6, b7, b8⟩ := NNb h
  have h0 : τ.2.1 19 0 = nI (pg (nw τ)) := h.1.1.1
  generalize hf : (fun g => (tc (nw τ) c g).isSome) = f
  have hf' : ∀ g, (tc (nw τ) c g).isSome = f g := fun g => congrFun hf g
  have key : ∀ n g, g ≤ pg (nw τ) → pg (nw τ) - g < n → f_X8_pagesOf_5 F n τ (nI c) (nI 0) (nI (bs f g)) (nI g) = some (nI (bs f (pg (nw τ)))) := by
    intro n
    induction n with
    | zero => intro g _ h; omega
    | succ n ih =>
      intro g hg hn
      rw [f_X8_pagesOf_5]
      by_cases e : g = pg (nw τ)
      · rw [e]
        simp (disch := omega) only [↓bnd_i, ↓cal_s, ↓cal_n, ↓cal2_s, ↓cal2_n, cal_s, cal2_s, ↓reduceIte, fa_lit, m1_lit, m2_lit, m1_lt, m2_lt, m1_eq, m2_eq, m1_le, m2_le, le_m1, le_m2, lt_m1, lt_m2, m12, m21, m1_m1, n_lt, n_le, n_eq, lt_t, lt_f, le_t, le_f, eq_t, eq_f, n_cl, inb_ok, n_add, pk_mul, pk_sub, n_rem, n_div, n_dec, n_mx, n_mn, eq_m1, eq_m2, ss_same, ss_ne, ss_r, ss_l, sr_f, sr_l, sr_same, sr_ne, sw_f, sw_l, sw_at, sw_ne, pk_us, pk_un, bI_t, bI_f, not_true_eq_false, not_false_eq_true, eq_self, and_true, true_and, and_false, false_and, or_true, true_or, or_false, false_or, decide_true, decide_false, Bool.false_eq_true, Bool.true_eq_false, h0]
      · have ih' := ih (g + 1) (by omega) (by omega)
        have d0 := hf' g
        cases d : tc (nw τ) c g with
        | none =>
          rw [d] at d0
          rw [← st_F d0.symm] at ih'
          simp (disch := omega) only [↓bnd_i, ↓cal_s, ↓cal_n, ↓cal2_s, ↓cal2_n, cal_s, cal2_s, ↓reduceIte, fa_lit, m1_lit, m2_lit, m1_lt, m2_lt, m1_eq, m2_eq, m1_le, m2_le, le_m1, le_m2, lt_m1, lt_m2, m12, m21, m1_m1, n_lt, n_le, n_eq, lt_t, lt_f, le_t, le_f, eq_t, eq_f, n_cl, inb_ok, n_add, pk_mul, pk_sub, n_rem, n_div, n_dec, n_mx, n_mn, eq_m1, eq_m2, ss_same, ss_ne, ss_r, ss_l, sr_f, sr_l, sr_same, sr_ne, sw_f, sw_l, sw_at, sw_ne, pk_us, pk_un, bI_t, bI_f, not_true_eq_false, not_false_eq_true, eq_self, and_true, true_and, and_false, false_and, or_true, true_or, or_false, false_or, decide_true, decide_false, Bool.false_eq_true, Bool.true_eq_false, ↓cal_w (t_takenAt hF h hc (show g < 8 by omega)), t_takenAt hF h hc (show g < 8 by omega), h0, d, ta, f_X8_pagesOf_61]
          exact ih'
        | some a =>
          have q := tc_in h hc (show g < 8 by omega) d
          rw [d] at d0
          rw [← st_T (by omega) d0.symm] at ih'
          simp (disch := omega) only [↓bnd_i, ↓cal_s, ↓cal_n, ↓cal2_s, ↓cal2_n, cal_s, cal2_s, ↓reduceIte, fa_lit, m1_lit, m2_lit, m1_lt, m2_lt, m1_eq, m2_eq, m1_le, m2_le, le_m1, le_m2, lt_m1, lt_m2, m12, m21, m1_m1, n_lt, n_le, n_eq, lt_t, lt_f, le_t, le_f, eq_t, eq_f, n_cl, inb_ok, n_add, pk_mul, pk_sub, n_rem, n_div, n_dec, n_mx, n_mn, eq_m1, eq_m2, ss_same, ss_ne, ss_r, ss_l, sr_f, sr_l, sr_same, sr_ne, sw_f, sw_l, sw_at, sw_ne, pk_us, pk_un, bI_t, bI_f, not_true_eq_false, not_false_eq_true, eq_self, and_true, true_and, and_false, false_and, or_true, true_or, or_false, false_or, decide_true, decide_false, Bool.false_eq_true, Bool.true_eq_false, ↓cal_w (t_takenAt hF h hc (show g < 8 by omega)), t_takenAt hF h hc (show g < 8 by omega), h0, d, ta, f_X8_pagesOf_54, f_X8_pagesOf_61]
          exact ih'
  have e := key F 0 (by omega) (by omega)
  rw [← bs_ext b2 (fun i h1 h2 => by
    rw [← hf']
    cases d : tc (nw τ) c i with
    | none => rfl
    | some a =>
      have := (tc_in h hc h2 d).2.2.2.1
      omega)] at e
  exact e
theorem q_made {F : Nat} (hF : 300 < F) {σ τ : St} (C : Core σ τ) (x y : Int32) : Qy (f_X7_made F σ x y) (f_X8_made F τ x y) := by
  obtain ⟨b1, b2, b3, b4, b5, b6, b7, b8⟩ := NNb C.1
  obtain ⟨e4, e5, e6, e7, e8⟩ := JJf C.1 C.2
  unfold f_X7_made f_X8_made
  cases c : isN x (nc (nw τ))
  · simp (disch := omega) only [↓bnd_i, ↓cal_s, ↓cal_n, ↓cal2_s, ↓cal2_n, cal_s, cal2_s, ↓reduceIte, fa_lit, m1_lit, m2_lit, m1_lt, m2_lt, m1_eq, m2_eq, m1_le, m2_le, le_m1, le_m2, lt_m1, lt_m2, m12, m21, m1_m1, n_lt, n_le, n_eq, lt_t, lt_f, le_t, le_f, eq_t, eq_f, n_cl, inb_ok, n_add, pk_mul, pk_sub, n_rem, n_div, n_dec, n_mx, n_mn, eq_m1, eq_m2, ss_same, ss_ne, ss_r, ss_l, sr_f, sr_l, sr_same, sr_ne, sw_f, sw_l, sw_at, sw_ne, pk_us, pk_un, bI_t, bI_f, not_true_eq_false, not_false_eq_true, eq_self, and_true, true_and, and_false, false_and, or_true, true_or, or_false, false_or, decide_true, decide_false, Bool.false_eq_true, Bool.true_eq_false, ↓cal_w (d_hasCopy C.1 C.2 x), d_hasCopy C.1 C.2 x, ↓cal_w (t_isCopy C.1.1 x), t_isCopy C.1.1 x, c]
    exact Qy.mk
  · obtain ⟨a, ha, rfl⟩ := isN_e c (by omega)
    obtain ⟨u0, u1, u2, u3⟩ := C.1.2.2.2.2 a ha
    obtain ⟨j1, j2, j3⟩ := j_cop C.2 ha
    by_cases y0 : y = nI 0
    · subst y0
      simp (disch := omega) only [↓bnd_i, ↓cal_s, ↓cal_n, ↓cal2_s, ↓cal2_n, cal_s, cal2_s, ↓reduceIte, fa_lit, m1_lit, m2_lit, m1_lt, m2_lt, m1_eq, m2_eq, m1_le, m2_le, le_m1, le_m2, lt_m1, lt_m2, m12, m21, m1_m1, n_lt, n_le, n_eq, lt_t, lt_f, le_t, le_f, eq_t, eq_f, n_cl, inb_ok, n_add, pk_mul, pk_sub, n_rem, n_div, n_dec, n_mx, n_mn, eq_m1, eq_m2, ss_same, ss_ne, ss_r, ss_l, sr_f, sr_l, sr_same, sr_ne, sw_f, sw_l, sw_at, sw_ne, pk_us, pk_un, bI_t, bI_f, not_true_eq_false, not_false_eq_true, eq_self, and_true, true_and, and_false, false_and, or_true, true_or, or_false, false_or, decide_true, decide_false, Bool.false_eq_true, Bool.true_eq_false, ↓cal_w (d_hasCopy C.1 C.2 _), d_hasCopy C.1 C.2 _, ↓cal_w (t_isCopy C.1.1 _), t_isCopy C.1.1 _, ↓cal_w (d_lineOf C.1 C.2 ha), d_lineOf C.1 C.2 ha, ↓cal_w (t_ofCopy (τ := τ) (show a < 10 by omega) (show 0 < 4 by omega)), t_ofCopy (τ := τ) (show a < 10 by omega) (show 0 < 4 by omega), c, Nat.add_zero]
      exact Qy.mk
    by_cases y1 : y = nI 1
    · subst y1
      simp (disch := omega) only [↓bnd_i, ↓cal_s, ↓cal_n, ↓cal2_s, ↓cal2_n, cal_s, cal2_s, ↓reduceIte, fa_lit, m1_lit, m2_lit, m1_lt, m2_lt, m1_eq, m2_eq, m1_le, m2_le, le_m1, le_m2, lt_m1, lt_m2, m12, m21, m1_m1, n_lt, n_le, n_eq, lt_t, lt_f, le_t, le_f, eq_t, eq_f, n_cl, inb_ok, n_add, pk_mul, pk_sub, n_rem, n_div, n_dec, n_mx, n_mn, eq_m1, eq_m2, ss_same, ss_ne, ss_r, ss_l, sr_f, sr_l, sr_same, sr_ne, sw_f, sw_l, sw_at, sw_ne, pk_us, pk_un, bI_t, bI_f, not_true_eq_false, not_false_eq_true, eq_self, and_true, true_and, and_false, false_and, or_true, true_or, or_false, false_or, decide_true, decide_false, Bool.false_eq_true, Bool.true_eq_false, ↓cal_w (d_hasCopy C.1 C.2 _), d_hasCopy C.1 C.2 _, ↓cal_w (t_isCopy C.1.1 _), t_isCopy C.1.1 _, ↓cal_w (t_ofCopy (τ := τ) (show a < 10 by omega) (show 1 < 4 by omega)), t_ofCopy (τ := τ) (show a < 10 by omega) (show 1 < 4 by omega), c, f_X0_uponOf, j2]
      exact Qy.mk
    by_cases y2 : y = nI 2
    · subst y2
      have u1' : τ.2.1 19 (60 + 4 * a + 2) = bI (co (nw τ) a) := u1
      cases d : co (nw τ) a
      · rw [d] at u1'
        simp (disch := omega) only [↓bnd_i, ↓cal_s, ↓cal_n, ↓cal2_s, ↓cal2_n, cal_s, cal2_s, ↓reduceIte, fa_lit, m1_lit, m2_lit, m1_lt, m2_lt, m1_eq, m2_eq, m1_le, m2_le, le_m1, le_m2, lt_m1, lt_m2, m12, m21, m1_m1, n_lt, n_le, n_eq, lt_t, lt_f, le_t, le_f, eq_t, eq_f, n_cl, inb_ok, n_add, pk_mul, pk_sub, n_rem, n_div, n_dec, n_mx, n_mn, eq_m1, eq_m2, ss_same, ss_ne, ss_r, ss_l, sr_f, sr_l, sr_same, sr_ne, sw_f, sw_l, sw_at, sw_ne, pk_us, pk_un, bI_t, bI_f, not_true_eq_false, not_false_eq_true, eq_self, and_true, true_and, and_false, false_and, or_true, true_or, or_false, false_or, decide_true, decide_false, Bool.false_eq_true, Bool.true_eq_false, ↓cal_w (d_hasCopy C.1 C.2 _), d_hasCopy C.1 C.2 _, ↓cal_w (t_isCopy C.1.1 _), t_isCopy C.1.1 _, ↓cal_w (d_isOpen C.1 C.2 ha), d_isOpen C.1 C.2 ha, ↓cal_w (t_ofCopy (τ := τ) (show a < 10 by omega) (show 2 < 4 by omega)), t_ofCopy (τ := τ) (show a < 10 by omega) (show 2 < 4 by omega), c, d, u1']
        exact Qy.mk
      · rw [d] at u1'
        simp (disch := omega) only [↓bnd_i, ↓cal_s, ↓cal_n, ↓cal2_s, ↓cal2_n, cal_s, cal2_s, ↓reduceIte, fa_lit, m1_lit, m2_lit, m1_lt, m2_lt, m1_eq, m2_eq, m1_le, m2_le, le_m1, le_m2, lt_m1, lt_m2, m12, m21, m1_m1, n_lt, n_le, n_eq, lt_t, lt_f, le_t, le_f, eq_t, eq_f, n_cl, inb_ok, n_add, pk_mul, pk_sub, n_rem, n_div, n_dec, n_mx, n_mn, eq_m1, eq_m2, ss_same, ss_ne, ss_r, ss_l, sr_f, sr_l, sr_same, sr_ne, sw_f, sw_l, sw_at, sw_ne, pk_us, pk_un, bI_t, bI_f, not_true_eq_false, not_false_eq_true, eq_self, and_true, true_and, and_false, false_and, or_true, true_or, or_false, false_or, decide_true, decide_false, Bool.false_eq_true, Bool.true_eq_false, ↓cal_w (d_hasCopy C.1 C.2 _), d_hasCopy C.1 C.2 _, ↓cal_w (t_isCopy C.1.1 _), t_isCopy C.1.1 _, ↓cal_w (d_isOpen C.1 C.2 ha), d_isOpen C.1 C.2 ha, ↓cal_w (t_ofCopy (τ := τ) (show a < 10 by omega) (show 2 < 4 by omega)), t_ofCopy (τ := τ) (show a < 10 by omega) (show 2 < 4 by omega), c, d, u1']
        exact Qy.mk
    by_cases y3 : y = nI 3
    · subst y3
      simp (disch := omega) only [↓bnd_i, ↓cal_s, ↓cal_n, ↓cal2_s, ↓cal2_n, cal_s, cal2_s, ↓reduceIte, fa_lit, m1_lit, m2_lit, m1_lt, m2_lt, m1_eq, m2_eq, m1_le, m2_le, le_m1, le_m2, lt_m1, lt_m2, m12, m21, m1_m1, n_lt, n_le, n_eq, lt_t, lt_f, le_t, le_f, eq_t, eq_f, n_cl, inb_ok, n_add, pk_mul, pk_sub, n_rem, n_div, n_dec, n_mx, n_mn, eq_m1, eq_m2, ss_same, ss_ne, ss_r, ss_l, sr_f, sr_l, sr_same, sr_ne, sw_f, sw_l, sw_at, sw_ne, pk_us, pk_un, bI_t, bI_f, not_true_eq_false, not_false_eq_true, eq_self, and_true, true_and, and_false, false_and, or_true, true_or, or_false, false_or, decide_true, decide_false, Bool.false_eq_true, Bool.true_eq_false, ↓cal_w (d_hasCopy C.1 C.2 _), d_hasCopy C.1 C.2 _, ↓cal_w (t_isCopy C.1.1 _), t_isCopy C.1.1 _, ↓cal_w (t_pagesOf1 (show 20 < F by omega) C.1 ha), t_pagesOf1 (show 20 < F by omega) C.1 ha, c, f_X0_ownPages, j3]
      exact Qy.mk
    by_cases y4 : y = nI 4
    · subst y4
      simp (disch := omega) only [↓bnd_i, ↓cal_s, ↓cal_n, ↓cal2_s, ↓cal2_n, cal_s, cal2_s, ↓reduceIte, fa_lit, m1_lit, m2_lit, m1_lt, m2_lt, m1_eq, m2_eq, m1_le, m2_le, le_m1, le_m2, lt_m1, lt_m2, m12, m21, m1_m1, n_lt, n_le, n_eq, lt_t, lt_f, le_t, le_f, eq_t, eq_f, n_cl, inb_ok, n_add, pk_mul, pk_sub, n_rem, n_div, n_dec, n_mx, n_mn, eq_m1, eq_m2, ss_same, ss_ne, ss_r, ss_l, sr_f, sr_l, sr_same, sr_ne, sw_f, sw_l, sw_at, sw_ne, pk_us, pk_un, bI_t, bI_f, not_true_eq_false, not_false_eq_true, eq_self, and_true, true_and, and_false, false_and, or_true, true_or, or_false, false_or, decide_true, decide_false, Bool.false_eq_true, Bool.true_eq_false, ↓cal_w (d_hasCopy C.1 C.2 _), d_hasCopy C.1 C.2 _, ↓cal_w (t_isCopy C.1.1 _), t_isCopy C.1.1 _, ↓cal_w (d_allPages (show 20 < F by omega) C.1 C.2 ha), d_allPages (show 20 < F by omega) C.1 C.2 ha, ↓cal_w (t_pagesOf0 (show 20 < F by omega) C.1 ha), t_pagesOf0 (show 20 < F by omega) C.1 ha, c]
      exact Qy.mk
    by_cases y5 : y = nI 5
    · subst y5
      cases d : ft (nw τ) a
      · simp (disch := omega) only [↓bnd_i, ↓cal_s, ↓cal_n, ↓cal2_s, ↓cal2_n, cal_s, cal2_s, ↓reduceIte, fa_lit, m1_lit, m2_lit, m1_lt, m2_lt, m1_eq, m2_eq, m1_le, m2_le, le_m1, le_m2, lt_m1, lt_m2, m12, m21, m1_m1, n_lt, n_le, n_eq, lt_t, lt_f, le_t, le_f, eq_t, eq_f, n_cl, inb_ok, n_add, pk_mul, pk_sub, n_rem, n_div, n_dec, n_mx, n_mn, eq_m1, eq_m2, ss_same, ss_ne, ss_r, ss_l, sr_f, sr_l, sr_same, sr_ne, sw_f, sw_l, sw_at, sw_ne, pk_us, pk_un, bI_t, bI_f, not_true_eq_false, not_false_eq_true, eq_self, and_true, true_and, and_false, false_and, or_true, true_or, or_false, false_or, decide_true, decide_false, Bool.false_eq_true, Bool.true_eq_false, ↓cal_w (d_hasCopy C.1 C.2 _), d_hasCopy C.1 C.2 _, ↓cal_w (t_isCopy C.1.1 _), t_isCopy C.1.1 _, ↓cal_w (d_isFit (show 20 < F by omega) C.1 C.2 ha), d_isFit (show 20 < F by omega) C.1 C.2 ha, ↓cal_w (t_isFit (show 20 < F by omega) C.1 ha), t_isFit (show 20 < F by omega) C.1 ha, c, d, e4]
        exact Qy.mk
      · simp (disch := omega) only [↓bnd_i, ↓cal_s, ↓cal_n, ↓cal2_s, ↓cal2_n, cal_s, cal2_s, ↓reduceIte, fa_lit, m1_lit, m2_lit, m1_lt, m2_lt, m1_eq, m2_eq, m1_le, m2_le, le_m1, le_m2, lt_m1, lt_m2, m12, m21, m1_m1, n_lt, n_le, n_eq, lt_t, lt_f, le_t, le_f, eq_t, eq_f, n_cl, inb_ok, n_add, pk_mul, pk_sub, n_rem, n_div, n_dec, n_mx, n_mn, eq_m1, eq_m2, ss_same, ss_ne, ss_r, ss_l, sr_f, sr_l, sr_same, sr_ne, sw_f, sw_l, sw_at, sw_ne, pk_us, pk_un, bI_t, bI_f, not_true_eq_false, not_false_eq_true, eq_self, and_true, true_and, and_false, false_and, or_true, true_or, or_false, false_or, decide_true, decide_false, Bool.false_eq_true, Bool.true_eq_false, ↓cal_w (d_hasCopy C.1 C.2 _), d_hasCopy C.1 C.2 _, ↓cal_w (t_isCopy C.1.1 _), t_isCopy C.1.1 _, ↓cal_w (d_isFit (show 20 < F by omega) C.1 C.2 ha), d_isFit (show 20 < F by omega) C.1 C.2 ha, ↓cal_w (t_isFit (show 20 < F by omega) C.1 ha), t_isFit (show 20 < F by omega) C.1 ha, c, d, e4]
        exact Qy.mk
    by_cases y6 : y = nI 6
    · subst y6
      simp (disch := omega) only [↓bnd_i, ↓cal_s, ↓cal_n, ↓cal2_s, ↓cal2_n, cal_s, cal2_s, ↓reduceIte, fa_lit, m1_lit, m2_lit, m1_lt, m2_lt, m1_eq, m2_eq, m1_le, m2_le, le_m1, le_m2, lt_m1, lt_m2, m12, m21, m1_m1, n_lt, n_le, n_eq, lt_t, lt_f, le_t, le_f, eq_t, eq_f, n_cl, inb_ok, n_add, pk_mul, pk_sub, n_rem, n_div, n_dec, n_mx, n_mn, eq_m1, eq_m2, ss_same, ss_ne, ss_r, ss_l, sr_f, sr_l, sr_same, sr_ne, sw_f, sw_l, sw_at, sw_ne, pk_us, pk_un, bI_t, bI_f, not_true_eq_false, not_false_eq_true, eq_self, and_true, true_and, and_false, false_and, or_true, true_or, or_false, false_or, decide_true, decide_false, Bool.false_eq_true, Bool.true_eq_false, ↓cal_w (d_hasCopy C.1 C.2 _), d_hasCopy C.1 C.2 _, ↓cal_w (t_isCopy C.1.1 _), t_isCopy C.1.1 _, ↓cal_w (d_chainOf (show 20 < F by omega) C.1 C.2 ha), d_chainOf (show 20 < F by omega) C.1 C.2 ha, ↓cal_w (t_chainOf (show 20 < F by omega) C.1 ha), t_chainOf (show 20 < F by omega) C.1 ha, c]
      exact Qy.mk
    by_cases y7 : y = nI 7
    · subst y7
      have u2' : τ.2.1 19 (60 + 4 * a + 3) = bI (cd (nw τ) a) := u2
      cases d : cd (nw τ) a
      · rw [d] at u2'
        simp (disch := omega) only [↓bnd_i, ↓cal_s, ↓cal_n, ↓cal2_s, ↓cal2_n, cal_s, cal2_s, ↓reduceIte, fa_lit, m1_lit, m2_lit, m1_lt, m2_lt, m1_eq, m2_eq, m1_le, m2_le, le_m1, le_m2, lt_m1, lt_m2, m12, m21, m1_m1, n_lt, n_le, n_eq, lt_t, lt_f, le_t, le_f, eq_t, eq_f, n_cl, inb_ok, n_add, pk_mul, pk_sub, n_rem, n_div, n_dec, n_mx, n_mn, eq_m1, eq_m2, ss_same, ss_ne, ss_r, ss_l, sr_f, sr_l, sr_same, sr_ne, sw_f, sw_l, sw_at, sw_ne, pk_us, pk_un, bI_t, bI_f, not_true_eq_false, not_false_eq_true, eq_self, and_true, true_and, and_false, false_and, or_true, true_or, or_false, false_or, decide_true, decide_false, Bool.false_eq_true, Bool.true_eq_false, ↓cal_w (d_hasCopy C.1 C.2 _), d_hasCopy C.1 C.2 _, ↓cal_w (t_isCopy C.1.1 _), t_isCopy C.1.1 _, ↓cal_w (d_isDropped C.1 C.2 ha), d_isDropped C.1 C.2 ha, ↓cal_w (t_ofCopy (τ := τ) (show a < 10 by omega) (show 3 < 4 by omega)), t_ofCopy (τ := τ) (show a < 10 by omega) (show 3 < 4 by omega), c, d, u2']
        exact Qy.mk
      · rw [d] at u2'
        simp (disch := omega) only [↓bnd_i, ↓cal_s, ↓cal_n, ↓cal2_s, ↓cal2_n, cal_s, cal2_s, ↓reduceIte, fa_lit, m1_lit, m2_lit, m1_lt, m2_lt, m1_eq, m2_eq, m1_le, m2_le, le_m1, le_m2, lt_m1, lt_m2, m12, m21, m1_m1, n_lt, n_le, n_eq, lt_t, lt_f, le_t, le_f, eq_t, eq_f, n_cl, inb_ok, n_add, pk_mul, pk_sub, n_rem, n_div, n_dec, n_mx, n_mn, eq_m1, eq_m2, ss_same, ss_ne, ss_r, ss_l, sr_f, sr_l, sr_same, sr_ne, sw_f, sw_l, sw_at, sw_ne, pk_us, pk_un, bI_t, bI_f, not_true_eq_false, not_false_eq_true, eq_self, and_true, true_and, and_false, false_and, or_true, true_or, or_false, false_or, decide_true, decide_false, Bool.false_eq_true, Bool.true_eq_false, ↓cal_w (d_hasCopy C.1 C.2 _), d_hasCopy C.1 C.2 _, ↓cal_w (t_isCopy C.1.1 _), t_isCopy C.1.1 _, ↓cal_w (d_isDropped C.1 C.2 ha), d_isDropped C.1 C.2 ha, ↓cal_w (t_ofCopy (τ := τ) (show a < 10 by omega) (show 3 < 4 by omega)), t_ofCopy (τ := τ) (show a < 10 by omega) (show 3 < 4 by omega), c, d, u2']
        exact Qy.mk
    simp (disch := omega) only [↓bnd_i, ↓cal_s, ↓cal_n, ↓cal2_s, ↓cal2_n, cal_s, cal2_s, ↓reduceIte, fa_lit, m1_lit, m2_lit, m1_lt, m2_lt, m1_eq, m2_eq, m1_le, m2_le, le_m1, le_m2, lt_m1, lt_m2, m12, m21, m1_m1, n_lt, n_le, n_eq, lt_t, lt_f, le_t, le_f, eq_t, eq_f, n_cl, inb_ok, n_add, pk_mul, pk_sub, n_rem, n_div, n_dec, n_mx, n_mn, eq_m1, eq_m2, ss_same, ss_ne, ss_r, ss_l, sr_f, sr_l, sr_same, sr_ne, sw_f, sw_l, sw_at, sw_ne, pk_us, pk_un, bI_t, bI_f, not_true_eq_false, not_false_eq_true, eq_self, and_true, true_and, and_false, false_and, or_true, true_or, or_false, false_or, decide_true, decide_false, Bool.false_eq_true, Bool.true_eq_false, ↓cal_w (d_hasCopy C.1 C.2 _), d_hasCopy C.1 C.2 _, ↓cal_w (t_isCopy C.1.1 _), t_isCopy C.1.1 _, c, eq_false y0, eq_false y1, eq_false y2, eq_false y3, eq_false y4, eq_false y5, eq_false y6, eq_false y7]
    exact Qy.mk
theorem q_source {F : Nat} (hF : 300 < F) {σ τ : St} (C : Core σ τ) (x y : Int32) : Qy (f_X7_source F σ x y) (f_X8_source F τ x y) := by
  obtain ⟨b1, b2, b3, b4, b5, b6, b7, b8⟩ := NNb C.1
  unfold f_X7_source f_X8_source f_X8_ofTaken
  cases c : isN x (nc (nw τ))
  · simp (disch := omega) only [↓bnd_i, ↓cal_s, ↓cal_n, ↓cal2_s, ↓cal2_n, cal_s, cal2_s, ↓reduceIte, fa_lit, m1_lit, m2_lit, m1_lt, m2_lt, m1_eq, m2_eq, m1_le, m2_le, le_m1, le_m2, lt_m1, lt_m2, m12, m21, m1_m1, n_lt, n_le, n_eq, lt_t, lt_f, le_t, le_f, eq_t, eq_f, n_cl, inb_ok, n_add, pk_mul, pk_sub, n_rem, n_div, n_dec, n_mx, n_mn, eq_m1, eq_m2, ss_same, ss_ne, ss_r, ss_l, sr_f, sr_l, sr_same, sr_ne, sw_f, sw_l, sw_at, sw_ne, pk_us, pk_un, bI_t, bI_f, not_true_eq_false, not_false_eq_true, eq_self, and_true, true_and, and_false, false_and, or_true, true_or, or_false, false_or, decide_true, decide_false, Bool.false_eq_true, Bool.true_eq_false, ↓cal_w (d_hasCopy C.1 C.2 x), d_hasCopy C.1 C.2 x, ↓cal_w (t_isCopy C.1.1 x), t_isCopy C.1.1 x, c]
    exact Qy.mk
  · cases d : isN y (pg (nw τ))
    · simp (disch := omega) only [↓bnd_i, ↓cal_s, ↓cal_n, ↓cal2_s, ↓cal2_n, cal_s, cal2_s, ↓reduceIte, fa_lit, m1_lit, m2_lit, m1_lt, m2_lt, m1_eq, m2_eq, m1_le, m2_le, le_m1, le_m2, lt_m1, lt_m2, m12, m21, m1_m1, n_lt, n_le, n_eq, lt_t, lt_f, le_t, le_f, eq_t, eq_f, n_cl, inb_ok, n_add, pk_mul, pk_sub, n_rem, n_div, n_dec, n_mx, n_mn, eq_m1, eq_m2, ss_same, ss_ne, ss_r, ss_l, sr_f, sr_l, sr_same, sr_ne, sw_f, sw_l, sw_at, sw_ne, pk_us, pk_un, bI_t, bI_f, not_true_eq_false, not_false_eq_true, eq_self, and_true, true_and, and_false, false_and, or_true, true_or, or_false, false_or, decide_true, decide_false, Bool.false_eq_true, Bool.true_eq_false, ↓cal_w (d_hasCopy C.1 C.2 x), d_hasCopy C.1 C.2 x, ↓cal_w (t_isCopy C.1.1 x), t_isCopy C.1.1 x, ↓cal_w (d_hasPage C.1 C.2 y), d_hasPage C.1 C.2 y, ↓cal_w (t_isPage C.1.1 y), t_isPage C.1.1 y, c, d]
      exact Qy.mk
    · obtain ⟨a, ha, rfl⟩ := isN_e c (by omega)
      obtain ⟨g, hg, rfl⟩ := isN_e d (by omega)
      cases e : tc (nw τ) a g with
      | none =>
        simp (disch := omega) only [↓bnd_i, ↓cal_s, ↓cal_n, ↓cal2_s, ↓cal2_n, cal_s, cal2_s, ↓reduceIte, fa_lit, m1_lit, m2_lit, m1_lt, m2_lt, m1_eq, m2_eq, m1_le, m2_le, le_m1, le_m2, lt_m1, lt_m2, m12, m21, m1_m1, n_lt, n_le, n_eq, lt_t, lt_f, le_t, le_f, eq_t, eq_f, n_cl, inb_ok, n_add, pk_mul, pk_sub, n_rem, n_div, n_dec, n_mx, n_mn, eq_m1, eq_m2, ss_same, ss_ne, ss_r, ss_l, sr_f, sr_l, sr_same, sr_ne, sw_f, sw_l, sw_at, sw_ne, pk_us, pk_un, bI_t, bI_f, not_true_eq_false, not_false_eq_true, eq_self, and_true, true_and, and_false, false_and, or_true, true_or, or_false, false_or, decide_true, decide_false, Bool.false_eq_true, Bool.true_eq_false, ↓cal_w (d_hasCopy C.1 C.2 _), d_hasCopy C.1 C.2 _, ↓cal_w (t_isCopy C.1.1 _), t_isCopy C.1.1 _, ↓cal_w (d_hasPage C.1 C.2 _), d_hasPage C.1 C.2 _, ↓cal_w (t_isPage C.1.1 _), t_isPage C.1.1 _, ↓cal_w (d_cellOf (show 20 < F by omega) C.1 C.2 ha (show g < 8 by omega)), d_cellOf (show 20 < F by omega) C.1 C.2 ha (show g < 8 by omega), ↓cal_w (t_takenAt (show 20 < F by omega) C.1 ha (show g < 8 by omega)), t_takenAt (show 20 < F by omega) C.1 ha (show g < 8 by omega), c, d, e, cl, ta, f_X0_sourceIn]
        exact Qy.mk
      | some b =>
        obtain ⟨q1, q2, q3, q4, q5, q6, q7, q8⟩ := tc_in C.1 ha (show g < 8 by omega) e
        obtain ⟨r1, r2, r3⟩ := j_cell C.2 q2 (show g < 8 by omega) q3
        have q5' : τ.2.1 19 (100 + 4 * (8 * b + g) + 1) = nI (tl (nw τ) b g) := q5
        simp (disch := omega) only [↓bnd_i, ↓cal_s, ↓cal_n, ↓cal2_s, ↓cal2_n, cal_s, cal2_s, ↓reduceIte, fa_lit, m1_lit, m2_lit, m1_lt, m2_lt, m1_eq, m2_eq, m1_le, m2_le, le_m1, le_m2, lt_m1, lt_m2, m12, m21, m1_m1, n_lt, n_le, n_eq, lt_t, lt_f, le_t, le_f, eq_t, eq_f, n_cl, inb_ok, n_add, pk_mul, pk_sub, n_rem, n_div, n_dec, n_mx, n_mn, eq_m1, eq_m2, ss_same, ss_ne, ss_r, ss_l, sr_f, sr_l, sr_same, sr_ne, sw_f, sw_l, sw_at, sw_ne, pk_us, pk_un, bI_t, bI_f, not_true_eq_false, not_false_eq_true, eq_self, and_true, true_and, and_false, false_and, or_true, true_or, or_false, false_or, decide_true, decide_false, Bool.false_eq_true, Bool.true_eq_false, ↓cal_w (d_hasCopy C.1 C.2 _), d_hasCopy C.1 C.2 _, ↓cal_w (t_isCopy C.1.1 _), t_isCopy C.1.1 _, ↓cal_w (d_hasPage C.1 C.2 _), d_hasPage C.1 C.2 _, ↓cal_w (t_isPage C.1.1 _), t_isPage C.1.1 _, ↓cal_w (d_cellOf (show 20 < F by omega) C.1 C.2 ha (show g < 8 by omega)), d_cellOf (show 20 < F by omega) C.1 C.2 ha (show g < 8 by omega), ↓cal_w (t_takenAt (show 20 < F by omega) C.1 ha (show g < 8 by omega)), t_takenAt (show 20 < F by omega) C.1 ha (show g < 8 by omega), c, d, e, cl, ta, f_X0_sourceIn, r1, q5']
        exact Qy.mk
theorem q_taken {F : Nat} (hF : 300 < F) {σ τ : St} (C : Core σ τ) (x y : Int32) : Qy (f_X7_taken F σ x y) (f_X8_taken F τ x y) := by
  obtain ⟨b1, b2, b3, b4, b5, b6, b7, b8⟩ := NNb C.1
  unfold f_X7_taken f_X8_taken f_X8_ofTaken
  cases c : isN x (nc (nw τ))
  · simp (disch := omega) only [↓bnd_i, ↓cal_s, ↓cal_n, ↓cal2_s, ↓cal2_n, cal_s, cal2_s, ↓reduceIte, fa_lit, m1_lit, m2_lit, m1_lt, m2_lt, m1_eq, m2_eq, m1_le, m2_le, le_m1, le_m2, lt_m1, lt_m2, m12, m21, m1_m1, n_lt, n_le, n_eq, lt_t, lt_f, le_t, le_f, eq_t, eq_f, n_cl, inb_ok, n_add, pk_mul, pk_sub, n_rem, n_div, n_dec, n_mx, n_mn, eq_m1, eq_m2, ss_same, ss_ne, ss_r, ss_l, sr_f, sr_l, sr_same, sr_ne, sw_f, sw_l, sw_at, sw_ne, pk_us, pk_un, bI_t, bI_f, not_true_eq_false, not_false_eq_true, eq_self, and_true, true_and, and_false, false_and, or_true, true_or, or_false, false_or, decide_true, decide_false, Bool.false_eq_true, Bool.true_eq_false, ↓cal_w (d_hasCopy C.1 C.2 x), d_hasCopy C.1 C.2 x, ↓cal_w (t_isCopy C.1.1 x), t_isCopy C.1.1 x, c]
    exact Qy.mk
  · cases d : isN y (pg (nw τ))
    · simp (disch := omega) only [↓bnd_i, ↓cal_s, ↓cal_n, ↓cal2_s, ↓cal2_n, cal_s, cal2_s, ↓reduceIte, fa_lit, m1_lit, m2_lit, m1_lt, m2_lt, m1_eq, m2_eq, m1_le, m2_le, le_m1, le_m2, lt_m1, lt_m2, m12, m21, m1_m1, n_lt, n_le, n_eq, lt_t, lt_f, le_t, le_f, eq_t, eq_f, n_cl, inb_ok, n_add, pk_mul, pk_sub, n_rem, n_div, n_dec, n_mx, n_mn, eq_m1, eq_m2, ss_same, ss_ne, ss_r, ss_l, sr_f, sr_l, sr_same, sr_ne, sw_f, sw_l, sw_at, sw_ne, pk_us, pk_un, bI_t, bI_f, not_true_eq_false, not_false_eq_true, eq_self, and_true, true_and, and_false, false_and, or_true, true_or, or_false, false_or, decide_true, decide_false, Bool.false_eq_true, Bool.true_eq_false, ↓cal_w (d_hasCopy C.1 C.2 x), d_hasCopy C.1 C.2 x, ↓cal_w (t_isCopy C.1.1 x), t_isCopy C.1.1 x, ↓cal_w (d_hasPage C.1 C.2 y), d_hasPage C.1 C.2 y, ↓cal_w (t_isPage C.1.1 y), t_isPage C.1.1 y, c, d]
      exact Qy.mk
    · obtain ⟨a, ha, rfl⟩ := isN_e c (by omega)
      obtain ⟨g, hg, rfl⟩ := isN_e d (by omega)
      cases e : tc (nw τ) a g with
      | none =>
        simp (disch := omega) only [↓bnd_i, ↓cal_s, ↓cal_n, ↓cal2_s, ↓cal2_n, cal_s, cal2_s, ↓reduceIte, fa_lit, m1_lit, m2_lit, m1_lt, m2_lt, m1_eq, m2_eq, m1_le, m2_le, le_m1, le_m2, lt_m1, lt_m2, m12, m21, m1_m1, n_lt, n_le, n_eq, lt_t, lt_f, le_t, le_f, eq_t, eq_f, n_cl, inb_ok, n_add, pk_mul, pk_sub, n_rem, n_div, n_dec, n_mx, n_mn, eq_m1, eq_m2, ss_same, ss_ne, ss_r, ss_l, sr_f, sr_l, sr_same, sr_ne, sw_f, sw_l, sw_at, sw_ne, pk_us, pk_un, bI_t, bI_f, not_true_eq_false, not_false_eq_true, eq_self, and_true, true_and, and_false, false_and, or_true, true_or, or_false, false_or, decide_true, decide_false, Bool.false_eq_true, Bool.true_eq_false, ↓cal_w (d_hasCopy C.1 C.2 _), d_hasCopy C.1 C.2 _, ↓cal_w (t_isCopy C.1.1 _), t_isCopy C.1.1 _, ↓cal_w (d_hasPage C.1 C.2 _), d_hasPage C.1 C.2 _, ↓cal_w (t_isPage C.1.1 _), t_isPage C.1.1 _, ↓cal_w (d_cellOf (show 20 < F by omega) C.1 C.2 ha (show g < 8 by omega)), d_cellOf (show 20 < F by omega) C.1 C.2 ha (show g < 8 by omega), ↓cal_w (t_takenAt (show 20 < F by omega) C.1 ha (show g < 8 by omega)), t_takenAt (show 20 < F by omega) C.1 ha (show g < 8 by omega), c, d, e, cl, ta, f_X0_placeIn]
        exact Qy.mk
      | some b =>
        obtain ⟨q1, q2, q3, q4, q5, q6, q7, q8⟩ := tc_in C.1 ha (show g < 8 by omega) e
        obtain ⟨r1, r2, r3⟩ := j_cell C.2 q2 (show g < 8 by omega) q3
        have q7' : τ.2.1 19 (100 + 4 * (8 * b + g) + 2) = nI (tw (nw τ) b g) := q7
        simp (disch := omega) only [↓bnd_i, ↓cal_s, ↓cal_n, ↓cal2_s, ↓cal2_n, cal_s, cal2_s, ↓reduceIte, fa_lit, m1_lit, m2_lit, m1_lt, m2_lt, m1_eq, m2_eq, m1_le, m2_le, le_m1, le_m2, lt_m1, lt_m2, m12, m21, m1_m1, n_lt, n_le, n_eq, lt_t, lt_f, le_t, le_f, eq_t, eq_f, n_cl, inb_ok, n_add, pk_mul, pk_sub, n_rem, n_div, n_dec, n_mx, n_mn, eq_m1, eq_m2, ss_same, ss_ne, ss_r, ss_l, sr_f, sr_l, sr_same, sr_ne, sw_f, sw_l, sw_at, sw_ne, pk_us, pk_un, bI_t, bI_f, not_true_eq_false, not_false_eq_true, eq_self, and_true, true_and, and_false, false_and, or_true, true_or, or_false, false_or, decide_true, decide_false, Bool.false_eq_true, Bool.true_eq_false, ↓cal_w (d_hasCopy C.1 C.2 _), d_hasCopy C.1 C.2 _, ↓cal_w (t_isCopy C.1.1 _), t_isCopy C.1.1 _, ↓cal_w (d_hasPage C.1 C.2 _), d_hasPage C.1 C.2 _, ↓cal_w (t_isPage C.1.1 _), t_isPage C.1.1 _, ↓cal_w (d_cellOf (show 20 < F by omega) C.1 C.2 ha (show g < 8 by omega)), d_cellOf (show 20 < F by omega) C.1 C.2 ha (show g < 8 by omega), ↓cal_w (t_takenAt (show 20 < F by omega) C.1 ha (show g < 8 by omega)), t_takenAt (show 20 < F by omega) C.1 ha (show g < 8 by omega), c, d, e, cl, ta, f_X0_placeIn, r2, q7']
        exact Qy.mk
theorem isN_le {x : Int32} {n m : Nat} (h : isN x m = false) (hn : n ≤ m) : isN x n = false := by
  cases c : isN x n
  · rfl
  · unfold isN at *
    have := of_decide_eq_true c
    have h2 := of_decide_eq_false h
    exact absurd ⟨this.1, by omega⟩ h2
theorem q_held {F : Nat} (hF : 300 < F) {σ τ : St} (C : Core σ τ) (x y : Int32) : Qy (f_X7_held F σ x y) (f_X8_held F τ x y) := by
  obtain ⟨b1, b2, b3, b4, b5, b6, b7, b8⟩ := NNb C.1
  unfold f_X7_held f_X8_held f_X8_ofTaken
  cases c : isN x (nc (nw τ))
  · simp (disch := omega) only [↓bnd_i, ↓cal_s, ↓cal_n, ↓cal2_s, ↓cal2_n, cal_s, cal2_s, ↓reduceIte, fa_lit, m1_lit, m2_lit, m1_lt, m2_lt, m1_eq, m2_eq, m1_le, m2_le, le_m1, le_m2, lt_m1, lt_m2, m12, m21, m1_m1, n_lt, n_le, n_eq, lt_t, lt_f, le_t, le_f, eq_t, eq_f, n_cl, inb_ok, n_add, pk_mul, pk_sub, n_rem, n_div, n_dec, n_mx, n_mn, eq_m1, eq_m2, ss_same, ss_ne, ss_r, ss_l, sr_f, sr_l, sr_same, sr_ne, sw_f, sw_l, sw_at, sw_ne, pk_us, pk_un, bI_t, bI_f, not_true_eq_false, not_false_eq_true, eq_self, and_true, true_and, and_false, false_and, or_true, true_or, or_false, false_or, decide_true, decide_false, Bool.false_eq_true, Bool.true_eq_false, ↓cal_w (d_cellOfN (show 20 < F by omega) C.1 C.2 (x := x) (y := y) (Or.inl c)), d_cellOfN (show 20 < F by omega) C.1 C.2 (x := x) (y := y) (Or.inl c), ↓cal_w (t_isCopy C.1.1 x), t_isCopy C.1.1 x, c, f_X0_valueIn]
    exact Qy.mk
  · cases d : isN y 8
    · simp (disch := omega) only [↓bnd_i, ↓cal_s, ↓cal_n, ↓cal2_s, ↓cal2_n, cal_s, cal2_s, ↓reduceIte, fa_lit, m1_lit, m2_lit, m1_lt, m2_lt, m1_eq, m2_eq, m1_le, m2_le, le_m1, le_m2, lt_m1, lt_m2, m12, m21, m1_m1, n_lt, n_le, n_eq, lt_t, lt_f, le_t, le_f, eq_t, eq_f, n_cl, inb_ok, n_add, pk_mul, pk_sub, n_rem, n_div, n_dec, n_mx, n_mn, eq_m1, eq_m2, ss_same, ss_ne, ss_r, ss_l, sr_f, sr_l, sr_same, sr_ne, sw_f, sw_l, sw_at, sw_ne, pk_us, pk_un, bI_t, bI_f, not_true_eq_false, not_false_eq_true, eq_self, and_true, true_and, and_false, false_and, or_true, true_or, or_false, false_or, decide_true, decide_false, Bool.false_eq_true, Bool.true_eq_false, ↓cal_w (d_cellOfN (show 20 < F by omega) C.1 C.2 (x := x) (y := y) (Or.inr d)), d_cellOfN (show 20 < F by omega) C.1 C.2 (x := x) (y := y) (Or.inr d), ↓cal_w (t_isCopy C.1.1 x), t_isCopy C.1.1 x, ↓cal_w (t_isPage C.1.1 y), t_isPage C.1.1 y, c, isN_le d b2, f_X0_valueIn]
      exact Qy.mk
    · obtain ⟨a, ha, rfl⟩ := isN_e c (by omega)
      obtain ⟨g, hg, rfl⟩ := isN_e d (by omega)
      cases e : tc (nw τ) a g with
      | none =>
        cases d2 : isN (nI g) (pg (nw τ))
        · simp (disch := omega) only [↓bnd_i, ↓cal_s, ↓cal_n, ↓cal2_s, ↓cal2_n, cal_s, cal2_s, ↓reduceIte, fa_lit, m1_lit, m2_lit, m1_lt, m2_lt, m1_eq, m2_eq, m1_le, m2_le, le_m1, le_m2, lt_m1, lt_m2, m12, m21, m1_m1, n_lt, n_le, n_eq, lt_t, lt_f, le_t, le_f, eq_t, eq_f, n_cl, inb_ok, n_add, pk_mul, pk_sub, n_rem, n_div, n_dec, n_mx, n_mn, eq_m1, eq_m2, ss_same, ss_ne, ss_r, ss_l, sr_f, sr_l, sr_same, sr_ne, sw_f, sw_l, sw_at, sw_ne, pk_us, pk_un, bI_t, bI_f, not_true_eq_false, not_false_eq_true, eq_self, and_true, true_and, and_false, false_and, or_true, true_or, or_false, false_or, decide_true, decide_false, Bool.false_eq_true, Bool.true_eq_false, ↓cal_w (t_isCopy C.1.1 _), t_isCopy C.1.1 _, ↓cal_w (t_isPage C.1.1 _), t_isPage C.1.1 _, ↓cal_w (d_cellOf (show 20 < F by omega) C.1 C.2 ha hg), d_cellOf (show 20 < F by omega) C.1 C.2 ha hg, c, d2, e, cl, f_X0_valueIn]
          exact Qy.mk
        · simp (disch := omega) only [↓bnd_i, ↓cal_s, ↓cal_n, ↓cal2_s, ↓cal2_n, cal_s, cal2_s, ↓reduceIte, fa_lit, m1_lit, m2_lit, m1_lt, m2_lt, m1_eq, m2_eq, m1_le, m2_le, le_m1, le_m2, lt_m1, lt_m2, m12, m21, m1_m1, n_lt, n_le, n_eq, lt_t, lt_f, le_t, le_f, eq_t, eq_f, n_cl, inb_ok, n_add, pk_mul, pk_sub, n_rem, n_div, n_dec, n_mx, n_mn, eq_m1, eq_m2, ss_same, ss_ne, ss_r, ss_l, sr_f, sr_l, sr_same, sr_ne, sw_f, sw_l, sw_at, sw_ne, pk_us, pk_un, bI_t, bI_f, not_true_eq_false, not_false_eq_true, eq_self, and_true, true_and, and_false, false_and, or_true, true_or, or_false, false_or, decide_true, decide_false, Bool.false_eq_true, Bool.true_eq_false, ↓cal_w (t_isCopy C.1.1 _), t_isCopy C.1.1 _, ↓cal_w (t_isPage C.1.1 _), t_isPage C.1.1 _, ↓cal_w (d_cellOf (show 20 < F by omega) C.1 C.2 ha hg), d_cellOf (show 20 < F by omega) C.1 C.2 ha hg, ↓cal_w (t_takenAt (show 20 < F by omega) C.1 ha hg), t_takenAt (show 20 < F by omega) C.1 ha hg, c, d2, e, cl, ta, f_X0_valueIn]
          exact Qy.mk
      | some b =>
        obtain ⟨q1, q2, q3, q4, q5, q6, q7, q8⟩ := tc_in C.1 ha hg e
        obtain ⟨r1, r2, r3⟩ := j_cell C.2 q2 hg q3
        have d2 : isN (nI g) (pg (nw τ)) = true := isN_t q4 (by omega)
        simp (disch := omega) only [↓bnd_i, ↓cal_s, ↓cal_n, ↓cal2_s, ↓cal2_n, cal_s, cal2_s, ↓reduceIte, fa_lit, m1_lit, m2_lit, m1_lt, m2_lt, m1_eq, m2_eq, m1_le, m2_le, le_m1, le_m2, lt_m1, lt_m2, m12, m21, m1_m1, n_lt, n_le, n_eq, lt_t, lt_f, le_t, le_f, eq_t, eq_f, n_cl, inb_ok, n_add, pk_mul, pk_sub, n_rem, n_div, n_dec, n_mx, n_mn, eq_m1, eq_m2, ss_same, ss_ne, ss_r, ss_l, sr_f, sr_l, sr_same, sr_ne, sw_f, sw_l, sw_at, sw_ne, pk_us, pk_un, bI_t, bI_f, not_true_eq_false, not_false_eq_true, eq_self, and_true, true_and, and_false, false_and, or_true, true_or, or_false, false_or, decide_true, decide_false, Bool.false_eq_true, Bool.true_eq_false, ↓cal_w (t_isCopy C.1.1 _), t_isCopy C.1.1 _, ↓cal_w (t_isPage C.1.1 _), t_isPage C.1.1 _, ↓cal_w (d_cellOf (show 20 < F by omega) C.1 C.2 ha hg), d_cellOf (show 20 < F by omega) C.1 C.2 ha hg, ↓cal_w (t_takenAt (show 20 < F by omega) C.1 ha hg), t_takenAt (show 20 < F by omega) C.1 ha hg, c, d2, e, cl, ta, f_X0_valueIn, r3]
        exact Qy.mk
/-- whether a place of a line is of another branch -/
def brF (N : Nat → Int32) : Nat → Nat → Nat → Nat → Bool
  | 0, _, _, _ => true
  | f + 1, l, o, p => if l = o then false else if fk N l < p then true else if l = 0 then true else brF N f (pr N l) o p
theorem brF_s {N : Nat → Int32} {f l o p : Nat} : brF N (f + 1) l o p = if l = o then false else if fk N l < p then true else if l = 0 then true else brF N f (pr N l) o p := rfl
theorem d_leadsTo {F : Nat} (hF : 20 < F) {σ : St} {N : Nat → Int32} (h : NN N) (j : JJ σ N) {l o p : Nat} (hl : l < nl N) (ho : o < 8) (hp : p ≤ 240) : f_X2_leadsTo F σ (nI l) (nI o) (nI p) = some (bI (!brF N 8 l o p)) := by
  obtain ⟨b1, b2, b3, b4, b5, b6, b7, b8⟩ := NNb h
  obtain ⟨e4, e5, e6, e7, e8⟩ := JJf h j
  have key : ∀ n f l s, l < nl N → l < f → l < n → l + s < 8 → f_X2_leadsTo_6 F n σ (nI o) (nI p) (nI l) (nI s) = some (bI (!brF N f l o p)) := by
    intro n
    induction n with
    | zero => intro f l s _ _ h; omega
    | succ n ih =>
      intro f l s hl hf hn hs
      obtain ⟨f, rfl⟩ : ∃ k, f = k + 1 := ⟨f - 1, by omega⟩
      have hfl := fk_le h.2.1 hl
      have ht := (h.2.1.1 l hl).2
      rw [f_X2_leadsTo_6, brF_s]
      by_cases c : l = o
      · simp (disch := omega) only [↓bnd_i, ↓cal_s, ↓cal_n, ↓cal2_s, ↓cal2_n, cal_s, cal2_s, ↓reduceIte, fa_lit, m1_lit, m2_lit, m1_lt, m2_lt, m1_eq, m2_eq, m1_le, m2_le, le_m1, le_m2, lt_m1, lt_m2, m12, m21, m1_m1, n_lt, n_le, n_eq, lt_t, lt_f, le_t, le_f, eq_t, eq_f, n_cl, inb_ok, n_add, pk_mul, pk_sub, n_rem, n_div, n_dec, n_mx, n_mn, eq_m1, eq_m2, ss_same, ss_ne, ss_r, ss_l, sr_f, sr_l, sr_same, sr_ne, sw_f, sw_l, sw_at, sw_ne, pk_us, pk_un, bI_t, bI_f, not_true_eq_false, not_false_eq_true, eq_self, and_true, true_and, and_false, false_and, or_true, true_or, or_false, false_or, decide_true, decide_false, Bool.false_eq_true, Bool.true_eq_false, Bool.not_false]
      · by_cases c0 : l = 0
        · subst c0
          by_cases c2 : fk N 0 < p
          · simp (disch := omega) only [↓bnd_i, ↓cal_s, ↓cal_n, ↓cal2_s, ↓cal2_n, cal_s, cal2_s, ↓reduceIte, fa_lit, m1_lit, m2_lit, m1_lt, m2_lt, m1_eq, m2_eq, m1_le, m2_le, le_m1, le_m2, lt_m1, lt_m2, m12, m21, m1_m1, n_lt, n_le, n_eq, lt_t, lt_f, le_t, le_f, eq_t, eq_f, n_cl, inb_ok, n_add, pk_mul, pk_sub, n_rem, n_div, n_dec, n_mx, n_mn, eq_m1, eq_m2, ss_same, ss_ne, ss_r, ss_l, sr_f, sr_l, sr_same, sr_ne, sw_f, sw_l, sw_at, sw_ne, pk_us, pk_un, bI_t, bI_f, not_true_eq_false, not_false_eq_true, eq_self, and_true, true_and, and_false, false_and, or_true, true_or, or_false, false_or, decide_true, decide_false, Bool.false_eq_true, Bool.true_eq_false, Bool.not_true]
          · simp (disch := omega) only [↓bnd_i, ↓cal_s, ↓cal_n, ↓cal2_s, ↓cal2_n, cal_s, cal2_s, ↓reduceIte, fa_lit, m1_lit, m2_lit, m1_lt, m2_lt, m1_eq, m2_eq, m1_le, m2_le, le_m1, le_m2, lt_m1, lt_m2, m12, m21, m1_m1, n_lt, n_le, n_eq, lt_t, lt_f, le_t, le_f, eq_t, eq_f, n_cl, inb_ok, n_add, pk_mul, pk_sub, n_rem, n_div, n_dec, n_mx, n_mn, eq_m1, eq_m2, ss_same, ss_ne, ss_r, ss_l, sr_f, sr_l, sr_same, sr_ne, sw_f, sw_l, sw_at, sw_ne, pk_us, pk_un, bI_t, bI_f, not_true_eq_false, not_false_eq_true, eq_self, and_true, true_and, and_false, false_and, or_true, true_or, or_false, false_or, decide_true, decide_false, Bool.false_eq_true, Bool.true_eq_false, Bool.not_true]
        · by_cases c2 : fk N l < p
          · simp (disch := omega) only [↓bnd_i, ↓cal_s, ↓cal_n, ↓cal2_s, ↓cal2_n, cal_s, cal2_s, ↓reduceIte, fa_lit, m1_lit, m2_lit, m1_lt, m2_lt, m1_eq, m2_eq, m1_le, m2_le, le_m1, le_m2, lt_m1, lt_m2, m12, m21, m1_m1, n_lt, n_le, n_eq, lt_t, lt_f, le_t, le_f, eq_t, eq_f, n_cl, inb_ok, n_add, pk_mul, pk_sub, n_rem, n_div, n_dec, n_mx, n_mn, eq_m1, eq_m2, ss_same, ss_ne, ss_r, ss_l, sr_f, sr_l, sr_same, sr_ne, sw_f, sw_l, sw_at, sw_ne, pk_us, pk_un, bI_t, bI_f, not_true_eq_false, not_false_eq_true, eq_self, and_true, true_and, and_false, false_and, or_true, true_or, or_false, false_or, decide_true, decide_false, Bool.false_eq_true, Bool.true_eq_false, e6, j_fork j hl, Bool.not_true]
          · have hp' := h.2.1.2.1 l (by omega) hl
            have ih' := ih f (pr N l) (s + 1) (by omega) (by omega) (by omega) (by omega)
            simp (disch := omega) only [↓bnd_i, ↓cal_s, ↓cal_n, ↓cal2_s, ↓cal2_n, cal_s, cal2_s, ↓reduceIte, fa_lit, m1_lit, m2_lit, m1_lt, m2_lt, m1_eq, m2_eq, m1_le, m2_le, le_m1, le_m2, lt_m1, lt_m2, m12, m21, m1_m1, n_lt, n_le, n_eq, lt_t, lt_f, le_t, le_f, eq_t, eq_f, n_cl, inb_ok, n_add, pk_mul, pk_sub, n_rem, n_div, n_dec, n_mx, n_mn, eq_m1, eq_m2, ss_same, ss_ne, ss_r, ss_l, sr_f, sr_l, sr_same, sr_ne, sw_f, sw_l, sw_at, sw_ne, pk_us, pk_un, bI_t, bI_f, not_true_eq_false, not_false_eq_true, eq_self, and_true, true_and, and_false, false_and, or_true, true_or, or_false, false_or, decide_true, decide_false, Bool.false_eq_true, Bool.true_eq_false, e6, j_fork j hl, j_par j hl (show 0 < l by omega)]
            exact ih'
  exact key F 8 l 0 hl (by omega) (by omega) (by omega)
theorem t_isBranch {F : Nat} (hF : 20 < F) {τ : St} (h : NN (nw τ)) {l o p : Nat} (hl : l < nl (nw τ)) (ho : o < 8) (hp : p ≤ 240) : f_X8_isBranch F τ (nI l) (nI o) (nI p) = some (bI (brF (nw τ) 8 l o p)) := by
  obtain ⟨b1, b2, b3, b4, b5, b6, b7, b8⟩ := NNb h
  have key : ∀ n f l, l < nl (nw τ) → l < f → l + 1 < n → f_X8_isBranch_3 F n τ (nI o) (nI p) (nI l) = some (bI (brF (nw τ) f l o p)) := by
    intro n
    induction n with
    | zero => intro f l _ _ h; omega
    | succ n ih =>
      intro f l hl hf hn
      obtain ⟨f, rfl⟩ : ∃ k, f = k + 1 := ⟨f - 1, by omega⟩
      have hfl := fk_le h.2.1 hl
      have ht := (h.2.1.1 l hl).2
      rw [f_X8_isBranch_3, brF_s]
      by_cases c : l = o
      · simp (disch := omega) only [↓bnd_i, ↓cal_s, ↓cal_n, ↓cal2_s, ↓cal2_n, cal_s, cal2_s, ↓reduceIte, fa_lit, m1_lit, m2_lit, m1_lt, m2_lt, m1_eq, m2_eq, m1_le, m2_le, le_m1, le_m2, lt_m1, lt_m2, m12, m21, m1_m1, n_lt, n_le, n_eq, lt_t, lt_f, le_t, le_f, eq_t, eq_f, n_cl, inb_ok, n_add, pk_mul, pk_sub, n_rem, n_div, n_dec, n_mx, n_mn, eq_m1, eq_m2, ss_same, ss_ne, ss_r, ss_l, sr_f, sr_l, sr_same, sr_ne, sw_f, sw_l, sw_at, sw_ne, pk_us, pk_un, bI_t, bI_f, not_true_eq_false, not_false_eq_true, eq_self, and_true, true_and, and_false, false_and, or_true, true_or, or_false, false_or, decide_true, decide_false, Bool.false_eq_true, Bool.true_eq_false]
      · by_cases c2 : fk (nw τ) l < p
        · simp (disch := omega) only [↓bnd_i, ↓cal_s, ↓cal_n, ↓cal2_s, ↓cal2_n, cal_s, cal2_s, ↓reduceIte, fa_lit, m1_lit, m2_lit, m1_lt, m2_lt, m1_eq, m2_eq, m1_le, m2_le, le_m1, le_m2, lt_m1, lt_m2, m12, m21, m1_m1, n_lt, n_le, n_eq, lt_t, lt_f, le_t, le_f, eq_t, eq_f, n_cl, inb_ok, n_add, pk_mul, pk_sub, n_rem, n_div, n_dec, n_mx, n_mn, eq_m1, eq_m2, ss_same, ss_ne, ss_r, ss_l, sr_f, sr_l, sr_same, sr_ne, sw_f, sw_l, sw_at, sw_ne, pk_us, pk_un, bI_t, bI_f, not_true_eq_false, not_false_eq_true, eq_self, and_true, true_and, and_false, false_and, or_true, true_or, or_false, false_or, decide_true, decide_false, Bool.false_eq_true, Bool.true_eq_false, ↓cal_w (t_forkOf h.2.1 hl b6), t_forkOf h.2.1 hl b6]
        · by_cases c0 : l = 0
          · obtain ⟨n, rfl⟩ : ∃ k, n = k + 1 := ⟨n - 1, by omega⟩
            subst c0
            simp (disch := omega) only [↓bnd_i, ↓cal_s, ↓cal_n, ↓cal2_s, ↓cal2_n, cal_s, cal2_s, ↓reduceIte, fa_lit, m1_lit, m2_lit, m1_lt, m2_lt, m1_eq, m2_eq, m1_le, m2_le, le_m1, le_m2, lt_m1, lt_m2, m12, m21, m1_m1, n_lt, n_le, n_eq, lt_t, lt_f, le_t, le_f, eq_t, eq_f, n_cl, inb_ok, n_add, pk_mul, pk_sub, n_rem, n_div, n_dec, n_mx, n_mn, eq_m1, eq_m2, ss_same, ss_ne, ss_r, ss_l, sr_f, sr_l, sr_same, sr_ne, sw_f, sw_l, sw_at, sw_ne, pk_us, pk_un, bI_t, bI_f, not_true_eq_false, not_false_eq_true, eq_self, and_true, true_and, and_false, false_and, or_true, true_or, or_false, false_or, decide_true, decide_false, Bool.false_eq_true, Bool.true_eq_false, ↓cal_w (t_forkOf h.2.1 hl b6), t_forkOf h.2.1 hl b6, f_X8_isBranch_41]
            rw [f_X8_isBranch_3]
            simp (disch := omega) only [↓bnd_i, ↓cal_s, ↓cal_n, ↓cal2_s, ↓cal2_n, cal_s, cal2_s, ↓reduceIte, fa_lit, m1_lit, m2_lit, m1_lt, m2_lt, m1_eq, m2_eq, m1_le, m2_le, le_m1, le_m2, lt_m1, lt_m2, m12, m21, m1_m1, n_lt, n_le, n_eq, lt_t, lt_f, le_t, le_f, eq_t, eq_f, n_cl, inb_ok, n_add, pk_mul, pk_sub, n_rem, n_div, n_dec, n_mx, n_mn, eq_m1, eq_m2, ss_same, ss_ne, ss_r, ss_l, sr_f, sr_l, sr_same, sr_ne, sw_f, sw_l, sw_at, sw_ne, pk_us, pk_un, bI_t, bI_f, not_true_eq_false, not_false_eq_true, eq_self, and_true, true_and, and_false, false_and, or_true, true_or, or_false, false_or, decide_true, decide_false, Bool.false_eq_true, Bool.true_eq_false]
          · have hp' := h.2.1.2.1 l (by omega) hl
            have ih' := ih f (pr (nw τ) l) (by omega) (by omega) (by omega)
            simp (disch := omega) only [↓bnd_i, ↓cal_s, ↓cal_n, ↓cal2_s, ↓cal2_n, cal_s, cal2_s, ↓reduceIte, fa_lit, m1_lit, m2_lit, m1_lt, m2_lt, m1_eq, m2_eq, m1_le, m2_le, le_m1, le_m2, lt_m1, lt_m2, m12, m21, m1_m1, n_lt, n_le, n_eq, lt_t, lt_f, le_t, le_f, eq_t, eq_f, n_cl, inb_ok, n_add, pk_mul, pk_sub, n_rem, n_div, n_dec, n_mx, n_mn, eq_m1, eq_m2, ss_same, ss_ne, ss_r, ss_l, sr_f, sr_l, sr_same, sr_ne, sw_f, sw_l, sw_at, sw_ne, pk_us, pk_un, bI_t, bI_f, not_true_eq_false, not_false_eq_true, eq_self, and_true, true_and, and_false, false_and, or_true, true_or, or_false, false_or, decide_true, decide_false, Bool.false_eq_true, Bool.true_eq_false, ↓cal_w (t_forkOf h.2.1 hl b6), t_forkOf h.2.1 hl b6, ↓cal_w (t_parentOf (τ := τ) (show l < 8 by omega)), t_parentOf (τ := τ) (show l < 8 by omega), hp'.1, f_X8_isBranch_41]
            exact ih'
  exact key F 8 l hl (by omega) (by omega)
theorem d_going {F : Nat} {σ : St} {N : Nat → Int32} (h : NN N) (j : JJ σ N) : f_X2_going F σ = some (nI (nl N - 1)) := by
  obtain ⟨b1, b2, b3, b4, b5, b6, b7, b8⟩ := NNb h
  obtain ⟨e4, e5, e6, e7, e8⟩ := JJf h j
  unfold f_X2_going
  simp (disch := omega) only [↓bnd_i, ↓cal_s, ↓cal_n, ↓cal2_s, ↓cal2_n, cal_s, cal2_s, ↓reduceIte, fa_lit, m1_lit, m2_lit, m1_lt, m2_lt, m1_eq, m2_eq, m1_le, m2_le, le_m1, le_m2, lt_m1, lt_m2, m12, m21, m1_m1, n_lt, n_le, n_eq, lt_t, lt_f, le_t, le_f, eq_t, eq_f, n_cl, inb_ok, n_add, pk_mul, pk_sub, n_rem, n_div, n_dec, n_mx, n_mn, eq_m1, eq_m2, ss_same, ss_ne, ss_r, ss_l, sr_f, sr_l, sr_same, sr_ne, sw_f, sw_l, sw_at, sw_ne, pk_us, pk_un, bI_t, bI_f, not_true_eq_false, not_false_eq_true, eq_self, and_true, true_and, and_false, false_and, or_true, true_or, or_false, false_or, decide_true, decide_false, Bool.false_eq_true, Bool.true_eq_false, e6]
theorem q_dirty {F : Nat} (hF : 300 < F) {σ τ : St} (C : Core σ τ) (x : Int32) : Qy (f_X7_dirty F σ x) (f_X8_dirty F τ x) := by
  obtain ⟨b1, b2, b3, b4, b5, b6, b7, b8⟩ := NNb C.1
  obtain ⟨e4, e5, e6, e7, e8⟩ := JJf C.1 C.2
  have h0 : τ.2.1 19 0 = nI (pg (nw τ)) := C.1.1.1.1
  have h3 : τ.2.1 19 3 = nI (nl (nw τ) - 1) := C.1.1.2.2.2.1
  unfold f_X7_dirty f_X8_dirty
  cases c : isN x (nc (nw τ))
  · simp (disch := omega) only [↓bnd_i, ↓cal_s, ↓cal_n, ↓cal2_s, ↓cal2_n, cal_s, cal2_s, ↓reduceIte, fa_lit, m1_lit, m2_lit, m1_lt, m2_lt, m1_eq, m2_eq, m1_le, m2_le, le_m1, le_m2, lt_m1, lt_m2, m12, m21, m1_m1, n_lt, n_le, n_eq, lt_t, lt_f, le_t, le_f, eq_t, eq_f, n_cl, inb_ok, n_add, pk_mul, pk_sub, n_rem, n_div, n_dec, n_mx, n_mn, eq_m1, eq_m2, ss_same, ss_ne, ss_r, ss_l, sr_f, sr_l, sr_same, sr_ne, sw_f, sw_l, sw_at, sw_ne, pk_us, pk_un, bI_t, bI_f, not_true_eq_false, not_false_eq_true, eq_self, and_true, true_and, and_false, false_and, or_true, true_or, or_false, false_or, decide_true, decide_false, Bool.false_eq_true, Bool.true_eq_false, ↓cal_w (d_hasCopy C.1 C.2 x), d_hasCopy C.1 C.2 x, ↓cal_w (t_isCopy C.1.1 x), t_isCopy C.1.1 x, c]
    exact Qy.mk
  · obtain ⟨a, ha, rfl⟩ := isN_e c (by omega)
    have hll : nl (nw τ) - 1 < nl (nw τ) := by omega
    have ht := C.1.2.1.1 (nl (nw τ) - 1) hll
    generalize hl : nl (nw τ) - 1 = l at *
    have hnow : f_X2_now F σ = some (nI (tp (nw τ) l)) := by rw [← hl]; exact d_now C.1.1 C.2.1
    have key : ∀ n g v, g ≤ pg (nw τ) → pg (nw τ) - g < n → Qy (f_X7_dirty_26 F n σ (nI a) (nI l) v (nI g)) (f_X8_dirty_22 F n τ (nI a) v (nI l) (nI g)) := by
      intro n
      induction n with
      | zero => intro g v _ h; omega
      | succ n ih =>
        intro g v hg hn
        rw [f_X7_dirty_26, f_X8_dirty_22]
        by_cases e : g = pg (nw τ)
        · simp (disch := omega) only [↓bnd_i, ↓cal_s, ↓cal_n, ↓cal2_s, ↓cal2_n, cal_s, cal2_s, ↓reduceIte, fa_lit, m1_lit, m2_lit, m1_lt, m2_lt, m1_eq, m2_eq, m1_le, m2_le, le_m1, le_m2, lt_m1, lt_m2, m12, m21, m1_m1, n_lt, n_le, n_eq, lt_t, lt_f, le_t, le_f, eq_t, eq_f, n_cl, inb_ok, n_add, pk_mul, pk_sub, n_rem, n_div, n_dec, n_mx, n_mn, eq_m1, eq_m2, ss_same, ss_ne, ss_r, ss_l, sr_f, sr_l, sr_same, sr_ne, sw_f, sw_l, sw_at, sw_ne, pk_us, pk_un, bI_t, bI_f, not_true_eq_false, not_false_eq_true, eq_self, and_true, true_and, and_false, false_and, or_true, true_or, or_false, false_or, decide_true, decide_false, Bool.false_eq_true, Bool.true_eq_false, e4, h0]
          exact Qy.mk
        · have iF := ih (g + 1) v (by omega) (by omega)
          have iT := ih (g + 1) (v ||| (nI 1 <<< (nI g &&& nI 31))) (by omega) (by omega)
          have q1 := d_cellOf (F := F) (show 20 < F by omega) C.1 C.2 ha (show g < 8 by omega)
          have q2 := t_takenAt (F := F) (show 20 < F by omega) C.1 ha (show g < 8 by omega)
          cases d : tc (nw τ) a g with
          | none =>
            rw [d] at q1 q2
            simp (disch := omega) only [↓bnd_i, ↓cal_s, ↓cal_n, ↓cal2_s, ↓cal2_n, cal_s, cal2_s, ↓reduceIte, fa_lit, m1_lit, m2_lit, m1_lt, m2_lt, m1_eq, m2_eq, m1_le, m2_le, le_m1, le_m2, lt_m1, lt_m2, m12, m21, m1_m1, n_lt, n_le, n_eq, lt_t, lt_f, le_t, le_f, eq_t, eq_f, n_cl, inb_ok, n_add, pk_mul, pk_sub, n_rem, n_div, n_dec, n_mx, n_mn, eq_m1, eq_m2, ss_same, ss_ne, ss_r, ss_l, sr_f, sr_l, sr_same, sr_ne, sw_f, sw_l, sw_at, sw_ne, pk_us, pk_un, bI_t, bI_f, not_true_eq_false, not_false_eq_true, eq_self, and_true, true_and, and_false, false_and, or_true, true_or, or_false, false_or, decide_true, decide_false, Bool.false_eq_true, Bool.true_eq_false, ↓cal_w (q1), q1, ↓cal_w (q2), q2, e4, h0, cl, ta, f_X0_placeIn, f_X7_dirty_111, f_X7_dirty_118, f_X8_dirty_97, f_X8_dirty_104]
            exact iT
          | some b =>
            rw [d] at q1 q2
            obtain ⟨p1, p2, p3, p4, p5, p6, p7, p8⟩ := tc_in C.1 ha (show g < 8 by omega) d
            obtain ⟨r1, r2, r3⟩ := j_cell C.2 p2 (show g < 8 by omega) p3
            have p5' : τ.2.1 19 (100 + 4 * (8 * b + g) + 1) = nI (tl (nw τ) b g) := p5
            have p7' : τ.2.1 19 (100 + 4 * (8 * b + g) + 2) = nI (tw (nw τ) b g) := p7
            have hla := la_le (N := nw τ) (l := l) (g := nI g) (tp (nw τ) l)
            have w1 := d_leadsTo (F := F) (show 20 < F by omega) C.1 C.2 hll p6 p8
            have w2 := t_isBranch (F := F) (show 20 < F by omega) C.1 hll p6 p8
            cases d2 : brF (nw τ) 8 l (tl (nw τ) b g) (tw (nw τ) b g)
            · rw [d2] at w1 w2
              by_cases d3 : la (nw τ) l (nI g) (tp (nw τ) l) ≤ tw (nw τ) b g
              · simp (disch := omega) only [↓bnd_i, ↓cal_s, ↓cal_n, ↓cal2_s, ↓cal2_n, cal_s, cal2_s, ↓reduceIte, fa_lit, m1_lit, m2_lit, m1_lt, m2_lt, m1_eq, m2_eq, m1_le, m2_le, le_m1, le_m2, lt_m1, lt_m2, m12, m21, m1_m1, n_lt, n_le, n_eq, lt_t, lt_f, le_t, le_f, eq_t, eq_f, n_cl, inb_ok, n_add, pk_mul, pk_sub, n_rem, n_div, n_dec, n_mx, n_mn, eq_m1, eq_m2, ss_same, ss_ne, ss_r, ss_l, sr_f, sr_l, sr_same, sr_ne, sw_f, sw_l, sw_at, sw_ne, pk_us, pk_un, bI_t, bI_f, not_true_eq_false, not_false_eq_true, eq_self, and_true, true_and, and_false, false_and, or_true, true_or, or_false, false_or, decide_true, decide_false, Bool.false_eq_true, Bool.true_eq_false, ↓cal_w (q1), q1, ↓cal_w (q2), q2, ↓cal_w (w1), w1, ↓cal_w (w2), w2, ↓cal_w (hnow), hnow, ↓cal_w (d_lastChange hF C.1 C.2 hll (Nat.le_refl _) (nI g)), d_lastChange hF C.1 C.2 hll (Nat.le_refl _) (nI g), ↓cal_w (t_placeOf (τ := τ) (show l < 8 by omega)), t_placeOf (τ := τ) (show l < 8 by omega), ↓cal_w (t_changeAhead hF C.1 hll (Nat.le_refl _) (nI g)), t_changeAhead hF C.1 hll (Nat.le_refl _) (nI g), e4, h0, cl, ta, f_X0_placeIn, f_X0_sourceIn, r1, r2, p5', p7', ht.1, Bool.not_false, f_X7_dirty_111, f_X7_dirty_118, f_X8_dirty_97, f_X8_dirty_104]
                exact iF
              · simp (disch := omega) only [↓bnd_i, ↓cal_s, ↓cal_n, ↓cal2_s, ↓cal2_n, cal_s, cal2_s, ↓reduceIte, fa_lit, m1_lit, m2_lit, m1_lt, m2_lt, m1_eq, m2_eq, m1_le, m2_le, le_m1, le_m2, lt_m1, lt_m2, m12, m21, m1_m1, n_lt, n_le, n_eq, lt_t, lt_f, le_t, le_f, eq_t, eq_f, n_cl, inb_ok, n_add, pk_mul, pk_sub, n_rem, n_div, n_dec, n_mx, n_mn, eq_m1, eq_m2, ss_same, ss_ne, ss_r, ss_l, sr_f, sr_l, sr_same, sr_ne, sw_f, sw_l, sw_at, sw_ne, pk_us, pk_un, bI_t, bI_f, not_true_eq_false, not_false_eq_true, eq_self, and_true, true_and, and_false, false_and, or_true, true_or, or_false, false_or, decide_true, decide_false, Bool.false_eq_true, Bool.true_eq_false, ↓cal_w (q1), q1, ↓cal_w (q2), q2, ↓cal_w (w1), w1, ↓cal_w (w2), w2, ↓cal_w (hnow), hnow, ↓cal_w (d_lastChange hF C.1 C.2 hll (Nat.le_refl _) (nI g)), d_lastChange hF C.1 C.2 hll (Nat.le_refl _) (nI g), ↓cal_w (t_placeOf (τ := τ) (show l < 8 by omega)), t_placeOf (τ := τ) (show l < 8 by omega), ↓cal_w (t_changeAhead hF C.1 hll (Nat.le_refl _) (nI g)), t_changeAhead hF C.1 hll (Nat.le_refl _) (nI g), e4, h0, cl, ta, f_X0_placeIn, f_X0_sourceIn, r1, r2, p5', p7', ht.1, Bool.not_false, f_X7_dirty_111, f_X7_dirty_118, f_X8_dirty_97, f_X8_dirty_104]
                exact iT
            · rw [d2] at w1 w2
              simp (disch := omega) only [↓bnd_i, ↓cal_s, ↓cal_n, ↓cal2_s, ↓cal2_n, cal_s, cal2_s, ↓reduceIte, fa_lit, m1_lit, m2_lit, m1_lt, m2_lt, m1_eq, m2_eq, m1_le, m2_le, le_m1, le_m2, lt_m1, lt_m2, m12, m21, m1_m1, n_lt, n_le, n_eq, lt_t, lt_f, le_t, le_f, eq_t, eq_f, n_cl, inb_ok, n_add, pk_mul, pk_sub, n_rem, n_div, n_dec, n_mx, n_mn, eq_m1, eq_m2, ss_same, ss_ne, ss_r, ss_l, sr_f, sr_l, sr_same, sr_ne, sw_f, sw_l, sw_at, sw_ne, pk_us, pk_un, bI_t, bI_f, not_true_eq_false, not_false_eq_true, eq_self, and_true, true_and, and_false, false_and, or_true, true_or, or_false, false_or, decide_true, decide_false, Bool.false_eq_true, Bool.true_eq_false, ↓cal_w (q1), q1, ↓cal_w (q2), q2, ↓cal_w (w1), w1, ↓cal_w (w2), w2, e4, h0, cl, ta, f_X0_placeIn, f_X0_sourceIn, r1, r2, p5', p7', Bool.not_true, f_X7_dirty_111, f_X7_dirty_118, f_X8_dirty_97, f_X8_dirty_104]
              exact iT
    have k := key F 0 (nI 0) (by omega) (by omega)
    have hgo : f_X2_going F σ = some (nI l) := by rw [← hl]; exact d_going C.1 C.2
    simp (disch := omega) only [↓bnd_i, ↓cal_s, ↓cal_n, ↓cal2_s, ↓cal2_n, cal_s, cal2_s, ↓reduceIte, fa_lit, m1_lit, m2_lit, m1_lt, m2_lt, m1_eq, m2_eq, m1_le, m2_le, le_m1, le_m2, lt_m1, lt_m2, m12, m21, m1_m1, n_lt, n_le, n_eq, lt_t, lt_f, le_t, le_f, eq_t, eq_f, n_cl, inb_ok, n_add, pk_mul, pk_sub, n_rem, n_div, n_dec, n_mx, n_mn, eq_m1, eq_m2, ss_same, ss_ne, ss_r, ss_l, sr_f, sr_l, sr_same, sr_ne, sw_f, sw_l, sw_at, sw_ne, pk_us, pk_un, bI_t, bI_f, not_true_eq_false, not_false_eq_true, eq_self, and_true, true_and, and_false, false_and, or_true, true_or, or_false, false_or, decide_true, decide_false, Bool.false_eq_true, Bool.true_eq_false, ↓cal_w (d_hasCopy C.1 C.2 _), d_hasCopy C.1 C.2 _, ↓cal_w (t_isCopy C.1.1 _), t_isCopy C.1.1 _, ↓cal_w (hgo), hgo, c, h3]
    exact k
/-- since when a page of a copy is -/
def sc (N : Nat → Int32) (c g : Nat) : Nat := match tc N c g with
  | none => 0
  | some a => tw N a g
def ltF (N : Nat → Int32) (c : Nat) : Nat → Nat
  | 0 => 0
  | g + 1 => max (ltF N c g) (sc N c g)
theorem sc_le {N : Nat → Int32} (h : NN N) {c g : Nat} (hc : c < nc N) (hg : g < 8) : sc N c g ≤ 240 := by
  unfold sc
  cases d : tc N c g with
  | none => exact Nat.zero_le _
  | some a => exact (tc_in h hc hg d).2.2.2.2.2.2.2
theorem ltF_le {N : Nat → Int32} (h : NN N) {c : Nat} (hc : c < nc N) : ∀ g, g ≤ 8 → ltF N c g ≤ 240
  | 0, _ => by simp [ltF]
  | g + 1, hg => by
    have := ltF_le h hc g (by omega)
    have h2 := sc_le h hc (show g < 8 by omega)
    rw [ltF]
    omega
theorem ft_some {N : Nat → Int32} {c g : Nat} (h : ft N c = true) (hg : g < pg N) : ∃ a, tc N c g = some a := by
  unfold ft at h
  rw [Bool.and_eq_true] at h
  have := of_decide_eq_true h.1 g hg
  exact Option.isSome_iff_exists.mp this
theorem t_latestTaken {F : Nat} (hF : 20 < F) {τ : St} (h : NN (nw τ)) {c : Nat} (hc : c < nc (nw τ)) (hf : ft (nw τ) c = true) : f_X8_latestTaken F τ (nI c) = some (nI (ltF (nw τ) c (pg (nw τ)))) := by
  obtain ⟨b1, b2, b3, b4, b5, b6, b7, b8⟩ := NNb h
  have h0 : τ.2.1 19 0 = nI (pg (nw τ)) := h.1.1.1
  have key : ∀ n g, g ≤ pg (nw τ) → pg (nw τ) - g < n → f_X8_latestTaken_4 F n τ (nI c) (nI (ltF (nw τ) c g)) (nI g) = some (nI (ltF (nw τ) c (pg (nw τ)))) := by
    intro n
    induction n with
    | zero => intro g _ h; omega
    | succ n ih =>
      intro g hg hn
      have hlt := ltF_le h hc g (by omega)
      rw [f_X8_latestTaken_4]
      by_cases e : g = pg (nw τ)
      · rw [e]
        simp (disch := omega) only [↓bnd_i, ↓cal_s, ↓cal_n, ↓cal2_s, ↓cal2_n, cal_s, cal2_s, ↓reduceIte, fa_lit, m1_lit, m2_lit, m1_lt, m2_lt, m1_eq, m2_eq, m1_le, m2_le, le_m1, le_m2, lt_m1, lt_m2, m12, m21, m1_m1, n_lt, n_le, n_eq, lt_t, lt_f, le_t, le_f, eq_t, eq_f, n_cl, inb_ok, n_add, pk_mul, pk_sub, n_rem, n_div, n_dec, n_mx, n_mn, eq_m1, eq_m2, ss_same, ss_ne, ss_r, ss_l, sr_f, sr_l, sr_same, sr_ne, sw_f, sw_l, sw_at, sw_ne, pk_us, pk_un, bI_t, bI_f, not_true_eq_false, not_false_eq_true, eq_self, and_true, true_and, and_false, false_and, or_true, true_or, or_false, false_or, decide_true, decide_false, Bool.false_eq_true, Bool.true_eq_false, h0]
      · obtain ⟨a, d⟩ := ft_some hf (show g < pg (nw τ) by omega)
        obtain ⟨p1, p2, p3, p4, p5, p6, p7, p8⟩ := tc_in h hc (show g < 8 by omega) d
        have p7' : τ.2.1 19 (100 + 4 * (8 * a + g) + 2) = nI (tw (nw τ) a g) := p7
        have hs : sc (nw τ) c g = tw (nw τ) a g := by unfold sc; rw [d]
        have q2 := t_takenAt (F := F) hF h hc (show g < 8 by omega)
        rw [d] at q2
        have ih' := ih (g + 1) (by omega) (by omega)
        rw [ltF, hs] at ih'
        by_cases d2 : tw (nw τ) a g ≤ ltF (nw τ) c g
        · rw [Nat.max_eq_left d2] at ih'
          simp (disch := omega) only [↓bnd_i, ↓cal_s, ↓cal_n, ↓cal2_s, ↓cal2_n, cal_s, cal2_s, ↓reduceIte, fa_lit, m1_lit, m2_lit, m1_lt, m2_lt, m1_eq, m2_eq, m1_le, m2_le, le_m1, le_m2, lt_m1, lt_m2, m12, m21, m1_m1, n_lt, n_le, n_eq, lt_t, lt_f, le_t, le_f, eq_t, eq_f, n_cl, inb_ok, n_add, pk_mul, pk_sub, n_rem, n_div, n_dec, n_mx, n_mn, eq_m1, eq_m2, ss_same, ss_ne, ss_r, ss_l, sr_f, sr_l, sr_same, sr_ne, sw_f, sw_l, sw_at, sw_ne, pk_us, pk_un, bI_t, bI_f, not_true_eq_false, not_false_eq_true, eq_self, and_true, true_and, and_false, false_and, or_true, true_or, or_false, false_or, decide_true, decide_false, Bool.false_eq_true, Bool.true_eq_false, ↓cal_w (q2), q2, h0, ta, p7', f_X8_latestTaken_45]
          exact ih'
        · rw [Nat.max_eq_right (by omega)] at ih'
          simp (disch := omega) only [↓bnd_i, ↓cal_s, ↓cal_n, ↓cal2_s, ↓cal2_n, cal_s, cal2_s, ↓reduceIte, fa_lit, m1_lit, m2_lit, m1_lt, m2_lt, m1_eq, m2_eq, m1_le, m2_le, le_m1, le_m2, lt_m1, lt_m2, m12, m21, m1_m1, n_lt, n_le, n_eq, lt_t, lt_f, le_t, le_f, eq_t, eq_f, n_cl, inb_ok, n_add, pk_mul, pk_sub, n_rem, n_div, n_dec, n_mx, n_mn, eq_m1, eq_m2, ss_same, ss_ne, ss_r, ss_l, sr_f, sr_l, sr_same, sr_ne, sw_f, sw_l, sw_at, sw_ne, pk_us, pk_un, bI_t, bI_f, not_true_eq_false, not_false_eq_true, eq_self, and_true, true_and, and_false, false_and, or_true, true_or, or_false, false_or, decide_true, decide_false, Bool.false_eq_true, Bool.true_eq_false, ↓cal_w (q2), q2, h0, ta, p7', f_X8_latestTaken_45]
          exact ih'
  exact key F 0 (by omega) (by omega)
theorem q_age {F : Nat} (hF : 300 < F) {σ τ : St} (C : Core σ τ) (x : Int32) : Qy (f_X7_age F σ x) (f_X8_age F τ x) := by
  obtain ⟨b1, b2, b3, b4, b5, b6, b7, b8⟩ := NNb C.1
  obtain ⟨e4, e5, e6, e7, e8⟩ := JJf C.1 C.2
  have h3 : τ.2.1 19 3 = nI (nl (nw τ) - 1) := C.1.1.2.2.2.1
  unfold f_X7_age f_X8_age
  cases c : isN x (nc (nw τ))
  · simp (disch := omega) only [↓bnd_i, ↓cal_s, ↓cal_n, ↓cal2_s, ↓cal2_n, cal_s, cal2_s, ↓reduceIte, fa_lit, m1_lit, m2_lit, m1_lt, m2_lt, m1_eq, m2_eq, m1_le, m2_le, le_m1, le_m2, lt_m1, lt_m2, m12, m21, m1_m1, n_lt, n_le, n_eq, lt_t, lt_f, le_t, le_f, eq_t, eq_f, n_cl, inb_ok, n_add, pk_mul, pk_sub, n_rem, n_div, n_dec, n_mx, n_mn, eq_m1, eq_m2, ss_same, ss_ne, ss_r, ss_l, sr_f, sr_l, sr_same, sr_ne, sw_f, sw_l, sw_at, sw_ne, pk_us, pk_un, bI_t, bI_f, not_true_eq_false, not_false_eq_true, eq_self, and_true, true_and, and_false, false_and, or_true, true_or, or_false, false_or, decide_true, decide_false, Bool.false_eq_true, Bool.true_eq_false, ↓cal_w (d_isFitN C.1 C.2 (x := x) (y := nI (pg (nw τ))) c), d_isFitN C.1 C.2 (x := x) (y := nI (pg (nw τ))) c, ↓cal_w (t_isCopy C.1.1 x), t_isCopy C.1.1 x, c, e4]
    exact Qy.mk
  · obtain ⟨a, ha, rfl⟩ := isN_e c (by omega)
    have ht := C.1.2.1.1 (nl (nw τ) - 1) (by omega)
    cases d : ft (nw τ) a
    · simp (disch := omega) only [↓bnd_i, ↓cal_s, ↓cal_n, ↓cal2_s, ↓cal2_n, cal_s, cal2_s, ↓reduceIte, fa_lit, m1_lit, m2_lit, m1_lt, m2_lt, m1_eq, m2_eq, m1_le, m2_le, le_m1, le_m2, lt_m1, lt_m2, m12, m21, m1_m1, n_lt, n_le, n_eq, lt_t, lt_f, le_t, le_f, eq_t, eq_f, n_cl, inb_ok, n_add, pk_mul, pk_sub, n_rem, n_div, n_dec, n_mx, n_mn, eq_m1, eq_m2, ss_same, ss_ne, ss_r, ss_l, sr_f, sr_l, sr_same, sr_ne, sw_f, sw_l, sw_at, sw_ne, pk_us, pk_un, bI_t, bI_f, not_true_eq_false, not_false_eq_true, eq_self, and_true, true_and, and_false, false_and, or_true, true_or, or_false, false_or, decide_true, decide_false, Bool.false_eq_true, Bool.true_eq_false, ↓cal_w (d_isFit (show 20 < F by omega) C.1 C.2 ha), d_isFit (show 20 < F by omega) C.1 C.2 ha, ↓cal_w (t_isCopy C.1.1 _), t_isCopy C.1.1 _, ↓cal_w (t_isFit (show 20 < F by omega) C.1 ha), t_isFit (show 20 < F by omega) C.1 ha, c, d, e4]
      exact Qy.mk
    · have key : ∀ n g, g ≤ pg (nw τ) → pg (nw τ) - g < n → f_X7_age_26 F n σ (nI a) (nI (ltF (nw τ) a g)) (nI g) = some (nI (tp (nw τ) (nl (nw τ) - 1)) - nI (ltF (nw τ) a (pg (nw τ)))) := by
        intro n
        induction n with
        | zero => intro g _ h; omega
        | succ n ih =>
          intro g hg hn
          have hlt := ltF_le C.1 ha g (by omega)
          rw [f_X7_age_26]
          by_cases e : g = pg (nw τ)
          · rw [e]
            simp only [e4, n_le (show pg (nw τ) < 2 ^ 31 by omega) (show pg (nw τ) < 2 ^ 31 by omega), Nat.le_refl, if_true, d_now C.1.1 C.2.1, cal_s]
          · obtain ⟨b, d2⟩ := ft_some d (show g < pg (nw τ) by omega)
            obtain ⟨p1, p2, p3, p4, p5, p6, p7, p8⟩ := tc_in C.1 ha (show g < 8 by omega) d2
            obtain ⟨r1, r2, r3⟩ := j_cell C.2 p2 (show g < 8 by omega) p3
            have hs : sc (nw τ) a g = tw (nw τ) b g := by unfold sc; rw [d2]
            have q1 := d_cellOf (F := F) (show 20 < F by omega) C.1 C.2 ha (show g < 8 by omega)
            rw [d2] at q1
            have ih' := ih (g + 1) (by omega) (by omega)
            rw [ltF, hs] at ih'
            simp (disch := omega) only [↓bnd_i, ↓cal_s, ↓cal_n, ↓cal2_s, ↓cal2_n, cal_s, cal2_s, ↓reduceIte, fa_lit, m1_lit, m2_lit, m1_lt, m2_lt, m1_eq, m2_eq, m1_le, m2_le, le_m1, le_m2, lt_m1, lt_m2, m12, m21, m1_m1, n_lt, n_le, n_eq, lt_t, lt_f, le_t, le_f, eq_t, eq_f, n_cl, inb_ok, n_add, pk_mul, pk_sub, n_rem, n_div, n_dec, n_mx, n_mn, eq_m1, eq_m2, ss_same, ss_ne, ss_r, ss_l, sr_f, sr_l, sr_same, sr_ne, sw_f, sw_l, sw_at, sw_ne, pk_us, pk_un, bI_t, bI_f, not_true_eq_false, not_false_eq_true, eq_self, and_true, true_and, and_false, false_and, or_true, true_or, or_false, false_or, decide_true, decide_false, Bool.false_eq_true, Bool.true_eq_false, ↓cal_w (q1), q1, e4, cl, f_X0_placeIn, r2]
            exact ih'
      have k := key F 0 (by omega) (by omega)
      have k2 : f_X7_age_26 F F σ (nI a) (nI 0) (nI 0) = _ := k
      simp only [e4, d_isFit (show 20 < F by omega) C.1 C.2 ha, t_isCopy C.1.1, t_isFit (show 20 < F by omega) C.1 ha, c, d, cal_s, h3, t_placeOf (τ := τ) (show nl (nw τ) - 1 < 8 by omega), t_latestTaken (show 20 < F by omega) C.1 ha d, ht.1]
      rw [if_neg (show ¬ bI true = 0 by decide), if_neg (show ¬ bI true = 0 by decide), if_neg (show ¬ bI true = 0 by decide)]
      exact ⟨_, k2, rfl⟩
