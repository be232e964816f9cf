/-! PURE: more questions on lines and records -/
def wlF (N : Nat → Int32) : Nat → Nat → Nat
  | 0, _ => 1
  | f + 1, l => if l = 0 then 1 else wlF N f (pr N l) + 1
/-- how many lines a way has -/
def wl (N : Nat → Int32) (l : Nat) : Nat := wlF N l l
theorem wlF_up {N : Nat → Int32} (h2 : N2 N) : ∀ f l, l ≤ f → l < nl N → wlF N f l = wlF N l l := by
  intro f
  induction f using Nat.strongRecOn with
  | _ f ih =>
    intro l hf hl
    cases l with
    | zero =>
      cases f with
      | zero => rfl
      | succ f => simp [wlF]
    | succ l =>
      cases f with
      | zero => omega
      | succ f =>
        have hp := (h2.2.1 (l + 1) (by omega) hl).2.1
        simp only [wlF, Nat.succ_ne_zero, if_false]
        rw [ih f (by omega) (pr N (l + 1)) (by omega) (by omega)]
        by_cases hlf : l < f + 1
        · rw [ih l (by omega) (pr N (l + 1)) (by omega) (by omega)]
        · omega
theorem wl_0 {N : Nat → Int32} : wl N 0 = 1 := rfl
theorem wl_s {N : Nat → Int32} (h2 : N2 N) {l : Nat} (h0 : 0 < l) (hl : l < nl N) : wl N l = wl N (pr N l) + 1 := by
  obtain ⟨k, rfl⟩ : ∃ k, l = k + 1 := ⟨l - 1, by omega⟩
  have hp := (h2.2.1 (k + 1) (by omega) hl).2.1
  show wlF N (k + 1) (k + 1) = _
  simp only [wlF, Nat.succ_ne_zero, if_false]
  rw [wlF_up h2 k _ (by omega) (by omega)]
  rfl
theorem wl_le {N : Nat → Int32} (h2 : N2 N) : ∀ l, l < nl N → 1 ≤ wl N l ∧ wl N l ≤ l + 1 := by
  intro l
  induction l using Nat.strongRecOn with
  | _ l ih =>
    intro hl
    by_cases c : l = 0
    · subst c; exact ⟨Nat.le_refl _, Nat.le_refl _⟩
    · have hp := (h2.2.1 l (by omega) hl).2.1
      rw [wl_s h2 (by omega) hl]
      have := ih (pr N l) hp (by omega)
      omega
theorem d_hasLineM {F : Nat} {σ : St} {N : Nat → Int32} (h : NN N) (j : JJ σ N) : f_X2_hasLine F σ m2 = some (nI 0) := by
  rw [d_hasLine h.1 j.1]; simp [isN, m2_neg]; rfl
theorem d_wayLength {F : Nat} (hF : 10 < F) {σ : St} {N : Nat → Int32} (h : NN N) (j : JJ σ N) {l : Nat} (hl : l < nl N) : f_X2_wayLength F σ (nI l) = some (nI (wl N l)) := by
  obtain ⟨b1, b2, b3, b4, b5, b6, b7, b8⟩ := NNb h
  have key : ∀ n k l, l < nl N → k + l < 8 → l + 1 < n → f_X2_wayLength_4 F n σ (nI k) (nI l) = some (nI (k + wl N l)) := by
    intro n
    induction n with
    | zero => intro k l _ _ h; omega
    | succ n ih =>
      intro k l hl hk hn
      rw [f_X2_wayLength_4]
      by_cases c : l = 0
      · subst c
        have hj : σ.2.1 11 0 = m2 := j.1.2.2.1
        simp (disch := omega) only [↓bnd_i, ↓cal_s, ↓cal_n, ↓cal2_s, ↓cal2_n, cal_s, cal2_s, ↓reduceIte, fa_lit, m1_lit, m2_lit, m1_lt, m2_lt, m1_eq, m2_eq, m1_le, m2_le, le_m1, le_m2, lt_m1, lt_m2, m12, m21, m1_m1, n_lt, n_le, n_eq, lt_t, lt_f, le_t, le_f, eq_t, eq_f, n_cl, inb_ok, n_add, pk_mul, pk_sub, n_rem, n_div, n_dec, n_mx, n_mn, eq_m1, eq_m2, ss_same, ss_ne, ss_r, ss_l, sr_f, sr_l, sr_same, sr_ne, sw_f, sw_l, sw_at, sw_ne, pk_us, pk_un, bI_t, bI_f, not_true_eq_false, not_false_eq_true, eq_self, and_true, true_and, and_false, false_and, or_true, true_or, or_false, false_or, decide_true, decide_false, Bool.false_eq_true, Bool.true_eq_false, ↓cal_w (d_hasLine h.1 j.1 _), d_hasLine h.1 j.1 _, isN_t hl (show nl N ≤ 2 ^ 31 by omega), hj, wl_0]
        obtain ⟨n, rfl⟩ : ∃ m, n = m + 1 := ⟨n - 1, by omega⟩
        rw [f_X2_wayLength_4]
        by_cases d : 8 ≤ k + 1
        · simp (disch := omega) only [↓bnd_i, ↓cal_s, ↓cal_n, ↓cal2_s, ↓cal2_n, cal_s, cal2_s, ↓reduceIte, fa_lit, m1_lit, m2_lit, m1_lt, m2_lt, m1_eq, m2_eq, m1_le, m2_le, le_m1, le_m2, lt_m1, lt_m2, m12, m21, m1_m1, n_lt, n_le, n_eq, lt_t, lt_f, le_t, le_f, eq_t, eq_f, n_cl, inb_ok, n_add, pk_mul, pk_sub, n_rem, n_div, n_dec, n_mx, n_mn, eq_m1, eq_m2, ss_same, ss_ne, ss_r, ss_l, sr_f, sr_l, sr_same, sr_ne, sw_f, sw_l, sw_at, sw_ne, pk_us, pk_un, bI_t, bI_f, not_true_eq_false, not_false_eq_true, eq_self, and_true, true_and, and_false, false_and, or_true, true_or, or_false, false_or, decide_true, decide_false, Bool.false_eq_true, Bool.true_eq_false]
        · simp (disch := omega) only [↓bnd_i, ↓cal_s, ↓cal_n, ↓cal2_s, ↓cal2_n, cal_s, cal2_s, ↓reduceIte, fa_lit, m1_lit, m2_lit, m1_lt, m2_lt, m1_eq, m2_eq, m1_le, m2_le, le_m1, le_m2, lt_m1, lt_m2, m12, m21, m1_m1, n_lt, n_le, n_eq, lt_t, lt_f, le_t, le_f, eq_t, eq_f, n_cl, inb_ok, n_add, pk_mul, pk_sub, n_rem, n_div, n_dec, n_mx, n_mn, eq_m1, eq_m2, ss_same, ss_ne, ss_r, ss_l, sr_f, sr_l, sr_same, sr_ne, sw_f, sw_l, sw_at, sw_ne, pk_us, pk_un, bI_t, bI_f, not_true_eq_false, not_false_eq_true, eq_self, and_true, true_and, and_false, false_and, or_true, true_or, or_false, false_or, decide_true, decide_false, Bool.false_eq_true, Bool.true_eq_false, ↓cal_w (d_hasLineM h j), d_hasLineM h j]
      · have hp := h.2.1.2.1 l (by omega) hl
        have ih' := ih (k + 1) (pr N l) (by omega) (by omega) (by omega)
        simp (disch := omega) only [↓bnd_i, ↓cal_s, ↓cal_n, ↓cal2_s, ↓cal2_n, cal_s, cal2_s, ↓reduceIte, fa_lit, m1_lit, m2_lit, m1_lt, m2_lt, m1_eq, m2_eq, m1_le, m2_le, le_m1, le_m2, lt_m1, lt_m2, m12, m21, m1_m1, n_lt, n_le, n_eq, lt_t, lt_f, le_t, le_f, eq_t, eq_f, n_cl, inb_ok, n_add, pk_mul, pk_sub, n_rem, n_div, n_dec, n_mx, n_mn, eq_m1, eq_m2, ss_same, ss_ne, ss_r, ss_l, sr_f, sr_l, sr_same, sr_ne, sw_f, sw_l, sw_at, sw_ne, pk_us, pk_un, bI_t, bI_f, not_true_eq_false, not_false_eq_true, eq_self, and_true, true_and, and_false, false_and, or_true, true_or, or_false, false_or, decide_true, decide_false, Bool.false_eq_true, Bool.true_eq_false, ↓cal_w (d_hasLine h.1 j.1 _), d_hasLine h.1 j.1 _, isN_t hl (show nl N ≤ 2 ^ 31 by omega), j_par j hl (show 0 < l by omega)]
        rw [ih', wl_s h.2.1 (by omega) hl]
        congr 2
        omega
  unfold f_X2_wayLength
  have := key F 0 l hl (by omega) (by omega)
  rw [Nat.zero_add] at this
  exact this
theorem d_wayLengthN {F : Nat} (hF : 10 < F) {σ : St} {N : Nat → Int32} (h : NN N) (j : JJ σ N) {x : Int32} (c : isN x (nl N) = false) : f_X2_wayLength F σ x = some (nI 0) := by
  unfold f_X2_wayLength
  obtain ⟨n, rfl⟩ : ∃ m, F = m + 1 := ⟨F - 1, by omega⟩
  rw [f_X2_wayLength_4]
  simp (disch := omega) only [↓bnd_i, ↓cal_s, ↓cal_n, ↓cal2_s, ↓cal2_n, cal_s, cal2_s, ↓reduceIte, fa_lit, m1_lit, m2_lit, m1_lt, m2_lt, m1_eq, m2_eq, m1_le, m2_le, le_m1, le_m2, lt_m1, lt_m2, m12, m21, m1_m1, n_lt, n_le, n_eq, lt_t, lt_f, le_t, le_f, eq_t, eq_f, n_cl, inb_ok, n_add, pk_mul, pk_sub, n_rem, n_div, n_dec, n_mx, n_mn, eq_m1, eq_m2, ss_same, ss_ne, ss_r, ss_l, sr_f, sr_l, sr_same, sr_ne, sw_f, sw_l, sw_at, sw_ne, pk_us, pk_un, bI_t, bI_f, not_true_eq_false, not_false_eq_true, eq_self, and_true, true_and, and_false, false_and, or_true, true_or, or_false, false_or, decide_true, decide_false, Bool.false_eq_true, Bool.true_eq_false, ↓cal_w (d_hasLine h.1 j.1 _), d_hasLine h.1 j.1 _, c]
theorem t_linesOf {F : Nat} (hF : 10 < F) {τ : St} (h : NN (nw τ)) {l : Nat} (hl : l < nl (nw τ)) : f_X8_linesOf F τ (nI l) = some (nI (wl (nw τ) l)) := by
  obtain ⟨b1, b2, b3, b4, b5, b6, b7, b8⟩ := NNb h
  have key : ∀ n k l, l < nl (nw τ) → l < n → f_X8_linesOf_4 F n τ (nI (k + 1)) (nI l) = some (nI (k + wl (nw τ) l)) := by
    intro n
    induction n with
    | zero => intro k l _ h; omega
    | succ n ih =>
      intro k l hl hn
      rw [f_X8_linesOf_4]
      by_cases c : l = 0
      · subst c
        simp (disch := omega) only [↓bnd_i, ↓cal_s, ↓cal_n, ↓cal2_s, ↓cal2_n, cal_s, cal2_s, ↓reduceIte, fa_lit, m1_lit, m2_lit, m1_lt, m2_lt, m1_eq, m2_eq, m1_le, m2_le, le_m1, le_m2, lt_m1, lt_m2, m12, m21, m1_m1, n_lt, n_le, n_eq, lt_t, lt_f, le_t, le_f, eq_t, eq_f, n_cl, inb_ok, n_add, pk_mul, pk_sub, n_rem, n_div, n_dec, n_mx, n_mn, eq_m1, eq_m2, ss_same, ss_ne, ss_r, ss_l, sr_f, sr_l, sr_same, sr_ne, sw_f, sw_l, sw_at, sw_ne, pk_us, pk_un, bI_t, bI_f, not_true_eq_false, not_false_eq_true, eq_self, and_true, true_and, and_false, false_and, or_true, true_or, or_false, false_or, decide_true, decide_false, Bool.false_eq_true, Bool.true_eq_false, wl_0]
      · have hp := h.2.1.2.1 l (by omega) hl
        have ih' := ih (k + 1) (pr (nw τ) l) (by omega) (by omega)
        simp (disch := omega) only [↓bnd_i, ↓cal_s, ↓cal_n, ↓cal2_s, ↓cal2_n, cal_s, cal2_s, ↓reduceIte, fa_lit, m1_lit, m2_lit, m1_lt, m2_lt, m1_eq, m2_eq, m1_le, m2_le, le_m1, le_m2, lt_m1, lt_m2, m12, m21, m1_m1, n_lt, n_le, n_eq, lt_t, lt_f, le_t, le_f, eq_t, eq_f, n_cl, inb_ok, n_add, pk_mul, pk_sub, n_rem, n_div, n_dec, n_mx, n_mn, eq_m1, eq_m2, ss_same, ss_ne, ss_r, ss_l, sr_f, sr_l, sr_same, sr_ne, sw_f, sw_l, sw_at, sw_ne, pk_us, pk_un, bI_t, bI_f, not_true_eq_false, not_false_eq_true, eq_self, and_true, true_and, and_false, false_and, or_true, true_or, or_false, false_or, decide_true, decide_false, Bool.false_eq_true, Bool.true_eq_false, ↓cal_w (t_parentOf (τ := τ) (show l < 8 by omega)), t_parentOf (τ := τ) (show l < 8 by omega), hp.1]
        rw [ih', wl_s h.2.1 (by omega) hl]
        congr 2
        omega
  have := key F 0 l hl (by omega)
  rw [Nat.zero_add, Nat.zero_add] at this
  exact this
theorem q_line {F : Nat} (hF : 300 < F) {σ τ : St} (C : Core σ τ) (x y : Int32) : Qy (f_X7_line F σ x y) (f_X8_line F τ x y) := by
  obtain ⟨b1, b2, b3, b4, b5, b6, b7, b8⟩ := NNb C.1
  unfold f_X7_line f_X8_line
  cases c : isN x (nl (nw τ))
  · simp (disch := omega) only [↓bnd_i, ↓cal_s, ↓cal_n, ↓cal2_s, ↓cal2_n, cal_s, cal2_s, ↓reduceIte, fa_lit, m1_lit, m2_lit, m1_lt, m2_lt, m1_eq, m2_eq, m1_le, m2_le, le_m1, le_m2, lt_m1, lt_m2, m12, m21, m1_m1, n_lt, n_le, n_eq, lt_t, lt_f, le_t, le_f, eq_t, eq_f, n_cl, inb_ok, n_add, pk_mul, pk_sub, n_rem, n_div, n_dec, n_mx, n_mn, eq_m1, eq_m2, ss_same, ss_ne, ss_r, ss_l, sr_f, sr_l, sr_same, sr_ne, sw_f, sw_l, sw_at, sw_ne, pk_us, pk_un, bI_t, bI_f, not_true_eq_false, not_false_eq_true, eq_self, and_true, true_and, and_false, false_and, or_true, true_or, or_false, false_or, decide_true, decide_false, Bool.false_eq_true, Bool.true_eq_false, ↓cal_w (d_hasLine C.1.1 C.2.1 x), d_hasLine C.1.1 C.2.1 x, ↓cal_w (t_isLine C.1.1 x), t_isLine C.1.1 x, c]
    exact Qy.mk
  · obtain ⟨l, hl, rfl⟩ := isN_e c (by omega)
    have ht := C.1.2.1.1 l hl
    have h8 : l < 8 := by omega
    have hf := fk_le C.1.2.1 hl
    have a1 : τ.2.1 19 (20 + 4 * l) = nI (tp (nw τ) l) := ht.1
    have a2 : τ.2.1 19 (20 + 4 * l + 1) = if l = 0 then m2 else nI (pr (nw τ) l) := by
      by_cases d : l = 0
      · subst d; exact C.1.2.1.2.2.1
      · rw [if_neg d]; exact (C.1.2.1.2.1 l (by omega) hl).1
    have a3 : τ.2.1 19 (20 + 4 * l + 2) = if l = 0 then m2 else nI (fk (nw τ) l) := by
      by_cases d : l = 0
      · subst d; exact C.1.2.1.2.2.2
      · rw [if_neg d]; exact (C.1.2.1.2.1 l (by omega) hl).2.2.1
    by_cases y0 : y = nI 0
    · subst y0
      simp (disch := omega) only [↓bnd_i, ↓cal_s, ↓cal_n, ↓cal2_s, ↓cal2_n, cal_s, cal2_s, ↓reduceIte, fa_lit, m1_lit, m2_lit, m1_lt, m2_lt, m1_eq, m2_eq, m1_le, m2_le, le_m1, le_m2, lt_m1, lt_m2, m12, m21, m1_m1, n_lt, n_le, n_eq, lt_t, lt_f, le_t, le_f, eq_t, eq_f, n_cl, inb_ok, n_add, pk_mul, pk_sub, n_rem, n_div, n_dec, n_mx, n_mn, eq_m1, eq_m2, ss_same, ss_ne, ss_r, ss_l, sr_f, sr_l, sr_same, sr_ne, sw_f, sw_l, sw_at, sw_ne, pk_us, pk_un, bI_t, bI_f, not_true_eq_false, not_false_eq_true, eq_self, and_true, true_and, and_false, false_and, or_true, true_or, or_false, false_or, decide_true, decide_false, Bool.false_eq_true, Bool.true_eq_false, ↓cal_w (d_hasLine C.1.1 C.2.1 _), d_hasLine C.1.1 C.2.1 _, ↓cal_w (t_isLine C.1.1 _), t_isLine C.1.1 _, ↓cal_w (d_tipOf C.1 C.2 hl), d_tipOf C.1 C.2 hl, c, a1, Nat.add_zero]
      exact Qy.mk
    · by_cases y1 : y = nI 1
      · subst y1
        simp (disch := omega) only [↓bnd_i, ↓cal_s, ↓cal_n, ↓cal2_s, ↓cal2_n, cal_s, cal2_s, ↓reduceIte, fa_lit, m1_lit, m2_lit, m1_lt, m2_lt, m1_eq, m2_eq, m1_le, m2_le, le_m1, le_m2, lt_m1, lt_m2, m12, m21, m1_m1, n_lt, n_le, n_eq, lt_t, lt_f, le_t, le_f, eq_t, eq_f, n_cl, inb_ok, n_add, pk_mul, pk_sub, n_rem, n_div, n_dec, n_mx, n_mn, eq_m1, eq_m2, ss_same, ss_ne, ss_r, ss_l, sr_f, sr_l, sr_same, sr_ne, sw_f, sw_l, sw_at, sw_ne, pk_us, pk_un, bI_t, bI_f, not_true_eq_false, not_false_eq_true, eq_self, and_true, true_and, and_false, false_and, or_true, true_or, or_false, false_or, decide_true, decide_false, Bool.false_eq_true, Bool.true_eq_false, ↓cal_w (d_hasLine C.1.1 C.2.1 _), d_hasLine C.1.1 C.2.1 _, ↓cal_w (t_isLine C.1.1 _), t_isLine C.1.1 _, ↓cal_w (d_parentOf C.1 C.2 hl), d_parentOf C.1 C.2 hl, c, a2]
        exact Qy.mk
      · by_cases y2 : y = nI 2
        · subst y2
          by_cases d : l = 0
          · subst d
            simp (disch := omega) only [↓bnd_i, ↓cal_s, ↓cal_n, ↓cal2_s, ↓cal2_n, cal_s, cal2_s, ↓reduceIte, fa_lit, m1_lit, m2_lit, m1_lt, m2_lt, m1_eq, m2_eq, m1_le, m2_le, le_m1, le_m2, lt_m1, lt_m2, m12, m21, m1_m1, n_lt, n_le, n_eq, lt_t, lt_f, le_t, le_f, eq_t, eq_f, n_cl, inb_ok, n_add, pk_mul, pk_sub, n_rem, n_div, n_dec, n_mx, n_mn, eq_m1, eq_m2, ss_same, ss_ne, ss_r, ss_l, sr_f, sr_l, sr_same, sr_ne, sw_f, sw_l, sw_at, sw_ne, pk_us, pk_un, bI_t, bI_f, not_true_eq_false, not_false_eq_true, eq_self, and_true, true_and, and_false, false_and, or_true, true_or, or_false, false_or, decide_true, decide_false, Bool.false_eq_true, Bool.true_eq_false, ↓cal_w (d_hasLine C.1.1 C.2.1 _), d_hasLine C.1.1 C.2.1 _, ↓cal_w (t_isLine C.1.1 _), t_isLine C.1.1 _, c, a3]
            exact Qy.mk
          · simp (disch := omega) only [↓bnd_i, ↓cal_s, ↓cal_n, ↓cal2_s, ↓cal2_n, cal_s, cal2_s, ↓reduceIte, fa_lit, m1_lit, m2_lit, m1_lt, m2_lt, m1_eq, m2_eq, m1_le, m2_le, le_m1, le_m2, lt_m1, lt_m2, m12, m21, m1_m1, n_lt, n_le, n_eq, lt_t, lt_f, le_t, le_f, eq_t, eq_f, n_cl, inb_ok, n_add, pk_mul, pk_sub, n_rem, n_div, n_dec, n_mx, n_mn, eq_m1, eq_m2, ss_same, ss_ne, ss_r, ss_l, sr_f, sr_l, sr_same, sr_ne, sw_f, sw_l, sw_at, sw_ne, pk_us, pk_un, bI_t, bI_f, not_true_eq_false, not_false_eq_true, eq_self, and_true, true_and, and_false, false_and, or_true, true_or, or_false, false_or, decide_true, decide_false, Bool.false_eq_true, Bool.true_eq_false, ↓cal_w (d_hasLine C.1.1 C.2.1 _), d_hasLine C.1.1 C.2.1 _, ↓cal_w (t_isLine C.1.1 _), t_isLine C.1.1 _, ↓cal_w (d_forkOf C.1 C.2 hl), d_forkOf C.1 C.2 hl, c, a3]
            exact Qy.mk
        · by_cases y3 : y = nI 3
          · subst y3
            simp (disch := omega) only [↓bnd_i, ↓cal_s, ↓cal_n, ↓cal2_s, ↓cal2_n, cal_s, cal2_s, ↓reduceIte, fa_lit, m1_lit, m2_lit, m1_lt, m2_lt, m1_eq, m2_eq, m1_le, m2_le, le_m1, le_m2, lt_m1, lt_m2, m12, m21, m1_m1, n_lt, n_le, n_eq, lt_t, lt_f, le_t, le_f, eq_t, eq_f, n_cl, inb_ok, n_add, pk_mul, pk_sub, n_rem, n_div, n_dec, n_mx, n_mn, eq_m1, eq_m2, ss_same, ss_ne, ss_r, ss_l, sr_f, sr_l, sr_same, sr_ne, sw_f, sw_l, sw_at, sw_ne, pk_us, pk_un, bI_t, bI_f, not_true_eq_false, not_false_eq_true, eq_self, and_true, true_and, and_false, false_and, or_true, true_or, or_false, false_or, decide_true, decide_false, Bool.false_eq_true, Bool.true_eq_false, ↓cal_w (d_hasLine C.1.1 C.2.1 _), d_hasLine C.1.1 C.2.1 _, ↓cal_w (t_isLine C.1.1 _), t_isLine C.1.1 _, ↓cal_w (d_wayLength (show 10 < F by omega) C.1 C.2 hl), d_wayLength (show 10 < F by omega) C.1 C.2 hl, ↓cal_w (t_linesOf (show 10 < F by omega) C.1 hl), t_linesOf (show 10 < F by omega) C.1 hl, c]
            exact Qy.mk
          · by_cases y4 : y = nI 4
            · subst y4
              have ep := d_pieceHolding (F := F) C.1 C.2 (p := fk (nw τ) l + 1) (by omega) (by omega)
              simp (disch := omega) only [↓bnd_i, ↓cal_s, ↓cal_n, ↓cal2_s, ↓cal2_n, cal_s, cal2_s, ↓reduceIte, fa_lit, m1_lit, m2_lit, m1_lt, m2_lt, m1_eq, m2_eq, m1_le, m2_le, le_m1, le_m2, lt_m1, lt_m2, m12, m21, m1_m1, n_lt, n_le, n_eq, lt_t, lt_f, le_t, le_f, eq_t, eq_f, n_cl, inb_ok, n_add, pk_mul, pk_sub, n_rem, n_div, n_dec, n_mx, n_mn, eq_m1, eq_m2, ss_same, ss_ne, ss_r, ss_l, sr_f, sr_l, sr_same, sr_ne, sw_f, sw_l, sw_at, sw_ne, pk_us, pk_un, bI_t, bI_f, not_true_eq_false, not_false_eq_true, eq_self, and_true, true_and, and_false, false_and, or_true, true_or, or_false, false_or, decide_true, decide_false, Bool.false_eq_true, Bool.true_eq_false, ↓cal_w (d_hasLine C.1.1 C.2.1 _), d_hasLine C.1.1 C.2.1 _, ↓cal_w (t_isLine C.1.1 _), t_isLine C.1.1 _, ↓cal_w (d_forkOf C.1 C.2 hl), d_forkOf C.1 C.2 hl, ↓cal_w (ep), ep, ↓cal_w (t_firstPiece C.1.1 C.1.2.1 hl), t_firstPiece C.1.1 C.1.2.1 hl, c, Nat.add_sub_cancel]
              exact Qy.mk
            · simp (disch := omega) only [↓bnd_i, ↓cal_s, ↓cal_n, ↓cal2_s, ↓cal2_n, cal_s, cal2_s, ↓reduceIte, fa_lit, m1_lit, m2_lit, m1_lt, m2_lt, m1_eq, m2_eq, m1_le, m2_le, le_m1, le_m2, lt_m1, lt_m2, m12, m21, m1_m1, n_lt, n_le, n_eq, lt_t, lt_f, le_t, le_f, eq_t, eq_f, n_cl, inb_ok, n_add, pk_mul, pk_sub, n_rem, n_div, n_dec, n_mx, n_mn, eq_m1, eq_m2, ss_same, ss_ne, ss_r, ss_l, sr_f, sr_l, sr_same, sr_ne, sw_f, sw_l, sw_at, sw_ne, pk_us, pk_un, bI_t, bI_f, not_true_eq_false, not_false_eq_true, eq_self, and_true, true_and, and_false, false_and, or_true, true_or, or_false, false_or, decide_true, decide_false, Bool.false_eq_true, Bool.true_eq_false, ↓cal_w (d_hasLine C.1.1 C.2.1 _), d_hasLine C.1.1 C.2.1 _, ↓cal_w (t_isLine C.1.1 _), t_isLine C.1.1 _, c, eq_false y0, eq_false y1, eq_false y2, eq_false y3, eq_false y4]
              exact Qy.mk
theorem q_way {F : Nat} (hF : 300 < F) {σ τ : St} (C : Core σ τ) (x y : Int32) : Qy (f_X7_way F σ x y) (f_X8_way F τ x y) := by
  obtain ⟨b1, b2, b3, b4, b5, b6, b7, b8⟩ := NNb C.1
  unfold f_X7_way f_X8_way
  cases c : isN x (nl (nw τ))
  · rcases n_ex y with hy | ⟨i, hi, rfl⟩
    · simp (disch := omega) only [↓bnd_i, ↓cal_s, ↓cal_n, ↓cal2_s, ↓cal2_n, cal_s, cal2_s, ↓reduceIte, fa_lit, m1_lit, m2_lit, m1_lt, m2_lt, m1_eq, m2_eq, m1_le, m2_le, le_m1, le_m2, lt_m1, lt_m2, m12, m21, m1_m1, n_lt, n_le, n_eq, lt_t, lt_f, le_t, le_f, eq_t, eq_f, n_cl, inb_ok, n_add, pk_mul, pk_sub, n_rem, n_div, n_dec, n_mx, n_mn, eq_m1, eq_m2, ss_same, ss_ne, ss_r, ss_l, sr_f, sr_l, sr_same, sr_ne, sw_f, sw_l, sw_at, sw_ne, pk_us, pk_un, bI_t, bI_f, not_true_eq_false, not_false_eq_true, eq_self, and_true, true_and, and_false, false_and, or_true, true_or, or_false, false_or, decide_true, decide_false, Bool.false_eq_true, Bool.true_eq_false, ↓cal_w (t_isLine C.1.1 x), t_isLine C.1.1 x, c, eq_true (show y < nI 0 from hy)]
      exact Qy.mk
    · simp (disch := omega) only [↓bnd_i, ↓cal_s, ↓cal_n, ↓cal2_s, ↓cal2_n, cal_s, cal2_s, ↓reduceIte, fa_lit, m1_lit, m2_lit, m1_lt, m2_lt, m1_eq, m2_eq, m1_le, m2_le, le_m1, le_m2, lt_m1, lt_m2, m12, m21, m1_m1, n_lt, n_le, n_eq, lt_t, lt_f, le_t, le_f, eq_t, eq_f, n_cl, inb_ok, n_add, pk_mul, pk_sub, n_rem, n_div, n_dec, n_mx, n_mn, eq_m1, eq_m2, ss_same, ss_ne, ss_r, ss_l, sr_f, sr_l, sr_same, sr_ne, sw_f, sw_l, sw_at, sw_ne, pk_us, pk_un, bI_t, bI_f, not_true_eq_false, not_false_eq_true, eq_self, and_true, true_and, and_false, false_and, or_true, true_or, or_false, false_or, decide_true, decide_false, Bool.false_eq_true, Bool.true_eq_false, ↓cal_w (d_wayLengthN (show 10 < F by omega) C.1 C.2 c), d_wayLengthN (show 10 < F by omega) C.1 C.2 c, ↓cal_w (t_isLine C.1.1 x), t_isLine C.1.1 x, c]
      exact Qy.mk
  · obtain ⟨l, hl, rfl⟩ := isN_e c (by omega)
    have hw := wl_le C.1.2.1 l hl
    have hin := in_isN (F := F) (τ := τ) (x := y) (n := wl (nw τ) l) (by omega) (by omega)
    rw [pk_sub (by omega)] at hin
    cases d : isN y (wl (nw τ) l)
    · rw [d] at hin
      rcases n_ex y with hy | ⟨i, hi, rfl⟩
      · simp (disch := omega) only [↓bnd_i, ↓cal_s, ↓cal_n, ↓cal2_s, ↓cal2_n, cal_s, cal2_s, ↓reduceIte, fa_lit, m1_lit, m2_lit, m1_lt, m2_lt, m1_eq, m2_eq, m1_le, m2_le, le_m1, le_m2, lt_m1, lt_m2, m12, m21, m1_m1, n_lt, n_le, n_eq, lt_t, lt_f, le_t, le_f, eq_t, eq_f, n_cl, inb_ok, n_add, pk_mul, pk_sub, n_rem, n_div, n_dec, n_mx, n_mn, eq_m1, eq_m2, ss_same, ss_ne, ss_r, ss_l, sr_f, sr_l, sr_same, sr_ne, sw_f, sw_l, sw_at, sw_ne, pk_us, pk_un, bI_t, bI_f, not_true_eq_false, not_false_eq_true, eq_self, and_true, true_and, and_false, false_and, or_true, true_or, or_false, false_or, decide_true, decide_false, Bool.false_eq_true, Bool.true_eq_false, ↓cal_w (t_isLine C.1.1 _), t_isLine C.1.1 _, ↓cal_w (t_linesOf (show 10 < F by omega) C.1 hl), t_linesOf (show 10 < F by omega) C.1 hl, ↓cal_w (hin), hin, c, eq_true (show y < nI 0 from hy)]
        exact Qy.mk
      · rw [isN_n hi] at d
        have d' := of_decide_eq_false d
        simp (disch := omega) only [↓bnd_i, ↓cal_s, ↓cal_n, ↓cal2_s, ↓cal2_n, cal_s, cal2_s, ↓reduceIte, fa_lit, m1_lit, m2_lit, m1_lt, m2_lt, m1_eq, m2_eq, m1_le, m2_le, le_m1, le_m2, lt_m1, lt_m2, m12, m21, m1_m1, n_lt, n_le, n_eq, lt_t, lt_f, le_t, le_f, eq_t, eq_f, n_cl, inb_ok, n_add, pk_mul, pk_sub, n_rem, n_div, n_dec, n_mx, n_mn, eq_m1, eq_m2, ss_same, ss_ne, ss_r, ss_l, sr_f, sr_l, sr_same, sr_ne, sw_f, sw_l, sw_at, sw_ne, pk_us, pk_un, bI_t, bI_f, not_true_eq_false, not_false_eq_true, eq_self, and_true, true_and, and_false, false_and, or_true, true_or, or_false, false_or, decide_true, decide_false, Bool.false_eq_true, Bool.true_eq_false, ↓cal_w (d_wayLength (show 10 < F by omega) C.1 C.2 hl), d_wayLength (show 10 < F by omega) C.1 C.2 hl, ↓cal_w (t_isLine C.1.1 _), t_isLine C.1.1 _, ↓cal_w (t_linesOf (show 10 < F by omega) C.1 hl), t_linesOf (show 10 < F by omega) C.1 hl, ↓cal_w (hin), hin, c]
        exact Qy.mk
    · rw [d] at hin
      obtain ⟨i, hi, rfl⟩ := isN_e d (by omega)
      have key : ∀ n k a, a < nl (nw τ) → k ≤ i → i - k < wl (nw τ) a → i - k < n → Qy (f_X7_way_23 F n σ (nI i) (nI a) (nI k)) (f_X8_way_30 F n τ (nI i) (nI a) (nI k)) := by
        intro n
        induction n with
        | zero => intro k a _ _ _ h; omega
        | succ n ih =>
          intro k a ha hk hwk hn
          rw [f_X7_way_23, f_X8_way_30]
          by_cases e : k = i
          · subst e
            simp (disch := omega) only [↓bnd_i, ↓cal_s, ↓cal_n, ↓cal2_s, ↓cal2_n, cal_s, cal2_s, ↓reduceIte, fa_lit, m1_lit, m2_lit, m1_lt, m2_lt, m1_eq, m2_eq, m1_le, m2_le, le_m1, le_m2, lt_m1, lt_m2, m12, m21, m1_m1, n_lt, n_le, n_eq, lt_t, lt_f, le_t, le_f, eq_t, eq_f, n_cl, inb_ok, n_add, pk_mul, pk_sub, n_rem, n_div, n_dec, n_mx, n_mn, eq_m1, eq_m2, ss_same, ss_ne, ss_r, ss_l, sr_f, sr_l, sr_same, sr_ne, sw_f, sw_l, sw_at, sw_ne, pk_us, pk_un, bI_t, bI_f, not_true_eq_false, not_false_eq_true, eq_self, and_true, true_and, and_false, false_and, or_true, true_or, or_false, false_or, decide_true, decide_false, Bool.false_eq_true, Bool.true_eq_false]
            exact Qy.mk
          · have a0 : 0 < a := by
              rcases Nat.eq_zero_or_pos a with h | h
              · subst h; rw [wl_0] at hwk; omega
              · exact h
            have hp := C.1.2.1.2.1 a a0 ha
            have hws := wl_s C.1.2.1 a0 ha
            have ih' := ih (k + 1) (pr (nw τ) a) (by omega) (by omega) (by omega) (by omega)
            simp (disch := omega) only [↓bnd_i, ↓cal_s, ↓cal_n, ↓cal2_s, ↓cal2_n, cal_s, cal2_s, ↓reduceIte, fa_lit, m1_lit, m2_lit, m1_lt, m2_lt, m1_eq, m2_eq, m1_le, m2_le, le_m1, le_m2, lt_m1, lt_m2, m12, m21, m1_m1, n_lt, n_le, n_eq, lt_t, lt_f, le_t, le_f, eq_t, eq_f, n_cl, inb_ok, n_add, pk_mul, pk_sub, n_rem, n_div, n_dec, n_mx, n_mn, eq_m1, eq_m2, ss_same, ss_ne, ss_r, ss_l, sr_f, sr_l, sr_same, sr_ne, sw_f, sw_l, sw_at, sw_ne, pk_us, pk_un, bI_t, bI_f, not_true_eq_false, not_false_eq_true, eq_self, and_true, true_and, and_false, false_and, or_true, true_or, or_false, false_or, decide_true, decide_false, Bool.false_eq_true, Bool.true_eq_false, ↓cal_w (d_parentOf C.1 C.2 ha), d_parentOf C.1 C.2 ha, ↓cal_w (t_parentOf (τ := τ) (show a < 8 by omega)), t_parentOf (τ := τ) (show a < 8 by omega), hp.1]
            exact ih'
      have e := key F 0 l hl (by omega) (by omega) (by omega)
      simp (disch := omega) only [↓bnd_i, ↓cal_s, ↓cal_n, ↓cal2_s, ↓cal2_n, cal_s, cal2_s, ↓reduceIte, fa_lit, m1_lit, m2_lit, m1_lt, m2_lt, m1_eq, m2_eq, m1_le, m2_le, le_m1, le_m2, lt_m1, lt_m2, m12, m21, m1_m1, n_lt, n_le, n_eq, lt_t, lt_f, le_t, le_f, eq_t, eq_f, n_cl, inb_ok, n_add, pk_mul, pk_sub, n_rem, n_div, n_dec, n_mx, n_mn, eq_m1, eq_m2, ss_same, ss_ne, ss_r, ss_l, sr_f, sr_l, sr_same, sr_ne, sw_f, sw_l, sw_at, sw_ne, pk_us, pk_un, bI_t, bI_f, not_true_eq_false, not_false_eq_true, eq_self, and_true, true_and, and_false, false_and, or_true, true_or, or_false, false_or, decide_true, decide_false, Bool.false_eq_true, Bool.true_eq_false, ↓cal_w (d_wayLength (show 10 < F by omega) C.1 C.2 hl), d_wayLength (show 10 < F by omega) C.1 C.2 hl, ↓cal_w (t_isLine C.1.1 _), t_isLine C.1.1 _, ↓cal_w (t_linesOf (show 10 < F by omega) C.1 hl), t_linesOf (show 10 < F by omega) C.1 hl, ↓cal_w (hin), hin, c]
      exact e
theorem ro_ow {σ : St} {N : Nat → Int32} (h : NN N) (j : JJ σ N) {l o p : Nat} (hl : l < nl N) (ho : o < nl N) (hp1 : 1 ≤ p) (hpl : p ≤ tp N l) (hpo : p ≤ tp N o) : ro N l p = ro N o p ↔ ow N l p = ow N o p := by
  constructor
  · intro e
    obtain ⟨x1, x2, x3, x4⟩ := ro_in h j hl hp1 hpl
    obtain ⟨y1, y2, y3, y4⟩ := ro_in h j ho hp1 hpo
    rcases Nat.lt_trichotomy (ow N l p) (ow N o p) with c | c | c
    · have := sm_mono (N := N) (show ow N l p + 1 ≤ ow N o p by omega); omega
    · exact c
    · have := sm_mono (N := N) (show ow N o p + 1 ≤ ow N l p by omega); omega
  · intro e
    unfold ro
    rw [e]
theorem q_common {F : Nat} (hF : 300 < F) {σ τ : St} (C : Core σ τ) (x y : Int32) : Qy (f_X7_common F σ x y) (f_X8_common F τ x y) := by
  obtain ⟨b1, b2, b3, b4, b5, b6, b7, b8⟩ := NNb C.1
  unfold f_X7_common f_X8_common f_X8_common_44
  cases c : isN x (nl (nw τ))
  · simp (disch := omega) only [↓bnd_i, ↓cal_s, ↓cal_n, ↓cal2_s, ↓cal2_n, cal_s, cal2_s, ↓reduceIte, fa_lit, m1_lit, m2_lit, m1_lt, m2_lt, m1_eq, m2_eq, m1_le, m2_le, le_m1, le_m2, lt_m1, lt_m2, m12, m21, m1_m1, n_lt, n_le, n_eq, lt_t, lt_f, le_t, le_f, eq_t, eq_f, n_cl, inb_ok, n_add, pk_mul, pk_sub, n_rem, n_div, n_dec, n_mx, n_mn, eq_m1, eq_m2, ss_same, ss_ne, ss_r, ss_l, sr_f, sr_l, sr_same, sr_ne, sw_f, sw_l, sw_at, sw_ne, pk_us, pk_un, bI_t, bI_f, not_true_eq_false, not_false_eq_true, eq_self, and_true, true_and, and_false, false_and, or_true, true_or, or_false, false_or, decide_true, decide_false, Bool.false_eq_true, Bool.true_eq_false, ↓cal_w (d_hasLine C.1.1 C.2.1 x), d_hasLine C.1.1 C.2.1 x, ↓cal_w (t_isLine C.1.1 x), t_isLine C.1.1 x, c]
    exact Qy.mk
  · cases d : isN y (nl (nw τ))
    · simp (disch := omega) only [↓bnd_i, ↓cal_s, ↓cal_n, ↓cal2_s, ↓cal2_n, cal_s, cal2_s, ↓reduceIte, fa_lit, m1_lit, m2_lit, m1_lt, m2_lt, m1_eq, m2_eq, m1_le, m2_le, le_m1, le_m2, lt_m1, lt_m2, m12, m21, m1_m1, n_lt, n_le, n_eq, lt_t, lt_f, le_t, le_f, eq_t, eq_f, n_cl, inb_ok, n_add, pk_mul, pk_sub, n_rem, n_div, n_dec, n_mx, n_mn, eq_m1, eq_m2, ss_same, ss_ne, ss_r, ss_l, sr_f, sr_l, sr_same, sr_ne, sw_f, sw_l, sw_at, sw_ne, pk_us, pk_un, bI_t, bI_f, not_true_eq_false, not_false_eq_true, eq_self, and_true, true_and, and_false, false_and, or_true, true_or, or_false, false_or, decide_true, decide_false, Bool.false_eq_true, Bool.true_eq_false, ↓cal_w (d_hasLine C.1.1 C.2.1 x), d_hasLine C.1.1 C.2.1 x, ↓cal_w (t_isLine C.1.1 x), t_isLine C.1.1 x, ↓cal_w (d_hasLine C.1.1 C.2.1 y), d_hasLine C.1.1 C.2.1 y, ↓cal_w (t_isLine C.1.1 y), t_isLine C.1.1 y, c, d]
      exact Qy.mk
    · obtain ⟨l, hl, rfl⟩ := isN_e c (by omega)
      obtain ⟨o, ho, rfl⟩ := isN_e d (by omega)
      have htl := C.1.2.1.1 l hl
      have hto := C.1.2.1.1 o ho
      have key : ∀ n m i, m ≤ tp (nw τ) l → m ≤ tp (nw τ) o → i ≤ m → m - i < n → Qy (f_X7_common_47 F n σ (nI l) (nI o) (nI m) (nI i)) (f_X8_common_48 F n τ (nI l) (nI o) (nI m) (nI i)) := by
        intro n
        induction n with
        | zero => intro m i _ _ _ h; omega
        | succ n ih =>
          intro m i hm1 hm2 hi hn
          rw [f_X7_common_47, f_X8_common_48]
          by_cases e : i = m
          · subst e
            simp (disch := omega) only [↓bnd_i, ↓cal_s, ↓cal_n, ↓cal2_s, ↓cal2_n, cal_s, cal2_s, ↓reduceIte, fa_lit, m1_lit, m2_lit, m1_lt, m2_lt, m1_eq, m2_eq, m1_le, m2_le, le_m1, le_m2, lt_m1, lt_m2, m12, m21, m1_m1, n_lt, n_le, n_eq, lt_t, lt_f, le_t, le_f, eq_t, eq_f, n_cl, inb_ok, n_add, pk_mul, pk_sub, n_rem, n_div, n_dec, n_mx, n_mn, eq_m1, eq_m2, ss_same, ss_ne, ss_r, ss_l, sr_f, sr_l, sr_same, sr_ne, sw_f, sw_l, sw_at, sw_ne, pk_us, pk_un, bI_t, bI_f, not_true_eq_false, not_false_eq_true, eq_self, and_true, true_and, and_false, false_and, or_true, true_or, or_false, false_or, decide_true, decide_false, Bool.false_eq_true, Bool.true_eq_false]
            exact Qy.mk
          · have ih' := ih m (i + 1) hm1 hm2 (by omega) (by omega)
            have hiff := ro_ow C.1 C.2 hl ho (show 1 ≤ i + 1 by omega) (show i + 1 ≤ tp (nw τ) l by omega) (show i + 1 ≤ tp (nw τ) o by omega)
            have r1 := (ro_in C.1 C.2 hl (show 1 ≤ i + 1 by omega) (show i + 1 ≤ tp (nw τ) l by omega)).2.2
            have r2 := (ro_in C.1 C.2 ho (show 1 ≤ i + 1 by omega) (show i + 1 ≤ tp (nw τ) o by omega)).2.2
            have t1 := t_ownerOf (F := F) C.1.1 C.1.2.1 F l (i + 1) (by omega) hl (by omega)
            have t2 := t_ownerOf (F := F) C.1.1 C.1.2.1 F o (i + 1) (by omega) ho (by omega)
            by_cases e2 : ow (nw τ) l (i + 1) = ow (nw τ) o (i + 1)
            · have e3 := hiff.mpr e2
              simp (disch := omega) only [↓bnd_i, ↓cal_s, ↓cal_n, ↓cal2_s, ↓cal2_n, cal_s, cal2_s, ↓reduceIte, fa_lit, m1_lit, m2_lit, m1_lt, m2_lt, m1_eq, m2_eq, m1_le, m2_le, le_m1, le_m2, lt_m1, lt_m2, m12, m21, m1_m1, n_lt, n_le, n_eq, lt_t, lt_f, le_t, le_f, eq_t, eq_f, n_cl, inb_ok, n_add, pk_mul, pk_sub, n_rem, n_div, n_dec, n_mx, n_mn, eq_m1, eq_m2, ss_same, ss_ne, ss_r, ss_l, sr_f, sr_l, sr_same, sr_ne, sw_f, sw_l, sw_at, sw_ne, pk_us, pk_un, bI_t, bI_f, not_true_eq_false, not_false_eq_true, eq_self, and_true, true_and, and_false, false_and, or_true, true_or, or_false, false_or, decide_true, decide_false, Bool.false_eq_true, Bool.true_eq_false, ↓cal_w (d_row (show 8 < F by omega) C.1 C.2 hl (show 1 ≤ i + 1 by omega) (show i + 1 ≤ tp (nw τ) l by omega)), d_row (show 8 < F by omega) C.1 C.2 hl (show 1 ≤ i + 1 by omega) (show i + 1 ≤ tp (nw τ) l by omega), ↓cal_w (d_row (show 8 < F by omega) C.1 C.2 ho (show 1 ≤ i + 1 by omega) (show i + 1 ≤ tp (nw τ) o by omega)), d_row (show 8 < F by omega) C.1 C.2 ho (show 1 ≤ i + 1 by omega) (show i + 1 ≤ tp (nw τ) o by omega), ↓cal_w (t1), t1, ↓cal_w (t2), t2, f_X8_ownerOf]
              exact ih'
            · have e3 : ¬ ro (nw τ) l (i + 1) = ro (nw τ) o (i + 1) := fun e => e2 (hiff.mp e)
              simp (disch := omega) only [↓bnd_i, ↓cal_s, ↓cal_n, ↓cal2_s, ↓cal2_n, cal_s, cal2_s, ↓reduceIte, fa_lit, m1_lit, m2_lit, m1_lt, m2_lt, m1_eq, m2_eq, m1_le, m2_le, le_m1, le_m2, lt_m1, lt_m2, m12, m21, m1_m1, n_lt, n_le, n_eq, lt_t, lt_f, le_t, le_f, eq_t, eq_f, n_cl, inb_ok, n_add, pk_mul, pk_sub, n_rem, n_div, n_dec, n_mx, n_mn, eq_m1, eq_m2, ss_same, ss_ne, ss_r, ss_l, sr_f, sr_l, sr_same, sr_ne, sw_f, sw_l, sw_at, sw_ne, pk_us, pk_un, bI_t, bI_f, not_true_eq_false, not_false_eq_true, eq_self, and_true, true_and, and_false, false_and, or_true, true_or, or_false, false_or, decide_true, decide_false, Bool.false_eq_true, Bool.true_eq_false, ↓cal_w (d_row (show 8 < F by omega) C.1 C.2 hl (show 1 ≤ i + 1 by omega) (show i + 1 ≤ tp (nw τ) l by omega)), d_row (show 8 < F by omega) C.1 C.2 hl (show 1 ≤ i + 1 by omega) (show i + 1 ≤ tp (nw τ) l by omega), ↓cal_w (d_row (show 8 < F by omega) C.1 C.2 ho (show 1 ≤ i + 1 by omega) (show i + 1 ≤ tp (nw τ) o by omega)), d_row (show 8 < F by omega) C.1 C.2 ho (show 1 ≤ i + 1 by omega) (show i + 1 ≤ tp (nw τ) o by omega), ↓cal_w (t1), t1, ↓cal_w (t2), t2, f_X8_ownerOf]
              exact Qy.mk
      by_cases e : tp (nw τ) o ≤ tp (nw τ) l
      · have k := key F (tp (nw τ) o) 0 e (Nat.le_refl _) (by omega) (by omega)
        simp (disch := omega) only [↓bnd_i, ↓cal_s, ↓cal_n, ↓cal2_s, ↓cal2_n, cal_s, cal2_s, ↓reduceIte, fa_lit, m1_lit, m2_lit, m1_lt, m2_lt, m1_eq, m2_eq, m1_le, m2_le, le_m1, le_m2, lt_m1, lt_m2, m12, m21, m1_m1, n_lt, n_le, n_eq, lt_t, lt_f, le_t, le_f, eq_t, eq_f, n_cl, inb_ok, n_add, pk_mul, pk_sub, n_rem, n_div, n_dec, n_mx, n_mn, eq_m1, eq_m2, ss_same, ss_ne, ss_r, ss_l, sr_f, sr_l, sr_same, sr_ne, sw_f, sw_l, sw_at, sw_ne, pk_us, pk_un, bI_t, bI_f, not_true_eq_false, not_false_eq_true, eq_self, and_true, true_and, and_false, false_and, or_true, true_or, or_false, false_or, decide_true, decide_false, Bool.false_eq_true, Bool.true_eq_false, ↓cal_w (d_hasLine C.1.1 C.2.1 _), d_hasLine C.1.1 C.2.1 _, ↓cal_w (t_isLine C.1.1 _), t_isLine C.1.1 _, ↓cal_w (d_tipOf C.1 C.2 hl), d_tipOf C.1 C.2 hl, ↓cal_w (d_tipOf C.1 C.2 ho), d_tipOf C.1 C.2 ho, ↓cal_w (t_placeOf (τ := τ) (show l < 8 by omega)), t_placeOf (τ := τ) (show l < 8 by omega), ↓cal_w (t_placeOf (τ := τ) (show o < 8 by omega)), t_placeOf (τ := τ) (show o < 8 by omega), c, d, htl.1, hto.1, Nat.min_eq_right e]
        exact k
      · have k := key F (tp (nw τ) l) 0 (Nat.le_refl _) (by omega) (by omega) (by omega)
        simp (disch := omega) only [↓bnd_i, ↓cal_s, ↓cal_n, ↓cal2_s, ↓cal2_n, cal_s, cal2_s, ↓reduceIte, fa_lit, m1_lit, m2_lit, m1_lt, m2_lt, m1_eq, m2_eq, m1_le, m2_le, le_m1, le_m2, lt_m1, lt_m2, m12, m21, m1_m1, n_lt, n_le, n_eq, lt_t, lt_f, le_t, le_f, eq_t, eq_f, n_cl, inb_ok, n_add, pk_mul, pk_sub, n_rem, n_div, n_dec, n_mx, n_mn, eq_m1, eq_m2, ss_same, ss_ne, ss_r, ss_l, sr_f, sr_l, sr_same, sr_ne, sw_f, sw_l, sw_at, sw_ne, pk_us, pk_un, bI_t, bI_f, not_true_eq_false, not_false_eq_true, eq_self, and_true, true_and, and_false, false_and, or_true, true_or, or_false, false_or, decide_true, decide_false, Bool.false_eq_true, Bool.true_eq_false, ↓cal_w (d_hasLine C.1.1 C.2.1 _), d_hasLine C.1.1 C.2.1 _, ↓cal_w (t_isLine C.1.1 _), t_isLine C.1.1 _, ↓cal_w (d_tipOf C.1 C.2 hl), d_tipOf C.1 C.2 hl, ↓cal_w (d_tipOf C.1 C.2 ho), d_tipOf C.1 C.2 ho, ↓cal_w (t_placeOf (τ := τ) (show l < 8 by omega)), t_placeOf (τ := τ) (show l < 8 by omega), ↓cal_w (t_placeOf (τ := τ) (show o < 8 by omega)), t_placeOf (τ := τ) (show o < 8 by omega), c, d, htl.1, hto.1, Nat.min_eq_left (show tp (nw τ) l ≤ tp (nw τ) o by omega)]
        exact k
theorem q_differ {F : Nat} (hF : 300 < F) {σ τ : St} (C : Core σ τ) (x y z w : Int32) : Qy (f_X7_differ F σ x y z w) (f_X8_differ F τ x y z w) := by
  obtain ⟨b1, b2, b3, b4, b5, b6, b7, b8⟩ := NNb C.1
  obtain ⟨e4, e5, e6, e7, e8⟩ := JJf C.1 C.2
  have h0 : τ.2.1 19 0 = nI (pg (nw τ)) := C.1.1.1.1
  unfold f_X7_differ f_X8_differ
  cases c : hasP (nw τ) x y
  · simp (disch := omega) only [↓bnd_i, ↓cal_s, ↓cal_n, ↓cal2_s, ↓cal2_n, cal_s, cal2_s, ↓reduceIte, fa_lit, m1_lit, m2_lit, m1_lt, m2_lt, m1_eq, m2_eq, m1_le, m2_le, le_m1, le_m2, lt_m1, lt_m2, m12, m21, m1_m1, n_lt, n_le, n_eq, lt_t, lt_f, le_t, le_f, eq_t, eq_f, n_cl, inb_ok, n_add, pk_mul, pk_sub, n_rem, n_div, n_dec, n_mx, n_mn, eq_m1, eq_m2, ss_same, ss_ne, ss_r, ss_l, sr_f, sr_l, sr_same, sr_ne, sw_f, sw_l, sw_at, sw_ne, pk_us, pk_un, bI_t, bI_f, not_true_eq_false, not_false_eq_true, eq_self, and_true, true_and, and_false, false_and, or_true, true_or, or_false, false_or, decide_true, decide_false, Bool.false_eq_true, Bool.true_eq_false, ↓cal_w (d_hasPlace C.1 C.2 x y), d_hasPlace C.1 C.2 x y, ↓cal_w (t_isAt C.1 x y), t_isAt C.1 x y, c]
    exact Qy.mk
  · cases d : hasP (nw τ) z w
    · simp (disch := omega) only [↓bnd_i, ↓cal_s, ↓cal_n, ↓cal2_s, ↓cal2_n, cal_s, cal2_s, ↓reduceIte, fa_lit, m1_lit, m2_lit, m1_lt, m2_lt, m1_eq, m2_eq, m1_le, m2_le, le_m1, le_m2, lt_m1, lt_m2, m12, m21, m1_m1, n_lt, n_le, n_eq, lt_t, lt_f, le_t, le_f, eq_t, eq_f, n_cl, inb_ok, n_add, pk_mul, pk_sub, n_rem, n_div, n_dec, n_mx, n_mn, eq_m1, eq_m2, ss_same, ss_ne, ss_r, ss_l, sr_f, sr_l, sr_same, sr_ne, sw_f, sw_l, sw_at, sw_ne, pk_us, pk_un, bI_t, bI_f, not_true_eq_false, not_false_eq_true, eq_self, and_true, true_and, and_false, false_and, or_true, true_or, or_false, false_or, decide_true, decide_false, Bool.false_eq_true, Bool.true_eq_false, ↓cal_w (d_hasPlace C.1 C.2 x y), d_hasPlace C.1 C.2 x y, ↓cal_w (t_isAt C.1 x y), t_isAt C.1 x y, ↓cal_w (d_hasPlace C.1 C.2 z w), d_hasPlace C.1 C.2 z w, ↓cal_w (t_isAt C.1 z w), t_isAt C.1 z w, c, d]
      exact Qy.mk
    · obtain ⟨l, p, hl, hp, ht, rfl, rfl⟩ := hasP_e C.1 c
      obtain ⟨o, q, ho, hq, ht2, rfl, rfl⟩ := hasP_e C.1 d
      have key : ∀ n g v, g ≤ pg (nw τ) → pg (nw τ) - g < n → Qy (f_X7_differ_33 F n σ (nI l) (nI p) (nI o) (nI q) v (nI g)) (f_X8_differ_27 F n τ (nI l) (nI p) (nI o) (nI q) v (nI g)) := by
        intro n
        induction n with
        | zero => intro g v _ h; omega
        | succ n ih =>
          intro g v hg hn
          rw [f_X7_differ_33, f_X8_differ_27]
          by_cases e : g = pg (nw τ)
          · simp (disch := omega) only [↓bnd_i, ↓cal_s, ↓cal_n, ↓cal2_s, ↓cal2_n, cal_s, cal2_s, ↓reduceIte, fa_lit, m1_lit, m2_lit, m1_lt, m2_lt, m1_eq, m2_eq, m1_le, m2_le, le_m1, le_m2, lt_m1, lt_m2, m12, m21, m1_m1, n_lt, n_le, n_eq, lt_t, lt_f, le_t, le_f, eq_t, eq_f, n_cl, inb_ok, n_add, pk_mul, pk_sub, n_rem, n_div, n_dec, n_mx, n_mn, eq_m1, eq_m2, ss_same, ss_ne, ss_r, ss_l, sr_f, sr_l, sr_same, sr_ne, sw_f, sw_l, sw_at, sw_ne, pk_us, pk_un, bI_t, bI_f, not_true_eq_false, not_false_eq_true, eq_self, and_true, true_and, and_false, false_and, or_true, true_or, or_false, false_or, decide_true, decide_false, Bool.false_eq_true, Bool.true_eq_false, e4, h0]
            exact Qy.mk
          · by_cases e2 : pa (nw τ) l (nI g) p = pa (nw τ) o (nI g) q
            · have ih' := ih (g + 1) v (by omega) (by omega)
              simp (disch := omega) only [↓bnd_i, ↓cal_s, ↓cal_n, ↓cal2_s, ↓cal2_n, cal_s, cal2_s, ↓reduceIte, fa_lit, m1_lit, m2_lit, m1_lt, m2_lt, m1_eq, m2_eq, m1_le, m2_le, le_m1, le_m2, lt_m1, lt_m2, m12, m21, m1_m1, n_lt, n_le, n_eq, lt_t, lt_f, le_t, le_f, eq_t, eq_f, n_cl, inb_ok, n_add, pk_mul, pk_sub, n_rem, n_div, n_dec, n_mx, n_mn, eq_m1, eq_m2, ss_same, ss_ne, ss_r, ss_l, sr_f, sr_l, sr_same, sr_ne, sw_f, sw_l, sw_at, sw_ne, pk_us, pk_un, bI_t, bI_f, not_true_eq_false, not_false_eq_true, eq_self, and_true, true_and, and_false, false_and, or_true, true_or, or_false, false_or, decide_true, decide_false, Bool.false_eq_true, Bool.true_eq_false, ↓cal_w (d_valueAs hF C.1 C.2 hl hp (ne_m1 (show g < 2 ^ 31 by omega))), d_valueAs hF C.1 C.2 hl hp (ne_m1 (show g < 2 ^ 31 by omega)), ↓cal_w (d_valueAs hF C.1 C.2 ho hq (ne_m1 (show g < 2 ^ 31 by omega))), d_valueAs hF C.1 C.2 ho hq (ne_m1 (show g < 2 ^ 31 by omega)), ↓cal_w (t_pageAt hF C.1 hl hp _), t_pageAt hF C.1 hl hp _, ↓cal_w (t_pageAt hF C.1 ho hq _), t_pageAt hF C.1 ho hq _, e4, h0, e2, f_X7_differ_80, f_X8_differ_67]
              exact ih'
            · have ih' := ih (g + 1) (v ||| (nI 1 <<< (nI g &&& nI 31))) (by omega) (by omega)
              simp (disch := omega) only [↓bnd_i, ↓cal_s, ↓cal_n, ↓cal2_s, ↓cal2_n, cal_s, cal2_s, ↓reduceIte, fa_lit, m1_lit, m2_lit, m1_lt, m2_lt, m1_eq, m2_eq, m1_le, m2_le, le_m1, le_m2, lt_m1, lt_m2, m12, m21, m1_m1, n_lt, n_le, n_eq, lt_t, lt_f, le_t, le_f, eq_t, eq_f, n_cl, inb_ok, n_add, pk_mul, pk_sub, n_rem, n_div, n_dec, n_mx, n_mn, eq_m1, eq_m2, ss_same, ss_ne, ss_r, ss_l, sr_f, sr_l, sr_same, sr_ne, sw_f, sw_l, sw_at, sw_ne, pk_us, pk_un, bI_t, bI_f, not_true_eq_false, not_false_eq_true, eq_self, and_true, true_and, and_false, false_and, or_true, true_or, or_false, false_or, decide_true, decide_false, Bool.false_eq_true, Bool.true_eq_false, ↓cal_w (d_valueAs hF C.1 C.2 hl hp (ne_m1 (show g < 2 ^ 31 by omega))), d_valueAs hF C.1 C.2 hl hp (ne_m1 (show g < 2 ^ 31 by omega)), ↓cal_w (d_valueAs hF C.1 C.2 ho hq (ne_m1 (show g < 2 ^ 31 by omega))), d_valueAs hF C.1 C.2 ho hq (ne_m1 (show g < 2 ^ 31 by omega)), ↓cal_w (t_pageAt hF C.1 hl hp _), t_pageAt hF C.1 hl hp _, ↓cal_w (t_pageAt hF C.1 ho hq _), t_pageAt hF C.1 ho hq _, e4, h0, eq_false e2, f_X7_differ_80, f_X8_differ_67]
              exact ih'
      have e := key F 0 (nI 0) (by omega) (by omega)
      simp (disch := omega) only [↓bnd_i, ↓cal_s, ↓cal_n, ↓cal2_s, ↓cal2_n, cal_s, cal2_s, ↓reduceIte, fa_lit, m1_lit, m2_lit, m1_lt, m2_lt, m1_eq, m2_eq, m1_le, m2_le, le_m1, le_m2, lt_m1, lt_m2, m12, m21, m1_m1, n_lt, n_le, n_eq, lt_t, lt_f, le_t, le_f, eq_t, eq_f, n_cl, inb_ok, n_add, pk_mul, pk_sub, n_rem, n_div, n_dec, n_mx, n_mn, eq_m1, eq_m2, ss_same, ss_ne, ss_r, ss_l, sr_f, sr_l, sr_same, sr_ne, sw_f, sw_l, sw_at, sw_ne, pk_us, pk_un, bI_t, bI_f, not_true_eq_false, not_false_eq_true, eq_self, and_true, true_and, and_false, false_and, or_true, true_or, or_false, false_or, decide_true, decide_false, Bool.false_eq_true, Bool.true_eq_false, ↓cal_w (d_hasPlace C.1 C.2 _ _), d_hasPlace C.1 C.2 _ _, ↓cal_w (t_isAt C.1 _ _), t_isAt C.1 _ _, c, d]
      exact e
