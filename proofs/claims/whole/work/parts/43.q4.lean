/-! PURE: which line keeps a piece; gaps; the busiest page -/
def hd (N : Nat → Int32) (l k : Nat) : Nat := ow N l ((k + 1) * wd N)
theorem ow_s {N : Nat → Int32} (h2 : N2 N) {l p : Nat} (hl : l < nl N) (h0 : 0 < l) (h : ¬ fk N l < p) : ow N l p = ow N (pr N l) p := by
  obtain ⟨q, rfl⟩ : ∃ q, l = q + 1 := ⟨l - 1, by omega⟩
  have hp := (h2.2.1 (q + 1) (by omega) hl).2.1
  simp only [ow, owF, h, if_false, Nat.succ_ne_zero]
  exact owF_up h2 p q _ (by omega) (by omega)
theorem hd_lt {N : Nat → Int32} (h : NN N) {l k : Nat} (hl : l < nl N) : hd N l k ≤ l := ow_lt h.2.1 hl
theorem hd_in {N : Nat → Int32} (h : NN N) {k : Nat} : ∀ l, l < nl N → k * wd N < tp N l → hp N (hd N l k) k = true := by
  obtain ⟨b1, b2, b3, b4, b5, b6, b7, b8⟩ := NNb h
  have e : (k + 1) * wd N = k * wd N + wd N := Nat.succ_mul _ _
  intro l
  induction l using Nat.strongRecOn with
  | _ l ih =>
    intro hl ht
    unfold hd
    by_cases c : fk N l < (k + 1) * wd N
    · rw [ow_self c]
      exact decide_eq_true ⟨c, ht⟩
    · have h0 : 0 < l := by
        rcases Nat.eq_zero_or_pos l with h0 | h0
        · subst h0
          exact absurd (show fk N 0 < (k + 1) * wd N by simp [fk]; omega) c
        · exact h0
      have hp := h.2.1.2.1 l h0 hl
      rw [ow_s h.2.1 hl h0 c]
      exact ih (pr N l) (by omega) (by omega) (by omega)
theorem d_keeperOf {F : Nat} (hF : 10 < F) {σ : St} {N : Nat → Int32} (h : NN N) (j : JJ σ N) {l k : Nat} (hl : l < nl N) (hk : k < 120) : f_X2_keeperOf F σ (nI l) (nI k) = some (nI (hd N l k)) := by
  obtain ⟨b1, b2, b3, b4, b5, b6, b7, b8⟩ := NNb h
  obtain ⟨e4, e5, e6, e7, e8⟩ := JJf h j
  have hm : (k + 1) * wd N ≤ 120 * 8 := Nat.mul_le_mul (by omega) b4
  have hm0 : 1 * wd N ≤ (k + 1) * wd N := Nat.mul_le_mul (by omega) (Nat.le_refl _)
  have key : ∀ n l s, l < nl N → l + s < 8 → l < n → f_X2_keeperOf_5 F n σ (nI k) (nI l) (nI s) = some (nI (ow N l ((k + 1) * wd N))) := by
    intro n
    induction n with
    | zero => intro l s _ _ h; omega
    | succ n ih =>
      intro l s hl hs hn
      rw [f_X2_keeperOf_5]
      have hf := fk_le h.2.1 hl
      have ht := (h.2.1.1 l hl).2
      by_cases c : fk N l < (k + 1) * wd N
      · rw [ow_self c]
        simp (disch := omega) only [↓bnd_i, ↓cal_s, ↓cal_n, ↓cal2_s, ↓cal2_n, cal_s, cal2_s, ↓reduceIte, fa_lit, m1_lit, m2_lit, m1_lt, m2_lt, m1_eq, m2_eq, m1_le, m2_le, le_m1, le_m2, lt_m1, lt_m2, m12, m21, m1_m1, n_lt, n_le, n_eq, lt_t, lt_f, le_t, le_f, eq_t, eq_f, n_cl, inb_ok, n_add, pk_mul, pk_sub, n_rem, n_div, n_dec, n_mx, n_mn, eq_m1, eq_m2, ss_same, ss_ne, ss_r, ss_l, sr_f, sr_l, sr_same, sr_ne, sw_f, sw_l, sw_at, sw_ne, pk_us, pk_un, bI_t, bI_f, not_true_eq_false, not_false_eq_true, eq_self, and_true, true_and, and_false, false_and, or_true, true_or, or_false, false_or, decide_true, decide_false, Bool.false_eq_true, Bool.true_eq_false, ↓cal_w (d_hasLine h.1 j.1 _), d_hasLine h.1 j.1 _, isN_t hl (show nl N ≤ 2 ^ 31 by omega), e5, j_fork j hl]
      · have h0 : 0 < l := by
          rcases Nat.eq_zero_or_pos l with h0 | h0
          · subst h0
            exact absurd (show fk N 0 < (k + 1) * wd N by simp [fk]; omega) c
          · exact h0
        have hp := h.2.1.2.1 l h0 hl
        rw [ow_s h.2.1 hl h0 c]
        have ih' := ih (pr N l) (s + 1) (by omega) (by omega) (by omega)
        simp (disch := omega) only [↓bnd_i, ↓cal_s, ↓cal_n, ↓cal2_s, ↓cal2_n, cal_s, cal2_s, ↓reduceIte, fa_lit, m1_lit, m2_lit, m1_lt, m2_lt, m1_eq, m2_eq, m1_le, m2_le, le_m1, le_m2, lt_m1, lt_m2, m12, m21, m1_m1, n_lt, n_le, n_eq, lt_t, lt_f, le_t, le_f, eq_t, eq_f, n_cl, inb_ok, n_add, pk_mul, pk_sub, n_rem, n_div, n_dec, n_mx, n_mn, eq_m1, eq_m2, ss_same, ss_ne, ss_r, ss_l, sr_f, sr_l, sr_same, sr_ne, sw_f, sw_l, sw_at, sw_ne, pk_us, pk_un, bI_t, bI_f, not_true_eq_false, not_false_eq_true, eq_self, and_true, true_and, and_false, false_and, or_true, true_or, or_false, false_or, decide_true, decide_false, Bool.false_eq_true, Bool.true_eq_false, ↓cal_w (d_hasLine h.1 j.1 _), d_hasLine h.1 j.1 _, isN_t hl (show nl N ≤ 2 ^ 31 by omega), e5, j_fork j hl, j_par j hl h0]
        exact ih'
  exact key F l 0 hl (by omega) (by omega)
theorem t_holderOf {F : Nat} (hF : 10 < F) {τ : St} (h : NN (nw τ)) {l k : Nat} (hl : l < nl (nw τ)) (hk : k < 120) : f_X8_holderOf F τ (nI l) (nI k) = some (nI (hd (nw τ) l k)) := by
  obtain ⟨b1, b2, b3, b4, b5, b6, b7, b8⟩ := NNb h
  have key : ∀ n l, l < nl (nw τ) → l < n → f_X8_holderOf_2 F n τ (nI k) (nI l) = some (nI (ow (nw τ) l ((k + 1) * wd (nw τ)))) := by
    intro n
    induction n with
    | zero => intro l _ h; omega
    | succ n ih =>
      intro l hl hn
      rw [f_X8_holderOf_2]
      have hf := fk_le h.2.1 hl
      have ht := (h.2.1.1 l hl).2
      have hq := Nat.zero_le (fk (nw τ) l / wd (nw τ))
      have hq2 : fk (nw τ) l / wd (nw τ) ≤ fk (nw τ) l := Nat.div_le_self _ _
      have hw := lt_mul_iff (f := fk (nw τ) l) (k := k) (w := wd (nw τ)) (by omega)
      by_cases h0 : l = 0
      · subst h0
        simp (disch := omega) only [↓bnd_i, ↓cal_s, ↓cal_n, ↓cal2_s, ↓cal2_n, cal_s, cal2_s, ↓reduceIte, fa_lit, m1_lit, m2_lit, m1_lt, m2_lt, m1_eq, m2_eq, m1_le, m2_le, le_m1, le_m2, lt_m1, lt_m2, m12, m21, m1_m1, n_lt, n_le, n_eq, lt_t, lt_f, le_t, le_f, eq_t, eq_f, n_cl, inb_ok, n_add, pk_mul, pk_sub, n_rem, n_div, n_dec, n_mx, n_mn, eq_m1, eq_m2, ss_same, ss_ne, ss_r, ss_l, sr_f, sr_l, sr_same, sr_ne, sw_f, sw_l, sw_at, sw_ne, pk_us, pk_un, bI_t, bI_f, not_true_eq_false, not_false_eq_true, eq_self, and_true, true_and, and_false, false_and, or_true, true_or, or_false, false_or, decide_true, decide_false, Bool.false_eq_true, Bool.true_eq_false, show ow (nw τ) 0 ((k + 1) * wd (nw τ)) = 0 from rfl]
      · by_cases c : fk (nw τ) l < (k + 1) * wd (nw τ)
        · rw [ow_self c]
          have c' := hw.mpr c
          simp (disch := omega) only [↓bnd_i, ↓cal_s, ↓cal_n, ↓cal2_s, ↓cal2_n, cal_s, cal2_s, ↓reduceIte, fa_lit, m1_lit, m2_lit, m1_lt, m2_lt, m1_eq, m2_eq, m1_le, m2_le, le_m1, le_m2, lt_m1, lt_m2, m12, m21, m1_m1, n_lt, n_le, n_eq, lt_t, lt_f, le_t, le_f, eq_t, eq_f, n_cl, inb_ok, n_add, pk_mul, pk_sub, n_rem, n_div, n_dec, n_mx, n_mn, eq_m1, eq_m2, ss_same, ss_ne, ss_r, ss_l, sr_f, sr_l, sr_same, sr_ne, sw_f, sw_l, sw_at, sw_ne, pk_us, pk_un, bI_t, bI_f, not_true_eq_false, not_false_eq_true, eq_self, and_true, true_and, and_false, false_and, or_true, true_or, or_false, false_or, decide_true, decide_false, Bool.false_eq_true, Bool.true_eq_false, ↓cal_w (t_firstPiece h.1 h.2.1 hl), t_firstPiece h.1 h.2.1 hl]
        · have hp := h.2.1.2.1 l (by omega) hl
          rw [ow_s h.2.1 hl (by omega) c]
          have c' : ¬ fk (nw τ) l / wd (nw τ) ≤ k := fun e => c (hw.mp e)
          have ih' := ih (pr (nw τ) l) (by omega) (by omega)
          simp (disch := omega) only [↓bnd_i, ↓cal_s, ↓cal_n, ↓cal2_s, ↓cal2_n, cal_s, cal2_s, ↓reduceIte, fa_lit, m1_lit, m2_lit, m1_lt, m2_lt, m1_eq, m2_eq, m1_le, m2_le, le_m1, le_m2, lt_m1, lt_m2, m12, m21, m1_m1, n_lt, n_le, n_eq, lt_t, lt_f, le_t, le_f, eq_t, eq_f, n_cl, inb_ok, n_add, pk_mul, pk_sub, n_rem, n_div, n_dec, n_mx, n_mn, eq_m1, eq_m2, ss_same, ss_ne, ss_r, ss_l, sr_f, sr_l, sr_same, sr_ne, sw_f, sw_l, sw_at, sw_ne, pk_us, pk_un, bI_t, bI_f, not_true_eq_false, not_false_eq_true, eq_self, and_true, true_and, and_false, false_and, or_true, true_or, or_false, false_or, decide_true, decide_false, Bool.false_eq_true, Bool.true_eq_false, ↓cal_w (t_firstPiece h.1 h.2.1 hl), t_firstPiece h.1 h.2.1 hl, ↓cal_w (t_parentOf (τ := τ) (show l < 8 by omega)), t_parentOf (τ := τ) (show l < 8 by omega), hp.1]
          exact ih'
  exact key F l hl (by omega)
/-- whether a piece is at hand -/
def ah (N : Nat → Int32) (l k : Nat) : Bool := decide (0 < kp N l k ∨ l = nl N - 1 ∧ tp N l < (k + 1) * wd N)
def hin (N : Nat → Int32) (l k : Nat) : Nat := if kp N l k = 3 then 5 else if ah N l k then 0 else 4
theorem d_hindranceOf {F : Nat} {σ : St} {N : Nat → Int32} (h : NN N) (j : JJ σ N) {l k : Nat} (hl : l < nl N) (hk : k < 120) (c : hp N l k = true) : f_X2_hindranceOf F σ (nI l) (nI k) = some (nI (hin N l k)) := by
  obtain ⟨b1, b2, b3, b4, b5, b6, b7, b8⟩ := NNb h
  obtain ⟨e4, e5, e6, e7, e8⟩ := JJf h j
  have hm : (k + 1) * wd N ≤ 120 * 8 := Nat.mul_le_mul (by omega) b4
  have ht := (h.2.1.1 l hl).2
  have hk4 := (h.2.2.1.1 l k (by omega) hk).2
  unfold f_X2_hindranceOf hin ah
  by_cases c3 : kp N l k = 3
  · simp (disch := omega) only [↓bnd_i, ↓cal_s, ↓cal_n, ↓cal2_s, ↓cal2_n, cal_s, cal2_s, ↓reduceIte, fa_lit, m1_lit, m2_lit, m1_lt, m2_lt, m1_eq, m2_eq, m1_le, m2_le, le_m1, le_m2, lt_m1, lt_m2, m12, m21, m1_m1, n_lt, n_le, n_eq, lt_t, lt_f, le_t, le_f, eq_t, eq_f, n_cl, inb_ok, n_add, pk_mul, pk_sub, n_rem, n_div, n_dec, n_mx, n_mn, eq_m1, eq_m2, ss_same, ss_ne, ss_r, ss_l, sr_f, sr_l, sr_same, sr_ne, sw_f, sw_l, sw_at, sw_ne, pk_us, pk_un, bI_t, bI_f, not_true_eq_false, not_false_eq_true, eq_self, and_true, true_and, and_false, false_and, or_true, true_or, or_false, false_or, decide_true, decide_false, Bool.false_eq_true, Bool.true_eq_false, ↓cal_w (d_hasPiece h j hl hk), d_hasPiece h j hl hk, c, j_con j hl hk, c3]
  · by_cases c0 : 0 < kp N l k
    · by_cases c1 : l = nl N - 1
      · by_cases c2 : tp N l < (k + 1) * wd N
        · simp (disch := omega) only [↓bnd_i, ↓cal_s, ↓cal_n, ↓cal2_s, ↓cal2_n, cal_s, cal2_s, ↓reduceIte, fa_lit, m1_lit, m2_lit, m1_lt, m2_lt, m1_eq, m2_eq, m1_le, m2_le, le_m1, le_m2, lt_m1, lt_m2, m12, m21, m1_m1, n_lt, n_le, n_eq, lt_t, lt_f, le_t, le_f, eq_t, eq_f, n_cl, inb_ok, n_add, pk_mul, pk_sub, n_rem, n_div, n_dec, n_mx, n_mn, eq_m1, eq_m2, ss_same, ss_ne, ss_r, ss_l, sr_f, sr_l, sr_same, sr_ne, sw_f, sw_l, sw_at, sw_ne, pk_us, pk_un, bI_t, bI_f, not_true_eq_false, not_false_eq_true, eq_self, and_true, true_and, and_false, false_and, or_true, true_or, or_false, false_or, decide_true, decide_false, Bool.false_eq_true, Bool.true_eq_false, ↓cal_w (d_hasPiece h j hl hk), d_hasPiece h j hl hk, c, j_con j hl hk, e5, e6, j_tip j hl, f_X2_hindranceOf_61, f_X2_hindranceOf_62]
        · simp (disch := omega) only [↓bnd_i, ↓cal_s, ↓cal_n, ↓cal2_s, ↓cal2_n, cal_s, cal2_s, ↓reduceIte, fa_lit, m1_lit, m2_lit, m1_lt, m2_lt, m1_eq, m2_eq, m1_le, m2_le, le_m1, le_m2, lt_m1, lt_m2, m12, m21, m1_m1, n_lt, n_le, n_eq, lt_t, lt_f, le_t, le_f, eq_t, eq_f, n_cl, inb_ok, n_add, pk_mul, pk_sub, n_rem, n_div, n_dec, n_mx, n_mn, eq_m1, eq_m2, ss_same, ss_ne, ss_r, ss_l, sr_f, sr_l, sr_same, sr_ne, sw_f, sw_l, sw_at, sw_ne, pk_us, pk_un, bI_t, bI_f, not_true_eq_false, not_false_eq_true, eq_self, and_true, true_and, and_false, false_and, or_true, true_or, or_false, false_or, decide_true, decide_false, Bool.false_eq_true, Bool.true_eq_false, ↓cal_w (d_hasPiece h j hl hk), d_hasPiece h j hl hk, c, j_con j hl hk, e5, e6, j_tip j hl, f_X2_hindranceOf_61, f_X2_hindranceOf_62]
      · simp (disch := omega) only [↓bnd_i, ↓cal_s, ↓cal_n, ↓cal2_s, ↓cal2_n, cal_s, cal2_s, ↓reduceIte, fa_lit, m1_lit, m2_lit, m1_lt, m2_lt, m1_eq, m2_eq, m1_le, m2_le, le_m1, le_m2, lt_m1, lt_m2, m12, m21, m1_m1, n_lt, n_le, n_eq, lt_t, lt_f, le_t, le_f, eq_t, eq_f, n_cl, inb_ok, n_add, pk_mul, pk_sub, n_rem, n_div, n_dec, n_mx, n_mn, eq_m1, eq_m2, ss_same, ss_ne, ss_r, ss_l, sr_f, sr_l, sr_same, sr_ne, sw_f, sw_l, sw_at, sw_ne, pk_us, pk_un, bI_t, bI_f, not_true_eq_false, not_false_eq_true, eq_self, and_true, true_and, and_false, false_and, or_true, true_or, or_false, false_or, decide_true, decide_false, Bool.false_eq_true, Bool.true_eq_false, ↓cal_w (d_hasPiece h j hl hk), d_hasPiece h j hl hk, c, j_con j hl hk, e5, e6, j_tip j hl, f_X2_hindranceOf_61, f_X2_hindranceOf_62]
    · by_cases c1 : l = nl N - 1
      · by_cases c2 : tp N l < (k + 1) * wd N
        · simp (disch := omega) only [↓bnd_i, ↓cal_s, ↓cal_n, ↓cal2_s, ↓cal2_n, cal_s, cal2_s, ↓reduceIte, fa_lit, m1_lit, m2_lit, m1_lt, m2_lt, m1_eq, m2_eq, m1_le, m2_le, le_m1, le_m2, lt_m1, lt_m2, m12, m21, m1_m1, n_lt, n_le, n_eq, lt_t, lt_f, le_t, le_f, eq_t, eq_f, n_cl, inb_ok, n_add, pk_mul, pk_sub, n_rem, n_div, n_dec, n_mx, n_mn, eq_m1, eq_m2, ss_same, ss_ne, ss_r, ss_l, sr_f, sr_l, sr_same, sr_ne, sw_f, sw_l, sw_at, sw_ne, pk_us, pk_un, bI_t, bI_f, not_true_eq_false, not_false_eq_true, eq_self, and_true, true_and, and_false, false_and, or_true, true_or, or_false, false_or, decide_true, decide_false, Bool.false_eq_true, Bool.true_eq_false, ↓cal_w (d_hasPiece h j hl hk), d_hasPiece h j hl hk, c, j_con j hl hk, e5, e6, j_tip j hl, f_X2_hindranceOf_61, f_X2_hindranceOf_62]
        · simp (disch := omega) only [↓bnd_i, ↓cal_s, ↓cal_n, ↓cal2_s, ↓cal2_n, cal_s, cal2_s, ↓reduceIte, fa_lit, m1_lit, m2_lit, m1_lt, m2_lt, m1_eq, m2_eq, m1_le, m2_le, le_m1, le_m2, lt_m1, lt_m2, m12, m21, m1_m1, n_lt, n_le, n_eq, lt_t, lt_f, le_t, le_f, eq_t, eq_f, n_cl, inb_ok, n_add, pk_mul, pk_sub, n_rem, n_div, n_dec, n_mx, n_mn, eq_m1, eq_m2, ss_same, ss_ne, ss_r, ss_l, sr_f, sr_l, sr_same, sr_ne, sw_f, sw_l, sw_at, sw_ne, pk_us, pk_un, bI_t, bI_f, not_true_eq_false, not_false_eq_true, eq_self, and_true, true_and, and_false, false_and, or_true, true_or, or_false, false_or, decide_true, decide_false, Bool.false_eq_true, Bool.true_eq_false, ↓cal_w (d_hasPiece h j hl hk), d_hasPiece h j hl hk, c, j_con j hl hk, e5, e6, j_tip j hl, f_X2_hindranceOf_61, f_X2_hindranceOf_62]
      · simp (disch := omega) only [↓bnd_i, ↓cal_s, ↓cal_n, ↓cal2_s, ↓cal2_n, cal_s, cal2_s, ↓reduceIte, fa_lit, m1_lit, m2_lit, m1_lt, m2_lt, m1_eq, m2_eq, m1_le, m2_le, le_m1, le_m2, lt_m1, lt_m2, m12, m21, m1_m1, n_lt, n_le, n_eq, lt_t, lt_f, le_t, le_f, eq_t, eq_f, n_cl, inb_ok, n_add, pk_mul, pk_sub, n_rem, n_div, n_dec, n_mx, n_mn, eq_m1, eq_m2, ss_same, ss_ne, ss_r, ss_l, sr_f, sr_l, sr_same, sr_ne, sw_f, sw_l, sw_at, sw_ne, pk_us, pk_un, bI_t, bI_f, not_true_eq_false, not_false_eq_true, eq_self, and_true, true_and, and_false, false_and, or_true, true_or, or_false, false_or, decide_true, decide_false, Bool.false_eq_true, Bool.true_eq_false, ↓cal_w (d_hasPiece h j hl hk), d_hasPiece h j hl hk, c, j_con j hl hk, e5, e6, j_tip j hl, f_X2_hindranceOf_61, f_X2_hindranceOf_62]
theorem t_isAtHand {F : Nat} {τ : St} (h : NN (nw τ)) {l k : Nat} (hl : l < nl (nw τ)) (hk : k < 120) : f_X8_isAtHand F τ (nI l) (nI k) = some (bI (ah (nw τ) l k)) := by
  obtain ⟨b1, b2, b3, b4, b5, b6, b7, b8⟩ := NNb h
  have hm : (k + 1) * wd (nw τ) ≤ 120 * 8 := Nat.mul_le_mul (by omega) b4
  have ht := h.2.1.1 l hl
  have hk4 := (h.2.2.1.1 l k (by omega) hk).2
  have h1 : τ.2.1 19 1 = nI (wd (nw τ)) := h.1.2.1.1
  have h3 : τ.2.1 19 3 = nI (nl (nw τ) - 1) := h.1.2.2.2.1
  unfold f_X8_isAtHand ah
  by_cases c0 : 0 < kp (nw τ) l k
  · simp (disch := omega) only [↓bnd_i, ↓cal_s, ↓cal_n, ↓cal2_s, ↓cal2_n, cal_s, cal2_s, ↓reduceIte, fa_lit, m1_lit, m2_lit, m1_lt, m2_lt, m1_eq, m2_eq, m1_le, m2_le, le_m1, le_m2, lt_m1, lt_m2, m12, m21, m1_m1, n_lt, n_le, n_eq, lt_t, lt_f, le_t, le_f, eq_t, eq_f, n_cl, inb_ok, n_add, pk_mul, pk_sub, n_rem, n_div, n_dec, n_mx, n_mn, eq_m1, eq_m2, ss_same, ss_ne, ss_r, ss_l, sr_f, sr_l, sr_same, sr_ne, sw_f, sw_l, sw_at, sw_ne, pk_us, pk_un, bI_t, bI_f, not_true_eq_false, not_false_eq_true, eq_self, and_true, true_and, and_false, false_and, or_true, true_or, or_false, false_or, decide_true, decide_false, Bool.false_eq_true, Bool.true_eq_false, ↓cal_w (t_keptOf h (show l < 8 by omega) hk), t_keptOf h (show l < 8 by omega) hk]
  · by_cases c1 : l = nl (nw τ) - 1
    · by_cases c2 : tp (nw τ) l < (k + 1) * wd (nw τ)
      · simp (disch := omega) only [↓bnd_i, ↓cal_s, ↓cal_n, ↓cal2_s, ↓cal2_n, cal_s, cal2_s, ↓reduceIte, fa_lit, m1_lit, m2_lit, m1_lt, m2_lt, m1_eq, m2_eq, m1_le, m2_le, le_m1, le_m2, lt_m1, lt_m2, m12, m21, m1_m1, n_lt, n_le, n_eq, lt_t, lt_f, le_t, le_f, eq_t, eq_f, n_cl, inb_ok, n_add, pk_mul, pk_sub, n_rem, n_div, n_dec, n_mx, n_mn, eq_m1, eq_m2, ss_same, ss_ne, ss_r, ss_l, sr_f, sr_l, sr_same, sr_ne, sw_f, sw_l, sw_at, sw_ne, pk_us, pk_un, bI_t, bI_f, not_true_eq_false, not_false_eq_true, eq_self, and_true, true_and, and_false, false_and, or_true, true_or, or_false, false_or, decide_true, decide_false, Bool.false_eq_true, Bool.true_eq_false, ↓cal_w (t_keptOf h (show l < 8 by omega) hk), t_keptOf h (show l < 8 by omega) hk, ↓cal_w (t_placeOf (τ := τ) (show l < 8 by omega)), t_placeOf (τ := τ) (show l < 8 by omega), h1, h3, ht.1]
      · simp (disch := omega) only [↓bnd_i, ↓cal_s, ↓cal_n, ↓cal2_s, ↓cal2_n, cal_s, cal2_s, ↓reduceIte, fa_lit, m1_lit, m2_lit, m1_lt, m2_lt, m1_eq, m2_eq, m1_le, m2_le, le_m1, le_m2, lt_m1, lt_m2, m12, m21, m1_m1, n_lt, n_le, n_eq, lt_t, lt_f, le_t, le_f, eq_t, eq_f, n_cl, inb_ok, n_add, pk_mul, pk_sub, n_rem, n_div, n_dec, n_mx, n_mn, eq_m1, eq_m2, ss_same, ss_ne, ss_r, ss_l, sr_f, sr_l, sr_same, sr_ne, sw_f, sw_l, sw_at, sw_ne, pk_us, pk_un, bI_t, bI_f, not_true_eq_false, not_false_eq_true, eq_self, and_true, true_and, and_false, false_and, or_true, true_or, or_false, false_or, decide_true, decide_false, Bool.false_eq_true, Bool.true_eq_false, ↓cal_w (t_keptOf h (show l < 8 by omega) hk), t_keptOf h (show l < 8 by omega) hk, ↓cal_w (t_placeOf (τ := τ) (show l < 8 by omega)), t_placeOf (τ := τ) (show l < 8 by omega), h1, h3, ht.1]
    · simp (disch := omega) only [↓bnd_i, ↓cal_s, ↓cal_n, ↓cal2_s, ↓cal2_n, cal_s, cal2_s, ↓reduceIte, fa_lit, m1_lit, m2_lit, m1_lt, m2_lt, m1_eq, m2_eq, m1_le, m2_le, le_m1, le_m2, lt_m1, lt_m2, m12, m21, m1_m1, n_lt, n_le, n_eq, lt_t, lt_f, le_t, le_f, eq_t, eq_f, n_cl, inb_ok, n_add, pk_mul, pk_sub, n_rem, n_div, n_dec, n_mx, n_mn, eq_m1, eq_m2, ss_same, ss_ne, ss_r, ss_l, sr_f, sr_l, sr_same, sr_ne, sw_f, sw_l, sw_at, sw_ne, pk_us, pk_un, bI_t, bI_f, not_true_eq_false, not_false_eq_true, eq_self, and_true, true_and, and_false, false_and, or_true, true_or, or_false, false_or, decide_true, decide_false, Bool.false_eq_true, Bool.true_eq_false, ↓cal_w (t_keptOf h (show l < 8 by omega) hk), t_keptOf h (show l < 8 by omega) hk, ↓cal_w (t_placeOf (τ := τ) (show l < 8 by omega)), t_placeOf (τ := τ) (show l < 8 by omega), h1, h3, ht.1]
theorem hin4 {N : Nat → Int32} {l k : Nat} : hin N l k = 4 ↔ ah N l k = false := by
  unfold hin ah
  by_cases c3 : kp N l k = 3
  · simp [c3]
  · by_cases c : (0 < kp N l k ∨ l = nl N - 1 ∧ tp N l < (k + 1) * wd N)
    · simp [c3, decide_eq_true c]
    · simp [c3, decide_eq_false c]
theorem hin_le {N : Nat → Int32} {l k : Nat} : hin N l k ≤ 5 := by
  unfold hin
  split
  · omega
  · split <;> omega
theorem q_gaps {F : Nat} (hF : 300 < F) {σ τ : St} (C : Core σ τ) (x y : Int32) : Qy (f_X7_gaps F σ x y) (f_X8_gaps F τ x y) := by
  obtain ⟨b1, b2, b3, b4, b5, b6, b7, b8⟩ := NNb C.1
  have h1 : τ.2.1 19 1 = nI (wd (nw τ)) := C.1.1.2.1.1
  have hin' := in_isN (F := F) (τ := τ) (x := y) (n := 2) (by omega) (by omega)
  rw [pk_sub (by omega)] at hin'
  unfold f_X7_gaps f_X8_gaps
  cases c : isN x (nl (nw τ))
  · simp (disch := omega) only [↓bnd_i, ↓cal_s, ↓cal_n, ↓cal2_s, ↓cal2_n, cal_s, cal2_s, ↓reduceIte, fa_lit, m1_lit, m2_lit, m1_lt, m2_lt, m1_eq, m2_eq, m1_le, m2_le, le_m1, le_m2, lt_m1, lt_m2, m12, m21, m1_m1, n_lt, n_le, n_eq, lt_t, lt_f, le_t, le_f, eq_t, eq_f, n_cl, inb_ok, n_add, pk_mul, pk_sub, n_rem, n_div, n_dec, n_mx, n_mn, eq_m1, eq_m2, ss_same, ss_ne, ss_r, ss_l, sr_f, sr_l, sr_same, sr_ne, sw_f, sw_l, sw_at, sw_ne, pk_us, pk_un, bI_t, bI_f, not_true_eq_false, not_false_eq_true, eq_self, and_true, true_and, and_false, false_and, or_true, true_or, or_false, false_or, decide_true, decide_false, Bool.false_eq_true, Bool.true_eq_false, ↓cal_w (d_hasLine C.1.1 C.2.1 x), d_hasLine C.1.1 C.2.1 x, ↓cal_w (t_isLine C.1.1 x), t_isLine C.1.1 x, c]
    exact Qy.mk
  · obtain ⟨l, hl, rfl⟩ := isN_e c (by omega)
    have ht := C.1.2.1.1 l hl
    cases d : isN y 2
    · rw [d] at hin'
      rcases n_ex y with hy | ⟨i, hi, rfl⟩
      · simp (disch := omega) only [↓bnd_i, ↓cal_s, ↓cal_n, ↓cal2_s, ↓cal2_n, cal_s, cal2_s, ↓reduceIte, fa_lit, m1_lit, m2_lit, m1_lt, m2_lt, m1_eq, m2_eq, m1_le, m2_le, le_m1, le_m2, lt_m1, lt_m2, m12, m21, m1_m1, n_lt, n_le, n_eq, lt_t, lt_f, le_t, le_f, eq_t, eq_f, n_cl, inb_ok, n_add, pk_mul, pk_sub, n_rem, n_div, n_dec, n_mx, n_mn, eq_m1, eq_m2, ss_same, ss_ne, ss_r, ss_l, sr_f, sr_l, sr_same, sr_ne, sw_f, sw_l, sw_at, sw_ne, pk_us, pk_un, bI_t, bI_f, not_true_eq_false, not_false_eq_true, eq_self, and_true, true_and, and_false, false_and, or_true, true_or, or_false, false_or, decide_true, decide_false, Bool.false_eq_true, Bool.true_eq_false, ↓cal_w (d_hasLine C.1.1 C.2.1 _), d_hasLine C.1.1 C.2.1 _, ↓cal_w (t_isLine C.1.1 _), t_isLine C.1.1 _, ↓cal_w (hin'), hin', c, eq_true (show y < nI 0 from hy)]
        exact Qy.mk
      · rw [isN_n hi] at d
        have d' := of_decide_eq_false d
        simp (disch := omega) only [↓bnd_i, ↓cal_s, ↓cal_n, ↓cal2_s, ↓cal2_n, cal_s, cal2_s, ↓reduceIte, fa_lit, m1_lit, m2_lit, m1_lt, m2_lt, m1_eq, m2_eq, m1_le, m2_le, le_m1, le_m2, lt_m1, lt_m2, m12, m21, m1_m1, n_lt, n_le, n_eq, lt_t, lt_f, le_t, le_f, eq_t, eq_f, n_cl, inb_ok, n_add, pk_mul, pk_sub, n_rem, n_div, n_dec, n_mx, n_mn, eq_m1, eq_m2, ss_same, ss_ne, ss_r, ss_l, sr_f, sr_l, sr_same, sr_ne, sw_f, sw_l, sw_at, sw_ne, pk_us, pk_un, bI_t, bI_f, not_true_eq_false, not_false_eq_true, eq_self, and_true, true_and, and_false, false_and, or_true, true_or, or_false, false_or, decide_true, decide_false, Bool.false_eq_true, Bool.true_eq_false, ↓cal_w (d_hasLine C.1.1 C.2.1 _), d_hasLine C.1.1 C.2.1 _, ↓cal_w (t_isLine C.1.1 _), t_isLine C.1.1 _, ↓cal_w (hin'), hin', c]
        exact Qy.mk
    · rw [d] at hin'
      obtain ⟨i, hi, rfl⟩ := isN_e d (by omega)
      have hE : ∃ e : Nat, e ≤ 120 ∧ (∀ k, k < e ↔ k * wd (nw τ) < tp (nw τ) l) ∧ cal (f_X2_tipOf F σ (nI l)) (fun r5 => f_X2_pieceHolding F σ r5) = some (if e = 0 then m1 else nI (e - 1)) := by
        by_cases c0 : tp (nw τ) l = 0
        · refine ⟨0, by omega, fun k => by omega, ?_⟩
          simp (disch := omega) only [↓bnd_i, ↓cal_s, ↓cal_n, ↓cal2_s, ↓cal2_n, cal_s, cal2_s, ↓reduceIte, fa_lit, m1_lit, m2_lit, m1_lt, m2_lt, m1_eq, m2_eq, m1_le, m2_le, le_m1, le_m2, lt_m1, lt_m2, m12, m21, m1_m1, n_lt, n_le, n_eq, lt_t, lt_f, le_t, le_f, eq_t, eq_f, n_cl, inb_ok, n_add, pk_mul, pk_sub, n_rem, n_div, n_dec, n_mx, n_mn, eq_m1, eq_m2, ss_same, ss_ne, ss_r, ss_l, sr_f, sr_l, sr_same, sr_ne, sw_f, sw_l, sw_at, sw_ne, pk_us, pk_un, bI_t, bI_f, not_true_eq_false, not_false_eq_true, eq_self, and_true, true_and, and_false, false_and, or_true, true_or, or_false, false_or, decide_true, decide_false, Bool.false_eq_true, Bool.true_eq_false, ↓cal_w (d_tipOf C.1 C.2 hl), d_tipOf C.1 C.2 hl, ↓cal_w (d_pieceHolding0), d_pieceHolding0, c0]
        · have hd := div120 (p := tp (nw τ) l) (w := wd (nw τ)) ht.2 b3 (by omega)
          refine ⟨(tp (nw τ) l - 1) / wd (nw τ) + 1, by omega, fun k => ?_, ?_⟩
          · have := Nat.le_div_iff_mul_le (x := k) (y := tp (nw τ) l - 1) (show 0 < wd (nw τ) by omega)
            omega
          · simp (disch := omega) only [↓bnd_i, ↓cal_s, ↓cal_n, ↓cal2_s, ↓cal2_n, cal_s, cal2_s, ↓reduceIte, fa_lit, m1_lit, m2_lit, m1_lt, m2_lt, m1_eq, m2_eq, m1_le, m2_le, le_m1, le_m2, lt_m1, lt_m2, m12, m21, m1_m1, n_lt, n_le, n_eq, lt_t, lt_f, le_t, le_f, eq_t, eq_f, n_cl, inb_ok, n_add, pk_mul, pk_sub, n_rem, n_div, n_dec, n_mx, n_mn, eq_m1, eq_m2, ss_same, ss_ne, ss_r, ss_l, sr_f, sr_l, sr_same, sr_ne, sw_f, sw_l, sw_at, sw_ne, pk_us, pk_un, bI_t, bI_f, not_true_eq_false, not_false_eq_true, eq_self, and_true, true_and, and_false, false_and, or_true, true_or, or_false, false_or, decide_true, decide_false, Bool.false_eq_true, Bool.true_eq_false, ↓cal_w (d_tipOf C.1 C.2 hl), d_tipOf C.1 C.2 hl, ↓cal_w (d_pieceHolding C.1 C.2 (show 1 ≤ tp (nw τ) l by omega) (show tp (nw τ) l < 2 ^ 31 by omega)), d_pieceHolding C.1 C.2 (show 1 ≤ tp (nw τ) l by omega) (show tp (nw τ) l < 2 ^ 31 by omega), Nat.add_sub_cancel]
            rw [if_neg (Nat.succ_ne_zero _)]
      obtain ⟨e, he, hiff, hcal⟩ := hE
      have hcmp : ∀ k, k ≤ 120 → ((if e = 0 then m1 else nI (e - 1)) < nI k) = (e ≤ k) := by
        intro k hk
        by_cases e0 : e = 0
        · rw [if_pos e0, m1_lt (by omega)]; exact (eq_true (by omega)).symm
        · rw [if_neg e0, n_lt (by omega) (by omega)]; exact propext ⟨fun h => by omega, fun h => by omega⟩
      generalize (if e = 0 then m1 else nI (e - 1)) = ex at hcmp hcal
      have key : ∀ n k m f, k ≤ e → m ≤ k → e - k < n → Qy (f_X7_gaps_48 F n σ (nI l) (nI i) (nI m) f ex (nI k)) (f_X8_gaps_28 F n τ (nI l) (nI i) (nI m) f (nI k)) := by
        intro n
        induction n with
        | zero => intro k m f _ _ h; omega
        | succ n ih =>
          intro k m f hk hm hn
          rw [f_X7_gaps_48, f_X8_gaps_28]
          have hmul : k * wd (nw τ) ≤ 120 * 8 := Nat.mul_le_mul (by omega) b4
          by_cases e1 : k = e
          · have h2 : ¬ k * wd (nw τ) < tp (nw τ) l := fun h => by have := (hiff k).mpr h; omega
            have hlt : (ex < nI k) = True := by rw [hcmp k (by omega)]; exact eq_true (by omega)
            by_cases i0 : i = 0
            · simp (disch := omega) only [↓bnd_i, ↓cal_s, ↓cal_n, ↓cal2_s, ↓cal2_n, cal_s, cal2_s, ↓reduceIte, fa_lit, m1_lit, m2_lit, m1_lt, m2_lt, m1_eq, m2_eq, m1_le, m2_le, le_m1, le_m2, lt_m1, lt_m2, m12, m21, m1_m1, n_lt, n_le, n_eq, lt_t, lt_f, le_t, le_f, eq_t, eq_f, n_cl, inb_ok, n_add, pk_mul, pk_sub, n_rem, n_div, n_dec, n_mx, n_mn, eq_m1, eq_m2, ss_same, ss_ne, ss_r, ss_l, sr_f, sr_l, sr_same, sr_ne, sw_f, sw_l, sw_at, sw_ne, pk_us, pk_un, bI_t, bI_f, not_true_eq_false, not_false_eq_true, eq_self, and_true, true_and, and_false, false_and, or_true, true_or, or_false, false_or, decide_true, decide_false, Bool.false_eq_true, Bool.true_eq_false, ↓cal_w (t_placeOf (τ := τ) (show l < 8 by omega)), t_placeOf (τ := τ) (show l < 8 by omega), hlt, h1, ht.1]
              exact Qy.mk
            · simp (disch := omega) only [↓bnd_i, ↓cal_s, ↓cal_n, ↓cal2_s, ↓cal2_n, cal_s, cal2_s, ↓reduceIte, fa_lit, m1_lit, m2_lit, m1_lt, m2_lt, m1_eq, m2_eq, m1_le, m2_le, le_m1, le_m2, lt_m1, lt_m2, m12, m21, m1_m1, n_lt, n_le, n_eq, lt_t, lt_f, le_t, le_f, eq_t, eq_f, n_cl, inb_ok, n_add, pk_mul, pk_sub, n_rem, n_div, n_dec, n_mx, n_mn, eq_m1, eq_m2, ss_same, ss_ne, ss_r, ss_l, sr_f, sr_l, sr_same, sr_ne, sw_f, sw_l, sw_at, sw_ne, pk_us, pk_un, bI_t, bI_f, not_true_eq_false, not_false_eq_true, eq_self, and_true, true_and, and_false, false_and, or_true, true_or, or_false, false_or, decide_true, decide_false, Bool.false_eq_true, Bool.true_eq_false, ↓cal_w (t_placeOf (τ := τ) (show l < 8 by omega)), t_placeOf (τ := τ) (show l < 8 by omega), hlt, h1, ht.1]
              exact Qy.mk
          · have hkl := (hiff k).mp (by omega)
            have hlt : (ex < nI k) = False := by rw [hcmp k (by omega)]; exact eq_false (by omega)
            have hh := hd_in C.1 l hl hkl
            have hhl := hd_lt C.1 (k := k) hl
            have ha := d_hindranceOf (F := F) C.1 C.2 (show hd (nw τ) l k < nl (nw τ) by omega) (show k < 120 by omega) hh
            have hb := t_isAtHand (F := F) C.1 (show hd (nw τ) l k < nl (nw τ) by omega) (show k < 120 by omega)
            have hle := hin_le (N := nw τ) (l := hd (nw τ) l k) (k := k)
            have h4 := hin4 (N := nw τ) (l := hd (nw τ) l k) (k := k)
            cases e2 : ah (nw τ) (hd (nw τ) l k) k
            · have h5 := h4.mpr e2
              rw [e2] at hb
              by_cases m0 : m = 0
              · subst m0
                have ih' := ih (k + 1) (0 + 1) (nI k) (by omega) (by omega) (by omega)
                simp (disch := omega) only [↓bnd_i, ↓cal_s, ↓cal_n, ↓cal2_s, ↓cal2_n, cal_s, cal2_s, ↓reduceIte, fa_lit, m1_lit, m2_lit, m1_lt, m2_lt, m1_eq, m2_eq, m1_le, m2_le, le_m1, le_m2, lt_m1, lt_m2, m12, m21, m1_m1, n_lt, n_le, n_eq, lt_t, lt_f, le_t, le_f, eq_t, eq_f, n_cl, inb_ok, n_add, pk_mul, pk_sub, n_rem, n_div, n_dec, n_mx, n_mn, eq_m1, eq_m2, ss_same, ss_ne, ss_r, ss_l, sr_f, sr_l, sr_same, sr_ne, sw_f, sw_l, sw_at, sw_ne, pk_us, pk_un, bI_t, bI_f, not_true_eq_false, not_false_eq_true, eq_self, and_true, true_and, and_false, false_and, or_true, true_or, or_false, false_or, decide_true, decide_false, Bool.false_eq_true, Bool.true_eq_false, ↓cal_w (t_placeOf (τ := τ) (show l < 8 by omega)), t_placeOf (τ := τ) (show l < 8 by omega), ↓cal_w (d_keeperOf (show 10 < F by omega) C.1 C.2 hl (show k < 120 by omega)), d_keeperOf (show 10 < F by omega) C.1 C.2 hl (show k < 120 by omega), ↓cal_w (t_holderOf (show 10 < F by omega) C.1 hl (show k < 120 by omega)), t_holderOf (show 10 < F by omega) C.1 hl (show k < 120 by omega), ↓cal_w (ha), ha, ↓cal_w (hb), hb, hlt, h1, ht.1, h5, f_X7_gaps_89, f_X7_gaps_94, f_X8_gaps_72, f_X8_gaps_75]
                exact ih'
              · have ih' := ih (k + 1) (m + 1) f (by omega) (by omega) (by omega)
                simp (disch := omega) only [↓bnd_i, ↓cal_s, ↓cal_n, ↓cal2_s, ↓cal2_n, cal_s, cal2_s, ↓reduceIte, fa_lit, m1_lit, m2_lit, m1_lt, m2_lt, m1_eq, m2_eq, m1_le, m2_le, le_m1, le_m2, lt_m1, lt_m2, m12, m21, m1_m1, n_lt, n_le, n_eq, lt_t, lt_f, le_t, le_f, eq_t, eq_f, n_cl, inb_ok, n_add, pk_mul, pk_sub, n_rem, n_div, n_dec, n_mx, n_mn, eq_m1, eq_m2, ss_same, ss_ne, ss_r, ss_l, sr_f, sr_l, sr_same, sr_ne, sw_f, sw_l, sw_at, sw_ne, pk_us, pk_un, bI_t, bI_f, not_true_eq_false, not_false_eq_true, eq_self, and_true, true_and, and_false, false_and, or_true, true_or, or_false, false_or, decide_true, decide_false, Bool.false_eq_true, Bool.true_eq_false, ↓cal_w (t_placeOf (τ := τ) (show l < 8 by omega)), t_placeOf (τ := τ) (show l < 8 by omega), ↓cal_w (d_keeperOf (show 10 < F by omega) C.1 C.2 hl (show k < 120 by omega)), d_keeperOf (show 10 < F by omega) C.1 C.2 hl (show k < 120 by omega), ↓cal_w (t_holderOf (show 10 < F by omega) C.1 hl (show k < 120 by omega)), t_holderOf (show 10 < F by omega) C.1 hl (show k < 120 by omega), ↓cal_w (ha), ha, ↓cal_w (hb), hb, hlt, h1, ht.1, h5, f_X7_gaps_89, f_X7_gaps_94, f_X8_gaps_72, f_X8_gaps_75]
                exact ih'
            · have h5 : ¬ hin (nw τ) (hd (nw τ) l k) k = 4 := fun h => by rw [h4.mp h] at e2; cases e2
              rw [e2] at hb
              have ih' := ih (k + 1) m f (by omega) (by omega) (by omega)
              simp (disch := omega) only [↓bnd_i, ↓cal_s, ↓cal_n, ↓cal2_s, ↓cal2_n, cal_s, cal2_s, ↓reduceIte, fa_lit, m1_lit, m2_lit, m1_lt, m2_lt, m1_eq, m2_eq, m1_le, m2_le, le_m1, le_m2, lt_m1, lt_m2, m12, m21, m1_m1, n_lt, n_le, n_eq, lt_t, lt_f, le_t, le_f, eq_t, eq_f, n_cl, inb_ok, n_add, pk_mul, pk_sub, n_rem, n_div, n_dec, n_mx, n_mn, eq_m1, eq_m2, ss_same, ss_ne, ss_r, ss_l, sr_f, sr_l, sr_same, sr_ne, sw_f, sw_l, sw_at, sw_ne, pk_us, pk_un, bI_t, bI_f, not_true_eq_false, not_false_eq_true, eq_self, and_true, true_and, and_false, false_and, or_true, true_or, or_false, false_or, decide_true, decide_false, Bool.false_eq_true, Bool.true_eq_false, ↓cal_w (t_placeOf (τ := τ) (show l < 8 by omega)), t_placeOf (τ := τ) (show l < 8 by omega), ↓cal_w (d_keeperOf (show 10 < F by omega) C.1 C.2 hl (show k < 120 by omega)), d_keeperOf (show 10 < F by omega) C.1 C.2 hl (show k < 120 by omega), ↓cal_w (t_holderOf (show 10 < F by omega) C.1 hl (show k < 120 by omega)), t_holderOf (show 10 < F by omega) C.1 hl (show k < 120 by omega), ↓cal_w (ha), ha, ↓cal_w (hb), hb, hlt, h1, ht.1, f_X7_gaps_89, f_X7_gaps_94, f_X8_gaps_72, f_X8_gaps_75]
              exact ih'
      have k0 := key F 0 0 m2 (by omega) (by omega) (by omega)
      obtain ⟨r5, hr5, hr6⟩ : ∃ r5, f_X2_tipOf F σ (nI l) = some r5 ∧ f_X2_pieceHolding F σ r5 = some ex := ⟨_, d_tipOf C.1 C.2 hl, by rw [d_tipOf C.1 C.2 hl] at hcal; exact hcal⟩
      simp (disch := omega) only [↓bnd_i, ↓cal_s, ↓cal_n, ↓cal2_s, ↓cal2_n, cal_s, cal2_s, ↓reduceIte, fa_lit, m1_lit, m2_lit, m1_lt, m2_lt, m1_eq, m2_eq, m1_le, m2_le, le_m1, le_m2, lt_m1, lt_m2, m12, m21, m1_m1, n_lt, n_le, n_eq, lt_t, lt_f, le_t, le_f, eq_t, eq_f, n_cl, inb_ok, n_add, pk_mul, pk_sub, n_rem, n_div, n_dec, n_mx, n_mn, eq_m1, eq_m2, ss_same, ss_ne, ss_r, ss_l, sr_f, sr_l, sr_same, sr_ne, sw_f, sw_l, sw_at, sw_ne, pk_us, pk_un, bI_t, bI_f, not_true_eq_false, not_false_eq_true, eq_self, and_true, true_and, and_false, false_and, or_true, true_or, or_false, false_or, decide_true, decide_false, Bool.false_eq_true, Bool.true_eq_false, ↓cal_w (d_hasLine C.1.1 C.2.1 _), d_hasLine C.1.1 C.2.1 _, ↓cal_w (t_isLine C.1.1 _), t_isLine C.1.1 _, ↓cal_w (hin'), hin', ↓cal_w (hr5), hr5, ↓cal_w (hr6), hr6, c]
      exact k0
/-- how many records up to a place change a page -/
def cc (N : Nat → Int32) (l : Nat) (g : Int32) : Nat → Nat
  | 0 => 0
  | p + 1 => cc N l g p + if chg N l (p + 1) = g then 1 else 0
theorem cc_le {N : Nat → Int32} {l : Nat} {g : Int32} : ∀ p, cc N l g p ≤ p
  | 0 => Nat.le_refl 0
  | p + 1 => by
    have := cc_le (N := N) (l := l) (g := g) p
    rw [cc]
    split <;> omega
theorem d_changesOf {F : Nat} (hF : 300 < F) {σ : St} {N : Nat → Int32} (h : NN N) (j : JJ σ N) {l : Nat} (hl : l < nl N) (g : Int32) : f_X2_changesOf F σ g (nI l) = some (nI (cc N l g (tp N l))) := by
  have ht := (h.2.1.1 l hl).2
  have key : ∀ n i, i ≤ tp N l → tp N l - i < n → f_X2_changesOf_12 F n σ g (nI l) (nI (tp N l)) (nI (cc N l g i)) (nI (i + 1)) = some (nI (cc N l g (tp N l))) := by
    intro n
    induction n with
    | zero => intro i _ h; omega
    | succ n ih =>
      intro i hi hn
      have hci := cc_le (N := N) (l := l) (g := g) i
      rw [f_X2_changesOf_12]
      by_cases c : i = tp N l
      · rw [c]
        simp (disch := omega) only [↓bnd_i, ↓cal_s, ↓cal_n, ↓cal2_s, ↓cal2_n, cal_s, cal2_s, ↓reduceIte, fa_lit, m1_lit, m2_lit, m1_lt, m2_lt, m1_eq, m2_eq, m1_le, m2_le, le_m1, le_m2, lt_m1, lt_m2, m12, m21, m1_m1, n_lt, n_le, n_eq, lt_t, lt_f, le_t, le_f, eq_t, eq_f, n_cl, inb_ok, n_add, pk_mul, pk_sub, n_rem, n_div, n_dec, n_mx, n_mn, eq_m1, eq_m2, ss_same, ss_ne, ss_r, ss_l, sr_f, sr_l, sr_same, sr_ne, sw_f, sw_l, sw_at, sw_ne, pk_us, pk_un, bI_t, bI_f, not_true_eq_false, not_false_eq_true, eq_self, and_true, true_and, and_false, false_and, or_true, true_or, or_false, false_or, decide_true, decide_false, Bool.false_eq_true, Bool.true_eq_false]
      · have ih' := ih (i + 1) (by omega) (by omega)
        rw [cc] at ih'
        by_cases d : chg N l (i + 1) = g
        · rw [if_pos d] at ih'
          simp (disch := omega) only [↓bnd_i, ↓cal_s, ↓cal_n, ↓cal2_s, ↓cal2_n, cal_s, cal2_s, ↓reduceIte, fa_lit, m1_lit, m2_lit, m1_lt, m2_lt, m1_eq, m2_eq, m1_le, m2_le, le_m1, le_m2, lt_m1, lt_m2, m12, m21, m1_m1, n_lt, n_le, n_eq, lt_t, lt_f, le_t, le_f, eq_t, eq_f, n_cl, inb_ok, n_add, pk_mul, pk_sub, n_rem, n_div, n_dec, n_mx, n_mn, eq_m1, eq_m2, ss_same, ss_ne, ss_r, ss_l, sr_f, sr_l, sr_same, sr_ne, sw_f, sw_l, sw_at, sw_ne, pk_us, pk_un, bI_t, bI_f, not_true_eq_false, not_false_eq_true, eq_self, and_true, true_and, and_false, false_and, or_true, true_or, or_false, false_or, decide_true, decide_false, Bool.false_eq_true, Bool.true_eq_false, ↓cal_w (d_changedAt (show 8 < F by omega) h j hl (show 1 ≤ i + 1 by omega) (show i + 1 ≤ tp N l by omega)), d_changedAt (show 8 < F by omega) h j hl (show 1 ≤ i + 1 by omega) (show i + 1 ≤ tp N l by omega), d, f_X2_changesOf_36]
          exact ih'
        · rw [if_neg d] at ih'
          simp (disch := omega) only [↓bnd_i, ↓cal_s, ↓cal_n, ↓cal2_s, ↓cal2_n, cal_s, cal2_s, ↓reduceIte, fa_lit, m1_lit, m2_lit, m1_lt, m2_lt, m1_eq, m2_eq, m1_le, m2_le, le_m1, le_m2, lt_m1, lt_m2, m12, m21, m1_m1, n_lt, n_le, n_eq, lt_t, lt_f, le_t, le_f, eq_t, eq_f, n_cl, inb_ok, n_add, pk_mul, pk_sub, n_rem, n_div, n_dec, n_mx, n_mn, eq_m1, eq_m2, ss_same, ss_ne, ss_r, ss_l, sr_f, sr_l, sr_same, sr_ne, sw_f, sw_l, sw_at, sw_ne, pk_us, pk_un, bI_t, bI_f, not_true_eq_false, not_false_eq_true, eq_self, and_true, true_and, and_false, false_and, or_true, true_or, or_false, false_or, decide_true, decide_false, Bool.false_eq_true, Bool.true_eq_false, ↓cal_w (d_changedAt (show 8 < F by omega) h j hl (show 1 ≤ i + 1 by omega) (show i + 1 ≤ tp N l by omega)), d_changedAt (show 8 < F by omega) h j hl (show 1 ≤ i + 1 by omega) (show i + 1 ≤ tp N l by omega), eq_false d, f_X2_changesOf_36]
          exact ih'
  unfold f_X2_changesOf
  simp (disch := omega) only [↓bnd_i, ↓cal_s, ↓cal_n, ↓cal2_s, ↓cal2_n, cal_s, cal2_s, ↓reduceIte, fa_lit, m1_lit, m2_lit, m1_lt, m2_lt, m1_eq, m2_eq, m1_le, m2_le, le_m1, le_m2, lt_m1, lt_m2, m12, m21, m1_m1, n_lt, n_le, n_eq, lt_t, lt_f, le_t, le_f, eq_t, eq_f, n_cl, inb_ok, n_add, pk_mul, pk_sub, n_rem, n_div, n_dec, n_mx, n_mn, eq_m1, eq_m2, ss_same, ss_ne, ss_r, ss_l, sr_f, sr_l, sr_same, sr_ne, sw_f, sw_l, sw_at, sw_ne, pk_us, pk_un, bI_t, bI_f, not_true_eq_false, not_false_eq_true, eq_self, and_true, true_and, and_false, false_and, or_true, true_or, or_false, false_or, decide_true, decide_false, Bool.false_eq_true, Bool.true_eq_false, ↓cal_w (d_tipOf h j hl), d_tipOf h j hl]
  exact key F 0 (by omega) (by omega)
/-- the first of the greatest -/
def bst (c : Nat → Nat) : Nat → Nat
  | 0 => 0
  | g + 1 => if c (bst c g) < c (g + 1) then g + 1 else bst c g
theorem bst_le {c : Nat → Nat} : ∀ g, bst c g ≤ g
  | 0 => Nat.le_refl 0
  | g + 1 => by
    have := bst_le (c := c) g
    rw [bst]
    split <;> omega
theorem q_busiest {F : Nat} (hF : 300 < F) {σ τ : St} (C : Core σ τ) (x y : Int32) : ∃ r τ', f_X7_busiest F σ x y = some r ∧ f_X8_busiest F τ x y = some (r, τ') ∧ FrM τ τ' ∧ nw τ' = nw τ := by
  obtain ⟨b1, b2, b3, b4, b5, b6, b7, b8⟩ := NNb C.1
  obtain ⟨e4, e5, e6, e7, e8⟩ := JJf C.1 C.2
  have h0 : τ.2.1 19 0 = nI (pg (nw τ)) := C.1.1.1.1
  have hin' := in_isN (F := F) (τ := τ) (x := y) (n := 2) (by omega) (by omega)
  rw [pk_sub (by omega)] at hin'
  unfold f_X7_busiest f_X8_busiest
  cases c : isN x (nl (nw τ))
  · simp (disch := omega) only [↓bnd_i, ↓cal_s, ↓cal_n, ↓cal2_s, ↓cal2_n, cal_s, cal2_s, ↓reduceIte, fa_lit, m1_lit, m2_lit, m1_lt, m2_lt, m1_eq, m2_eq, m1_le, m2_le, le_m1, le_m2, lt_m1, lt_m2, m12, m21, m1_m1, n_lt, n_le, n_eq, lt_t, lt_f, le_t, le_f, eq_t, eq_f, n_cl, inb_ok, n_add, pk_mul, pk_sub, n_rem, n_div, n_dec, n_mx, n_mn, eq_m1, eq_m2, ss_same, ss_ne, ss_r, ss_l, sr_f, sr_l, sr_same, sr_ne, sw_f, sw_l, sw_at, sw_ne, pk_us, pk_un, bI_t, bI_f, not_true_eq_false, not_false_eq_true, eq_self, and_true, true_and, and_false, false_and, or_true, true_or, or_false, false_or, decide_true, decide_false, Bool.false_eq_true, Bool.true_eq_false, ↓cal_w (d_hasLine C.1.1 C.2.1 x), d_hasLine C.1.1 C.2.1 x, ↓cal_w (t_isLine C.1.1 x), t_isLine C.1.1 x, c]
    exact ⟨_, _, rfl, rfl, FrM.refl τ, rfl⟩
  · obtain ⟨l, hl, rfl⟩ := isN_e c (by omega)
    have ht := C.1.2.1.1 l hl
    cases d : isN y 2
    · rw [d] at hin'
      rcases n_ex y with hy | ⟨i, hi, rfl⟩
      · simp (disch := omega) only [↓bnd_i, ↓cal_s, ↓cal_n, ↓cal2_s, ↓cal2_n, cal_s, cal2_s, ↓reduceIte, fa_lit, m1_lit, m2_lit, m1_lt, m2_lt, m1_eq, m2_eq, m1_le, m2_le, le_m1, le_m2, lt_m1, lt_m2, m12, m21, m1_m1, n_lt, n_le, n_eq, lt_t, lt_f, le_t, le_f, eq_t, eq_f, n_cl, inb_ok, n_add, pk_mul, pk_sub, n_rem, n_div, n_dec, n_mx, n_mn, eq_m1, eq_m2, ss_same, ss_ne, ss_r, ss_l, sr_f, sr_l, sr_same, sr_ne, sw_f, sw_l, sw_at, sw_ne, pk_us, pk_un, bI_t, bI_f, not_true_eq_false, not_false_eq_true, eq_self, and_true, true_and, and_false, false_and, or_true, true_or, or_false, false_or, decide_true, decide_false, Bool.false_eq_true, Bool.true_eq_false, ↓cal_w (d_hasLine C.1.1 C.2.1 _), d_hasLine C.1.1 C.2.1 _, ↓cal_w (t_isLine C.1.1 _), t_isLine C.1.1 _, ↓cal_w (hin'), hin', c, eq_true (show y < nI 0 from hy)]
        exact ⟨_, _, rfl, rfl, FrM.refl τ, rfl⟩
      · rw [isN_n hi] at d
        have d' := of_decide_eq_false d
        simp (disch := omega) only [↓bnd_i, ↓cal_s, ↓cal_n, ↓cal2_s, ↓cal2_n, cal_s, cal2_s, ↓reduceIte, fa_lit, m1_lit, m2_lit, m1_lt, m2_lt, m1_eq, m2_eq, m1_le, m2_le, le_m1, le_m2, lt_m1, lt_m2, m12, m21, m1_m1, n_lt, n_le, n_eq, lt_t, lt_f, le_t, le_f, eq_t, eq_f, n_cl, inb_ok, n_add, pk_mul, pk_sub, n_rem, n_div, n_dec, n_mx, n_mn, eq_m1, eq_m2, ss_same, ss_ne, ss_r, ss_l, sr_f, sr_l, sr_same, sr_ne, sw_f, sw_l, sw_at, sw_ne, pk_us, pk_un, bI_t, bI_f, not_true_eq_false, not_false_eq_true, eq_self, and_true, true_and, and_false, false_and, or_true, true_or, or_false, false_or, decide_true, decide_false, Bool.false_eq_true, Bool.true_eq_false, ↓cal_w (d_hasLine C.1.1 C.2.1 _), d_hasLine C.1.1 C.2.1 _, ↓cal_w (t_isLine C.1.1 _), t_isLine C.1.1 _, ↓cal_w (hin'), hin', c]
        exact ⟨_, _, rfl, rfl, FrM.refl τ, rfl⟩
    · rw [d] at hin'
      obtain ⟨i, hi, rfl⟩ := isN_e d (by omega)
      generalize hcq : (fun g : Nat => cc (nw τ) l (nI g) (tp (nw τ) l)) = q
      have hq : ∀ g, cc (nw τ) l (nI g) (tp (nw τ) l) = q g := fun g => congrFun hcq g
      have hq3 : ∀ g, q g ≤ 240 := fun g => by have := cc_le (N := nw τ) (l := l) (g := nI g) (tp (nw τ) l); rw [hq] at this; omega
      -- the desk
      have k1 : ∀ n g, g < pg (nw τ) → pg (nw τ) - g < n → f_X7_busiest_30 F n σ (nI l) (nI i) (nI (bst q g)) (nI (q (bst q g))) (nI (g + 1)) = some (if i = 0 then nI (bst q (pg (nw τ) - 1)) else nI (q (bst q (pg (nw τ) - 1)))) := by
        intro n
        induction n with
        | zero => intro g _ h; omega
        | succ n ih =>
          intro g hg hn
          have hbl := bst_le (c := q) g
          have q3 := hq3 (bst q g)
          have q4 := hq3 (g + 1)
          rw [f_X7_busiest_30]
          by_cases e : g + 1 = pg (nw τ)
          · rw [show pg (nw τ) - 1 = g by omega]
            by_cases i0 : i = 0
            · simp (disch := omega) only [↓bnd_i, ↓cal_s, ↓cal_n, ↓cal2_s, ↓cal2_n, cal_s, cal2_s, ↓reduceIte, fa_lit, m1_lit, m2_lit, m1_lt, m2_lt, m1_eq, m2_eq, m1_le, m2_le, le_m1, le_m2, lt_m1, lt_m2, m12, m21, m1_m1, n_lt, n_le, n_eq, lt_t, lt_f, le_t, le_f, eq_t, eq_f, n_cl, inb_ok, n_add, pk_mul, pk_sub, n_rem, n_div, n_dec, n_mx, n_mn, eq_m1, eq_m2, ss_same, ss_ne, ss_r, ss_l, sr_f, sr_l, sr_same, sr_ne, sw_f, sw_l, sw_at, sw_ne, pk_us, pk_un, bI_t, bI_f, not_true_eq_false, not_false_eq_true, eq_self, and_true, true_and, and_false, false_and, or_true, true_or, or_false, false_or, decide_true, decide_false, Bool.false_eq_true, Bool.true_eq_false, e4]
            · simp (disch := omega) only [↓bnd_i, ↓cal_s, ↓cal_n, ↓cal2_s, ↓cal2_n, cal_s, cal2_s, ↓reduceIte, fa_lit, m1_lit, m2_lit, m1_lt, m2_lt, m1_eq, m2_eq, m1_le, m2_le, le_m1, le_m2, lt_m1, lt_m2, m12, m21, m1_m1, n_lt, n_le, n_eq, lt_t, lt_f, le_t, le_f, eq_t, eq_f, n_cl, inb_ok, n_add, pk_mul, pk_sub, n_rem, n_div, n_dec, n_mx, n_mn, eq_m1, eq_m2, ss_same, ss_ne, ss_r, ss_l, sr_f, sr_l, sr_same, sr_ne, sw_f, sw_l, sw_at, sw_ne, pk_us, pk_un, bI_t, bI_f, not_true_eq_false, not_false_eq_true, eq_self, and_true, true_and, and_false, false_and, or_true, true_or, or_false, false_or, decide_true, decide_false, Bool.false_eq_true, Bool.true_eq_false, e4]
          · have ih' := ih (g + 1) (by omega) (by omega)
            rw [bst] at ih'
            by_cases e2 : q (bst q g) < q (g + 1)
            · rw [if_pos e2] at ih'
              simp (disch := omega) only [↓bnd_i, ↓cal_s, ↓cal_n, ↓cal2_s, ↓cal2_n, cal_s, cal2_s, ↓reduceIte, fa_lit, m1_lit, m2_lit, m1_lt, m2_lt, m1_eq, m2_eq, m1_le, m2_le, le_m1, le_m2, lt_m1, lt_m2, m12, m21, m1_m1, n_lt, n_le, n_eq, lt_t, lt_f, le_t, le_f, eq_t, eq_f, n_cl, inb_ok, n_add, pk_mul, pk_sub, n_rem, n_div, n_dec, n_mx, n_mn, eq_m1, eq_m2, ss_same, ss_ne, ss_r, ss_l, sr_f, sr_l, sr_same, sr_ne, sw_f, sw_l, sw_at, sw_ne, pk_us, pk_un, bI_t, bI_f, not_true_eq_false, not_false_eq_true, eq_self, and_true, true_and, and_false, false_and, or_true, true_or, or_false, false_or, decide_true, decide_false, Bool.false_eq_true, Bool.true_eq_false, ↓cal_w (d_changesOf hF C.1 C.2 hl _), d_changesOf hF C.1 C.2 hl _, e4, hq, f_X7_busiest_68]
              exact ih'
            · rw [if_neg e2] at ih'
              simp (disch := omega) only [↓bnd_i, ↓cal_s, ↓cal_n, ↓cal2_s, ↓cal2_n, cal_s, cal2_s, ↓reduceIte, fa_lit, m1_lit, m2_lit, m1_lt, m2_lt, m1_eq, m2_eq, m1_le, m2_le, le_m1, le_m2, lt_m1, lt_m2, m12, m21, m1_m1, n_lt, n_le, n_eq, lt_t, lt_f, le_t, le_f, eq_t, eq_f, n_cl, inb_ok, n_add, pk_mul, pk_sub, n_rem, n_div, n_dec, n_mx, n_mn, eq_m1, eq_m2, ss_same, ss_ne, ss_r, ss_l, sr_f, sr_l, sr_same, sr_ne, sw_f, sw_l, sw_at, sw_ne, pk_us, pk_un, bI_t, bI_f, not_true_eq_false, not_false_eq_true, eq_self, and_true, true_and, and_false, false_and, or_true, true_or, or_false, false_or, decide_true, decide_false, Bool.false_eq_true, Bool.true_eq_false, ↓cal_w (d_changesOf hF C.1 C.2 hl _), d_changesOf hF C.1 C.2 hl _, e4, hq, f_X7_busiest_68]
              exact ih'
      have k1' : f_X7_busiest_30 F F σ (nI l) (nI i) (nI 0) (nI 0) (nI 0) = some (if i = 0 then nI (bst q (pg (nw τ) - 1)) else nI (q (bst q (pg (nw τ) - 1)))) := by
        have e := k1 (F - 1) 0 (by omega) (by omega)
        obtain ⟨n, rfl⟩ : ∃ n, F = n + 1 := ⟨F - 1, by omega⟩
        have q3 := hq3 0
        rw [f_X7_busiest_30]
        rw [Nat.add_sub_cancel] at e
        by_cases e0 : q 0 = 0
        · simp only [bst, e0] at e
          simp (disch := omega) only [↓bnd_i, ↓cal_s, ↓cal_n, ↓cal2_s, ↓cal2_n, cal_s, cal2_s, ↓reduceIte, fa_lit, m1_lit, m2_lit, m1_lt, m2_lt, m1_eq, m2_eq, m1_le, m2_le, le_m1, le_m2, lt_m1, lt_m2, m12, m21, m1_m1, n_lt, n_le, n_eq, lt_t, lt_f, le_t, le_f, eq_t, eq_f, n_cl, inb_ok, n_add, pk_mul, pk_sub, n_rem, n_div, n_dec, n_mx, n_mn, eq_m1, eq_m2, ss_same, ss_ne, ss_r, ss_l, sr_f, sr_l, sr_same, sr_ne, sw_f, sw_l, sw_at, sw_ne, pk_us, pk_un, bI_t, bI_f, not_true_eq_false, not_false_eq_true, eq_self, and_true, true_and, and_false, false_and, or_true, true_or, or_false, false_or, decide_true, decide_false, Bool.false_eq_true, Bool.true_eq_false, ↓cal_w (d_changesOf hF C.1 C.2 hl _), d_changesOf hF C.1 C.2 hl _, e4, hq, e0, f_X7_busiest_68]
          exact e
        · simp only [bst] at e
          simp (disch := omega) only [↓bnd_i, ↓cal_s, ↓cal_n, ↓cal2_s, ↓cal2_n, cal_s, cal2_s, ↓reduceIte, fa_lit, m1_lit, m2_lit, m1_lt, m2_lt, m1_eq, m2_eq, m1_le, m2_le, le_m1, le_m2, lt_m1, lt_m2, m12, m21, m1_m1, n_lt, n_le, n_eq, lt_t, lt_f, le_t, le_f, eq_t, eq_f, n_cl, inb_ok, n_add, pk_mul, pk_sub, n_rem, n_div, n_dec, n_mx, n_mn, eq_m1, eq_m2, ss_same, ss_ne, ss_r, ss_l, sr_f, sr_l, sr_same, sr_ne, sw_f, sw_l, sw_at, sw_ne, pk_us, pk_un, bI_t, bI_f, not_true_eq_false, not_false_eq_true, eq_self, and_true, true_and, and_false, false_and, or_true, true_or, or_false, false_or, decide_true, decide_false, Bool.false_eq_true, Bool.true_eq_false, ↓cal_w (d_changesOf hF C.1 C.2 hl _), d_changesOf hF C.1 C.2 hl _, e4, hq, f_X7_busiest_68]
          exact e
      -- the model
      have m3 : ∀ n g t, FrM τ t → nw t = nw τ → (∀ a, a < 8 → t.2.1 20 a = nI (q a)) → g < pg (nw τ) → pg (nw τ) - g < n → f_X8_busiest_86 F n t (nI i) (nI (bst q g)) (nI (g + 1)) = some (if i = 0 then nI (bst q (pg (nw τ) - 1)) else nI (q (bst q (pg (nw τ) - 1))), t) := by
        intro n
        induction n with
        | zero => intro g t _ _ _ _ h; omega
        | succ n ih =>
          intro g t hf ht19 ht20 hg hn
          have hbl := bst_le (c := q) g
          have q3 := hq3 (bst q g)
          have q4 := hq3 (g + 1)
          have ht0 : t.2.1 19 0 = nI (pg (nw τ)) := by rw [show t.2.1 19 = τ.2.1 19 from ht19]; exact h0
          rw [f_X8_busiest_86]
          by_cases e : g + 1 = pg (nw τ)
          · rw [show pg (nw τ) - 1 = g by omega]
            by_cases i0 : i = 0
            · simp (disch := omega) only [↓bnd_i, ↓cal_s, ↓cal_n, ↓cal2_s, ↓cal2_n, cal_s, cal2_s, ↓reduceIte, fa_lit, m1_lit, m2_lit, m1_lt, m2_lt, m1_eq, m2_eq, m1_le, m2_le, le_m1, le_m2, lt_m1, lt_m2, m12, m21, m1_m1, n_lt, n_le, n_eq, lt_t, lt_f, le_t, le_f, eq_t, eq_f, n_cl, inb_ok, n_add, pk_mul, pk_sub, n_rem, n_div, n_dec, n_mx, n_mn, eq_m1, eq_m2, ss_same, ss_ne, ss_r, ss_l, sr_f, sr_l, sr_same, sr_ne, sw_f, sw_l, sw_at, sw_ne, pk_us, pk_un, bI_t, bI_f, not_true_eq_false, not_false_eq_true, eq_self, and_true, true_and, and_false, false_and, or_true, true_or, or_false, false_or, decide_true, decide_false, Bool.false_eq_true, Bool.true_eq_false, ht0]
            · simp (disch := omega) only [↓bnd_i, ↓cal_s, ↓cal_n, ↓cal2_s, ↓cal2_n, cal_s, cal2_s, ↓reduceIte, fa_lit, m1_lit, m2_lit, m1_lt, m2_lt, m1_eq, m2_eq, m1_le, m2_le, le_m1, le_m2, lt_m1, lt_m2, m12, m21, m1_m1, n_lt, n_le, n_eq, lt_t, lt_f, le_t, le_f, eq_t, eq_f, n_cl, inb_ok, n_add, pk_mul, pk_sub, n_rem, n_div, n_dec, n_mx, n_mn, eq_m1, eq_m2, ss_same, ss_ne, ss_r, ss_l, sr_f, sr_l, sr_same, sr_ne, sw_f, sw_l, sw_at, sw_ne, pk_us, pk_un, bI_t, bI_f, not_true_eq_false, not_false_eq_true, eq_self, and_true, true_and, and_false, false_and, or_true, true_or, or_false, false_or, decide_true, decide_false, Bool.false_eq_true, Bool.true_eq_false, ht0, ht20 (bst q g) (by omega)]
          · have ih' := ih (g + 1) t hf ht19 ht20 (by omega) (by omega)
            rw [bst] at ih'
            by_cases e2 : q (bst q g) < q (g + 1)
            · rw [if_pos e2] at ih'
              simp (disch := omega) only [↓bnd_i, ↓cal_s, ↓cal_n, ↓cal2_s, ↓cal2_n, cal_s, cal2_s, ↓reduceIte, fa_lit, m1_lit, m2_lit, m1_lt, m2_lt, m1_eq, m2_eq, m1_le, m2_le, le_m1, le_m2, lt_m1, lt_m2, m12, m21, m1_m1, n_lt, n_le, n_eq, lt_t, lt_f, le_t, le_f, eq_t, eq_f, n_cl, inb_ok, n_add, pk_mul, pk_sub, n_rem, n_div, n_dec, n_mx, n_mn, eq_m1, eq_m2, ss_same, ss_ne, ss_r, ss_l, sr_f, sr_l, sr_same, sr_ne, sw_f, sw_l, sw_at, sw_ne, pk_us, pk_un, bI_t, bI_f, not_true_eq_false, not_false_eq_true, eq_self, and_true, true_and, and_false, false_and, or_true, true_or, or_false, false_or, decide_true, decide_false, Bool.false_eq_true, Bool.true_eq_false, ht0, ht20 (bst q g) (by omega), ht20 (g + 1) (by omega), f_X8_busiest_116]
              exact ih'
            · rw [if_neg e2] at ih'
              simp (disch := omega) only [↓bnd_i, ↓cal_s, ↓cal_n, ↓cal2_s, ↓cal2_n, cal_s, cal2_s, ↓reduceIte, fa_lit, m1_lit, m2_lit, m1_lt, m2_lt, m1_eq, m2_eq, m1_le, m2_le, le_m1, le_m2, lt_m1, lt_m2, m12, m21, m1_m1, n_lt, n_le, n_eq, lt_t, lt_f, le_t, le_f, eq_t, eq_f, n_cl, inb_ok, n_add, pk_mul, pk_sub, n_rem, n_div, n_dec, n_mx, n_mn, eq_m1, eq_m2, ss_same, ss_ne, ss_r, ss_l, sr_f, sr_l, sr_same, sr_ne, sw_f, sw_l, sw_at, sw_ne, pk_us, pk_un, bI_t, bI_f, not_true_eq_false, not_false_eq_true, eq_self, and_true, true_and, and_false, false_and, or_true, true_or, or_false, false_or, decide_true, decide_false, Bool.false_eq_true, Bool.true_eq_false, ht0, ht20 (bst q g) (by omega), ht20 (g + 1) (by omega), f_X8_busiest_116]
              exact ih'
      have m2' : ∀ n p t, FrM τ t → nw t = nw τ → (∀ a, a < 8 → t.2.1 20 a = nI (cc (nw τ) l (nI a) p)) → p ≤ tp (nw τ) l → tp (nw τ) l - p < n → ∃ t', f_X8_busiest_42 F n t (nI l) (nI i) (nI (p + 1)) = some (if i = 0 then nI (bst q (pg (nw τ) - 1)) else nI (q (bst q (pg (nw τ) - 1))), t') ∧ FrM τ t' ∧ nw t' = nw τ := by
        intro n
        induction n with
        | zero => intro p t _ _ _ _ h; omega
        | succ n ih =>
          intro p t hf ht19 ht20 hp hn
          have hNt : NN (nw t) := by rw [ht19]; exact C.1
          have hlt : l < nl (nw t) := by rw [ht19]; exact hl
          have htt : nw t (20 + 4 * l) = nI (tp (nw τ) l) := by rw [ht19]; exact ht.1
          rw [f_X8_busiest_42]
          by_cases e : p = tp (nw τ) l
          · subst e
            have e3 := m3 F 0 t hf ht19 (fun a ha => by rw [ht20 a ha, hq]) (by omega) (by omega)
            rw [bst] at e3
            refine ⟨t, ?_, hf, ht19⟩
            simp (disch := omega) only [↓bnd_i, ↓cal_s, ↓cal_n, ↓cal2_s, ↓cal2_n, cal_s, cal2_s, ↓reduceIte, fa_lit, m1_lit, m2_lit, m1_lt, m2_lt, m1_eq, m2_eq, m1_le, m2_le, le_m1, le_m2, lt_m1, lt_m2, m12, m21, m1_m1, n_lt, n_le, n_eq, lt_t, lt_f, le_t, le_f, eq_t, eq_f, n_cl, inb_ok, n_add, pk_mul, pk_sub, n_rem, n_div, n_dec, n_mx, n_mn, eq_m1, eq_m2, ss_same, ss_ne, ss_r, ss_l, sr_f, sr_l, sr_same, sr_ne, sw_f, sw_l, sw_at, sw_ne, pk_us, pk_un, bI_t, bI_f, not_true_eq_false, not_false_eq_true, eq_self, and_true, true_and, and_false, false_and, or_true, true_or, or_false, false_or, decide_true, decide_false, Bool.false_eq_true, Bool.true_eq_false, ↓cal_w (t_placeOf (τ := t) (show l < 8 by omega)), t_placeOf (τ := t) (show l < 8 by omega), htt]
            exact e3
          · have tc := t_changedBy (F := F) hNt.1 hNt.2.1 (show 8 < F by omega) hlt (show p + 1 ≤ 240 by omega)
            rw [ht19] at tc
            rcases chg_in C.1 hl (show 1 ≤ p + 1 by omega) (show p + 1 ≤ tp (nw τ) l by omega) with e1 | ⟨g, hg, e1⟩
            · rw [e1] at tc
              obtain ⟨t', x1, x2, x3⟩ := ih (p + 1) t hf ht19 (fun a ha => by
                rw [ht20 a ha, cc, e1, if_neg (fun h => ne_m1 (show a < 2 ^ 31 by omega) h.symm), Nat.add_zero]) (by omega) (by omega)
              refine ⟨t', ?_, x2, x3⟩
              simp (disch := omega) only [↓bnd_i, ↓cal_s, ↓cal_n, ↓cal2_s, ↓cal2_n, cal_s, cal2_s, ↓reduceIte, fa_lit, m1_lit, m2_lit, m1_lt, m2_lt, m1_eq, m2_eq, m1_le, m2_le, le_m1, le_m2, lt_m1, lt_m2, m12, m21, m1_m1, n_lt, n_le, n_eq, lt_t, lt_f, le_t, le_f, eq_t, eq_f, n_cl, inb_ok, n_add, pk_mul, pk_sub, n_rem, n_div, n_dec, n_mx, n_mn, eq_m1, eq_m2, ss_same, ss_ne, ss_r, ss_l, sr_f, sr_l, sr_same, sr_ne, sw_f, sw_l, sw_at, sw_ne, pk_us, pk_un, bI_t, bI_f, not_true_eq_false, not_false_eq_true, eq_self, and_true, true_and, and_false, false_and, or_true, true_or, or_false, false_or, decide_true, decide_false, Bool.false_eq_true, Bool.true_eq_false, ↓cal_w (t_placeOf (τ := t) (show l < 8 by omega)), t_placeOf (τ := t) (show l < 8 by omega), ↓cal_w (tc), tc, htt, f_X8_busiest_75]
              exact x1
            · rw [e1] at tc
              have hcl := cc_le (N := nw τ) (l := l) (g := nI g) p
              have hb := ht20 g (by omega)
              obtain ⟨t', x1, x2, x3⟩ := ih (p + 1) (sr t 20 g (nI (cc (nw τ) l (nI g) p + 1))) (hf.sr (by omega) (by omega)) (by unfold nw; rw [sr_ne (by omega)]; exact ht19) (fun a ha => by
                rw [sr_same, cc, e1]
                by_cases e5 : a = g
                · subst e5
                  rw [pk_us, if_pos rfl]
                · rw [pk_un e5, ht20 a ha, if_neg, Nat.add_zero]
                  rw [n_eq (by omega) (by omega)]; omega) (by omega) (by omega)
              refine ⟨t', ?_, x2, x3⟩
              simp (disch := omega) only [↓bnd_i, ↓cal_s, ↓cal_n, ↓cal2_s, ↓cal2_n, cal_s, cal2_s, ↓reduceIte, fa_lit, m1_lit, m2_lit, m1_lt, m2_lt, m1_eq, m2_eq, m1_le, m2_le, le_m1, le_m2, lt_m1, lt_m2, m12, m21, m1_m1, n_lt, n_le, n_eq, lt_t, lt_f, le_t, le_f, eq_t, eq_f, n_cl, inb_ok, n_add, pk_mul, pk_sub, n_rem, n_div, n_dec, n_mx, n_mn, eq_m1, eq_m2, ss_same, ss_ne, ss_r, ss_l, sr_f, sr_l, sr_same, sr_ne, sw_f, sw_l, sw_at, sw_ne, pk_us, pk_un, bI_t, bI_f, not_true_eq_false, not_false_eq_true, eq_self, and_true, true_and, and_false, false_and, or_true, true_or, or_false, false_or, decide_true, decide_false, Bool.false_eq_true, Bool.true_eq_false, ↓cal_w (t_placeOf (τ := t) (show l < 8 by omega)), t_placeOf (τ := t) (show l < 8 by omega), ↓cal_w (tc), tc, htt, hb, f_X8_busiest_75]
              exact x1
      have m1' : ∀ n g t, FrM τ t → nw t = nw τ → (∀ a, a < g → t.2.1 20 a = nI 0) → g ≤ 8 → 8 - g < n → ∃ t', f_X8_busiest_21 F n t (nI l) (nI i) (nI g) = some (if i = 0 then nI (bst q (pg (nw τ) - 1)) else nI (q (bst q (pg (nw τ) - 1))), t') ∧ FrM τ t' ∧ nw t' = nw τ := by
        intro n
        induction n with
        | zero => intro g t _ _ _ _ h; omega
        | succ n ih =>
          intro g t hf ht19 ht20 hg hn
          rw [f_X8_busiest_21]
          by_cases e : g = 8
          · subst e
            obtain ⟨t', x1, x2, x3⟩ := m2' F 0 t hf ht19 (fun a ha => ht20 a ha) (by omega) (by omega)
            refine ⟨t', ?_, x2, x3⟩
            simp (disch := omega) only [↓bnd_i, ↓cal_s, ↓cal_n, ↓cal2_s, ↓cal2_n, cal_s, cal2_s, ↓reduceIte, fa_lit, m1_lit, m2_lit, m1_lt, m2_lt, m1_eq, m2_eq, m1_le, m2_le, le_m1, le_m2, lt_m1, lt_m2, m12, m21, m1_m1, n_lt, n_le, n_eq, lt_t, lt_f, le_t, le_f, eq_t, eq_f, n_cl, inb_ok, n_add, pk_mul, pk_sub, n_rem, n_div, n_dec, n_mx, n_mn, eq_m1, eq_m2, ss_same, ss_ne, ss_r, ss_l, sr_f, sr_l, sr_same, sr_ne, sw_f, sw_l, sw_at, sw_ne, pk_us, pk_un, bI_t, bI_f, not_true_eq_false, not_false_eq_true, eq_self, and_true, true_and, and_false, false_and, or_true, true_or, or_false, false_or, decide_true, decide_false, Bool.false_eq_true, Bool.true_eq_false]
            exact x1
          · obtain ⟨t', x1, x2, x3⟩ := ih (g + 1) (sr t 20 g (nI 0)) (hf.sr (by omega) (by omega)) (by unfold nw; rw [sr_ne (by omega)]; exact ht19) (fun a ha => by
              rw [sr_same]
              by_cases e5 : a = g
              · subst e5
                rw [pk_us]
              · rw [pk_un e5, ht20 a (by omega)]) (by omega) (by omega)
            refine ⟨t', ?_, x2, x3⟩
            simp (disch := omega) only [↓bnd_i, ↓cal_s, ↓cal_n, ↓cal2_s, ↓cal2_n, cal_s, cal2_s, ↓reduceIte, fa_lit, m1_lit, m2_lit, m1_lt, m2_lt, m1_eq, m2_eq, m1_le, m2_le, le_m1, le_m2, lt_m1, lt_m2, m12, m21, m1_m1, n_lt, n_le, n_eq, lt_t, lt_f, le_t, le_f, eq_t, eq_f, n_cl, inb_ok, n_add, pk_mul, pk_sub, n_rem, n_div, n_dec, n_mx, n_mn, eq_m1, eq_m2, ss_same, ss_ne, ss_r, ss_l, sr_f, sr_l, sr_same, sr_ne, sw_f, sw_l, sw_at, sw_ne, pk_us, pk_un, bI_t, bI_f, not_true_eq_false, not_false_eq_true, eq_self, and_true, true_and, and_false, false_and, or_true, true_or, or_false, false_or, decide_true, decide_false, Bool.false_eq_true, Bool.true_eq_false]
            exact x1
      obtain ⟨t', x1, x2, x3⟩ := m1' F 0 τ (FrM.refl τ) rfl (fun a ha => absurd ha (by omega)) (by omega) (by omega)
      refine ⟨if i = 0 then nI (bst q (pg (nw τ) - 1)) else nI (q (bst q (pg (nw τ) - 1))), t', ?_, ?_, x2, x3⟩
      · simp (disch := omega) only [↓bnd_i, ↓cal_s, ↓cal_n, ↓cal2_s, ↓cal2_n, cal_s, cal2_s, ↓reduceIte, fa_lit, m1_lit, m2_lit, m1_lt, m2_lt, m1_eq, m2_eq, m1_le, m2_le, le_m1, le_m2, lt_m1, lt_m2, m12, m21, m1_m1, n_lt, n_le, n_eq, lt_t, lt_f, le_t, le_f, eq_t, eq_f, n_cl, inb_ok, n_add, pk_mul, pk_sub, n_rem, n_div, n_dec, n_mx, n_mn, eq_m1, eq_m2, ss_same, ss_ne, ss_r, ss_l, sr_f, sr_l, sr_same, sr_ne, sw_f, sw_l, sw_at, sw_ne, pk_us, pk_un, bI_t, bI_f, not_true_eq_false, not_false_eq_true, eq_self, and_true, true_and, and_false, false_and, or_true, true_or, or_false, false_or, decide_true, decide_false, Bool.false_eq_true, Bool.true_eq_false, ↓cal_w (d_hasLine C.1.1 C.2.1 _), d_hasLine C.1.1 C.2.1 _, c]
        exact k1'
      · simp (disch := omega) only [↓bnd_i, ↓cal_s, ↓cal_n, ↓cal2_s, ↓cal2_n, cal_s, cal2_s, ↓reduceIte, fa_lit, m1_lit, m2_lit, m1_lt, m2_lt, m1_eq, m2_eq, m1_le, m2_le, le_m1, le_m2, lt_m1, lt_m2, m12, m21, m1_m1, n_lt, n_le, n_eq, lt_t, lt_f, le_t, le_f, eq_t, eq_f, n_cl, inb_ok, n_add, pk_mul, pk_sub, n_rem, n_div, n_dec, n_mx, n_mn, eq_m1, eq_m2, ss_same, ss_ne, ss_r, ss_l, sr_f, sr_l, sr_same, sr_ne, sw_f, sw_l, sw_at, sw_ne, pk_us, pk_un, bI_t, bI_f, not_true_eq_false, not_false_eq_true, eq_self, and_true, true_and, and_false, false_and, or_true, true_or, or_false, false_or, decide_true, decide_false, Bool.false_eq_true, Bool.true_eq_false, ↓cal_w (t_isLine C.1.1 _), t_isLine C.1.1 _, ↓cal_w (hin'), hin', c]
        exact x1
