/-! PURE: questions on lines and records -/
theorem ne_m1 {k : Nat} (h : k < 2 ^ 31) : nI k ≠ m1 := fun e => by
  have := eq_m1 h
  rw [this] at e
  exact e
theorem q_page {F : Nat} (hF : 300 < F) {σ τ : St} (C : Core σ τ) (x y z : Int32) : Qy (f_X7_page F σ x y z) (f_X8_page F τ x y z) := by
  obtain ⟨b1, b2, b3, b4, b5, b6, b7, b8⟩ := NNb C.1
  unfold f_X7_page f_X8_page
  cases c : isN x (pg (nw τ))
  · simp (disch := omega) only [↓bnd_i, ↓cal_s, ↓cal_n, ↓cal2_s, ↓cal2_n, cal_s, cal2_s, ↓reduceIte, fa_lit, m1_lit, m2_lit, m1_lt, m2_lt, m1_eq, m2_eq, m1_le, m2_le, le_m1, le_m2, lt_m1, lt_m2, m12, m21, m1_m1, n_lt, n_le, n_eq, lt_t, lt_f, le_t, le_f, eq_t, eq_f, n_cl, inb_ok, n_add, pk_mul, pk_sub, n_rem, n_div, n_dec, n_mx, n_mn, eq_m1, eq_m2, ss_same, ss_ne, ss_r, ss_l, sr_f, sr_l, sr_same, sr_ne, sw_f, sw_l, sw_at, sw_ne, pk_us, pk_un, bI_t, bI_f, not_true_eq_false, not_false_eq_true, eq_self, and_true, true_and, and_false, false_and, or_true, true_or, or_false, false_or, decide_true, decide_false, Bool.false_eq_true, Bool.true_eq_false, ↓cal_w (d_hasPage C.1 C.2 x), d_hasPage C.1 C.2 x, ↓cal_w (t_isPage C.1.1 x), t_isPage C.1.1 x, c]
    exact Qy.mk
  · cases d : hasP (nw τ) y z
    · simp (disch := omega) only [↓bnd_i, ↓cal_s, ↓cal_n, ↓cal2_s, ↓cal2_n, cal_s, cal2_s, ↓reduceIte, fa_lit, m1_lit, m2_lit, m1_lt, m2_lt, m1_eq, m2_eq, m1_le, m2_le, le_m1, le_m2, lt_m1, lt_m2, m12, m21, m1_m1, n_lt, n_le, n_eq, lt_t, lt_f, le_t, le_f, eq_t, eq_f, n_cl, inb_ok, n_add, pk_mul, pk_sub, n_rem, n_div, n_dec, n_mx, n_mn, eq_m1, eq_m2, ss_same, ss_ne, ss_r, ss_l, sr_f, sr_l, sr_same, sr_ne, sw_f, sw_l, sw_at, sw_ne, pk_us, pk_un, bI_t, bI_f, not_true_eq_false, not_false_eq_true, eq_self, and_true, true_and, and_false, false_and, or_true, true_or, or_false, false_or, decide_true, decide_false, Bool.false_eq_true, Bool.true_eq_false, ↓cal_w (d_hasPage C.1 C.2 x), d_hasPage C.1 C.2 x, ↓cal_w (t_isPage C.1.1 x), t_isPage C.1.1 x, ↓cal_w (d_hasPlace C.1 C.2 y z), d_hasPlace C.1 C.2 y z, ↓cal_w (t_isAt C.1 y z), t_isAt C.1 y z, c, d]
      exact Qy.mk
    · obtain ⟨g, hg, rfl⟩ := isN_e c (by omega)
      obtain ⟨l, p, hl, hp, ht, rfl, rfl⟩ := hasP_e C.1 d
      simp (disch := omega) only [↓bnd_i, ↓cal_s, ↓cal_n, ↓cal2_s, ↓cal2_n, cal_s, cal2_s, ↓reduceIte, fa_lit, m1_lit, m2_lit, m1_lt, m2_lt, m1_eq, m2_eq, m1_le, m2_le, le_m1, le_m2, lt_m1, lt_m2, m12, m21, m1_m1, n_lt, n_le, n_eq, lt_t, lt_f, le_t, le_f, eq_t, eq_f, n_cl, inb_ok, n_add, pk_mul, pk_sub, n_rem, n_div, n_dec, n_mx, n_mn, eq_m1, eq_m2, ss_same, ss_ne, ss_r, ss_l, sr_f, sr_l, sr_same, sr_ne, sw_f, sw_l, sw_at, sw_ne, pk_us, pk_un, bI_t, bI_f, not_true_eq_false, not_false_eq_true, eq_self, and_true, true_and, and_false, false_and, or_true, true_or, or_false, false_or, decide_true, decide_false, Bool.false_eq_true, Bool.true_eq_false, ↓cal_w (d_hasPage C.1 C.2 _), d_hasPage C.1 C.2 _, ↓cal_w (t_isPage C.1.1 _), t_isPage C.1.1 _, ↓cal_w (d_hasPlace C.1 C.2 _ _), d_hasPlace C.1 C.2 _ _, ↓cal_w (t_isAt C.1 _ _), t_isAt C.1 _ _, ↓cal_w (d_valueAs hF C.1 C.2 hl hp (ne_m1 (show g < 2 ^ 31 by omega))), d_valueAs hF C.1 C.2 hl hp (ne_m1 (show g < 2 ^ 31 by omega)), ↓cal_w (t_pageAt hF C.1 hl hp _), t_pageAt hF C.1 hl hp _, c, d]
      exact Qy.mk
theorem q_last {F : Nat} (hF : 300 < F) {σ τ : St} (C : Core σ τ) (x y z : Int32) : Qy (f_X7_last F σ x y z) (f_X8_last F τ x y z) := by
  obtain ⟨b1, b2, b3, b4, b5, b6, b7, b8⟩ := NNb C.1
  unfold f_X7_last f_X8_last
  cases c : isN x (pg (nw τ))
  · simp (disch := omega) only [↓bnd_i, ↓cal_s, ↓cal_n, ↓cal2_s, ↓cal2_n, cal_s, cal2_s, ↓reduceIte, fa_lit, m1_lit, m2_lit, m1_lt, m2_lt, m1_eq, m2_eq, m1_le, m2_le, le_m1, le_m2, lt_m1, lt_m2, m12, m21, m1_m1, n_lt, n_le, n_eq, lt_t, lt_f, le_t, le_f, eq_t, eq_f, n_cl, inb_ok, n_add, pk_mul, pk_sub, n_rem, n_div, n_dec, n_mx, n_mn, eq_m1, eq_m2, ss_same, ss_ne, ss_r, ss_l, sr_f, sr_l, sr_same, sr_ne, sw_f, sw_l, sw_at, sw_ne, pk_us, pk_un, bI_t, bI_f, not_true_eq_false, not_false_eq_true, eq_self, and_true, true_and, and_false, false_and, or_true, true_or, or_false, false_or, decide_true, decide_false, Bool.false_eq_true, Bool.true_eq_false, ↓cal_w (d_hasPage C.1 C.2 x), d_hasPage C.1 C.2 x, ↓cal_w (t_isPage C.1.1 x), t_isPage C.1.1 x, c]
    exact Qy.mk
  · cases d : hasP (nw τ) y z
    · simp (disch := omega) only [↓bnd_i, ↓cal_s, ↓cal_n, ↓cal2_s, ↓cal2_n, cal_s, cal2_s, ↓reduceIte, fa_lit, m1_lit, m2_lit, m1_lt, m2_lt, m1_eq, m2_eq, m1_le, m2_le, le_m1, le_m2, lt_m1, lt_m2, m12, m21, m1_m1, n_lt, n_le, n_eq, lt_t, lt_f, le_t, le_f, eq_t, eq_f, n_cl, inb_ok, n_add, pk_mul, pk_sub, n_rem, n_div, n_dec, n_mx, n_mn, eq_m1, eq_m2, ss_same, ss_ne, ss_r, ss_l, sr_f, sr_l, sr_same, sr_ne, sw_f, sw_l, sw_at, sw_ne, pk_us, pk_un, bI_t, bI_f, not_true_eq_false, not_false_eq_true, eq_self, and_true, true_and, and_false, false_and, or_true, true_or, or_false, false_or, decide_true, decide_false, Bool.false_eq_true, Bool.true_eq_false, ↓cal_w (d_hasPage C.1 C.2 x), d_hasPage C.1 C.2 x, ↓cal_w (t_isPage C.1.1 x), t_isPage C.1.1 x, ↓cal_w (d_hasPlace C.1 C.2 y z), d_hasPlace C.1 C.2 y z, ↓cal_w (t_isAt C.1 y z), t_isAt C.1 y z, c, d]
      exact Qy.mk
    · obtain ⟨l, p, hl, hp, ht, rfl, rfl⟩ := hasP_e C.1 d
      simp (disch := omega) only [↓bnd_i, ↓cal_s, ↓cal_n, ↓cal2_s, ↓cal2_n, cal_s, cal2_s, ↓reduceIte, fa_lit, m1_lit, m2_lit, m1_lt, m2_lt, m1_eq, m2_eq, m1_le, m2_le, le_m1, le_m2, lt_m1, lt_m2, m12, m21, m1_m1, n_lt, n_le, n_eq, lt_t, lt_f, le_t, le_f, eq_t, eq_f, n_cl, inb_ok, n_add, pk_mul, pk_sub, n_rem, n_div, n_dec, n_mx, n_mn, eq_m1, eq_m2, ss_same, ss_ne, ss_r, ss_l, sr_f, sr_l, sr_same, sr_ne, sw_f, sw_l, sw_at, sw_ne, pk_us, pk_un, bI_t, bI_f, not_true_eq_false, not_false_eq_true, eq_self, and_true, true_and, and_false, false_and, or_true, true_or, or_false, false_or, decide_true, decide_false, Bool.false_eq_true, Bool.true_eq_false, ↓cal_w (d_hasPage C.1 C.2 _), d_hasPage C.1 C.2 _, ↓cal_w (t_isPage C.1.1 _), t_isPage C.1.1 _, ↓cal_w (d_hasPlace C.1 C.2 _ _), d_hasPlace C.1 C.2 _ _, ↓cal_w (t_isAt C.1 _ _), t_isAt C.1 _ _, ↓cal_w (d_lastChange hF C.1 C.2 hl hp _), d_lastChange hF C.1 C.2 hl hp _, ↓cal_w (t_changeAhead hF C.1 hl hp _), t_changeAhead hF C.1 hl hp _, c, d]
      exact Qy.mk
/-- the line of a row -/
theorem d_lineOfRow {F : Nat} (hF : 8 < F) {σ : St} {N : Nat → Int32} (h : NN N) (j : JJ σ N) {r a : Nat} (hr : r < 600) (ha : a < nl N) (h1 : sm N a ≤ r) (h2 : r < sm N (a + 1)) : f_X2_lineOfRow F σ (nI r) = some (nI a) := by
  obtain ⟨b1, b2, b3, b4, b5, b6, b7, b8⟩ := NNb h
  obtain ⟨e4, e5, e6, e7, e8⟩ := JJf h j
  have hm := j.1.2.2.2
  have key : ∀ n x, a ≤ x → x < nl N → x < n → f_X2_lineOfRow_7 F n σ (nI r) (nI x) = some (nI a) := by
    intro n
    induction n with
    | zero => intro x _ _ h; omega
    | succ n ih =>
      intro x hx hxl hn
      have hs := j_start j hxl
      have hb : sm N x ≤ sm N (nl N) := sm_mono (by omega)
      rw [f_X2_lineOfRow_7]
      by_cases c : x = a
      · subst c
        by_cases d : x = 0
        · subst d
          simp (disch := omega) only [↓bnd_i, ↓cal_s, ↓cal_n, ↓cal2_s, ↓cal2_n, cal_s, cal2_s, ↓reduceIte, fa_lit, m1_lit, m2_lit, m1_lt, m2_lt, m1_eq, m2_eq, m1_le, m2_le, le_m1, le_m2, lt_m1, lt_m2, m12, m21, m1_m1, n_lt, n_le, n_eq, lt_t, lt_f, le_t, le_f, eq_t, eq_f, n_cl, inb_ok, n_add, pk_mul, pk_sub, n_rem, n_div, n_dec, n_mx, n_mn, eq_m1, eq_m2, ss_same, ss_ne, ss_r, ss_l, sr_f, sr_l, sr_same, sr_ne, sw_f, sw_l, sw_at, sw_ne, pk_us, pk_un, bI_t, bI_f, not_true_eq_false, not_false_eq_true, eq_self, and_true, true_and, and_false, false_and, or_true, true_or, or_false, false_or, decide_true, decide_false, Bool.false_eq_true, Bool.true_eq_false]
        · simp (disch := omega) only [↓bnd_i, ↓cal_s, ↓cal_n, ↓cal2_s, ↓cal2_n, cal_s, cal2_s, ↓reduceIte, fa_lit, m1_lit, m2_lit, m1_lt, m2_lt, m1_eq, m2_eq, m1_le, m2_le, le_m1, le_m2, lt_m1, lt_m2, m12, m21, m1_m1, n_lt, n_le, n_eq, lt_t, lt_f, le_t, le_f, eq_t, eq_f, n_cl, inb_ok, n_add, pk_mul, pk_sub, n_rem, n_div, n_dec, n_mx, n_mn, eq_m1, eq_m2, ss_same, ss_ne, ss_r, ss_l, sr_f, sr_l, sr_same, sr_ne, sw_f, sw_l, sw_at, sw_ne, pk_us, pk_un, bI_t, bI_f, not_true_eq_false, not_false_eq_true, eq_self, and_true, true_and, and_false, false_and, or_true, true_or, or_false, false_or, decide_true, decide_false, Bool.false_eq_true, Bool.true_eq_false, hs]
      · have hc : sm N (a + 1) ≤ sm N x := sm_mono (by omega)
        have ih' := ih (x - 1) (by omega) (by omega) (by omega)
        simp (disch := omega) only [↓bnd_i, ↓cal_s, ↓cal_n, ↓cal2_s, ↓cal2_n, cal_s, cal2_s, ↓reduceIte, fa_lit, m1_lit, m2_lit, m1_lt, m2_lt, m1_eq, m2_eq, m1_le, m2_le, le_m1, le_m2, lt_m1, lt_m2, m12, m21, m1_m1, n_lt, n_le, n_eq, lt_t, lt_f, le_t, le_f, eq_t, eq_f, n_cl, inb_ok, n_add, pk_mul, pk_sub, n_rem, n_div, n_dec, n_mx, n_mn, eq_m1, eq_m2, ss_same, ss_ne, ss_r, ss_l, sr_f, sr_l, sr_same, sr_ne, sw_f, sw_l, sw_at, sw_ne, pk_us, pk_un, bI_t, bI_f, not_true_eq_false, not_false_eq_true, eq_self, and_true, true_and, and_false, false_and, or_true, true_or, or_false, false_or, decide_true, decide_false, Bool.false_eq_true, Bool.true_eq_false, hs]
        exact ih'
  unfold f_X2_lineOfRow
  simp (disch := omega) only [↓bnd_i, ↓cal_s, ↓cal_n, ↓cal2_s, ↓cal2_n, cal_s, cal2_s, ↓reduceIte, fa_lit, m1_lit, m2_lit, m1_lt, m2_lt, m1_eq, m2_eq, m1_le, m2_le, le_m1, le_m2, lt_m1, lt_m2, m12, m21, m1_m1, n_lt, n_le, n_eq, lt_t, lt_f, le_t, le_f, eq_t, eq_f, n_cl, inb_ok, n_add, pk_mul, pk_sub, n_rem, n_div, n_dec, n_mx, n_mn, eq_m1, eq_m2, ss_same, ss_ne, ss_r, ss_l, sr_f, sr_l, sr_same, sr_ne, sw_f, sw_l, sw_at, sw_ne, pk_us, pk_un, bI_t, bI_f, not_true_eq_false, not_false_eq_true, eq_self, and_true, true_and, and_false, false_and, or_true, true_or, or_false, false_or, decide_true, decide_false, Bool.false_eq_true, Bool.true_eq_false, e6]
  exact key F (nl N - 1) (by omega) (by omega) (by omega)
theorem t_isRecord {F : Nat} {τ : St} (h : NN (nw τ)) (x y : Int32) : f_X8_isRecord F τ x y = some (bI (hasP (nw τ) x y && decide (¬ y = nI 0))) := by
  unfold f_X8_isRecord
  cases c : hasP (nw τ) x y
  · simp (disch := omega) only [↓bnd_i, ↓cal_s, ↓cal_n, ↓cal2_s, ↓cal2_n, cal_s, cal2_s, ↓reduceIte, fa_lit, m1_lit, m2_lit, m1_lt, m2_lt, m1_eq, m2_eq, m1_le, m2_le, le_m1, le_m2, lt_m1, lt_m2, m12, m21, m1_m1, n_lt, n_le, n_eq, lt_t, lt_f, le_t, le_f, eq_t, eq_f, n_cl, inb_ok, n_add, pk_mul, pk_sub, n_rem, n_div, n_dec, n_mx, n_mn, eq_m1, eq_m2, ss_same, ss_ne, ss_r, ss_l, sr_f, sr_l, sr_same, sr_ne, sw_f, sw_l, sw_at, sw_ne, pk_us, pk_un, bI_t, bI_f, not_true_eq_false, not_false_eq_true, eq_self, and_true, true_and, and_false, false_and, or_true, true_or, or_false, false_or, decide_true, decide_false, Bool.false_eq_true, Bool.true_eq_false, ↓cal_w (t_isAt h x y), t_isAt h x y, c, Bool.false_and]
  · obtain ⟨l, p, hl, hp, ht, rfl, rfl⟩ := hasP_e h c
    by_cases d : p = 0
    · subst d
      simp (disch := omega) only [↓bnd_i, ↓cal_s, ↓cal_n, ↓cal2_s, ↓cal2_n, cal_s, cal2_s, ↓reduceIte, fa_lit, m1_lit, m2_lit, m1_lt, m2_lt, m1_eq, m2_eq, m1_le, m2_le, le_m1, le_m2, lt_m1, lt_m2, m12, m21, m1_m1, n_lt, n_le, n_eq, lt_t, lt_f, le_t, le_f, eq_t, eq_f, n_cl, inb_ok, n_add, pk_mul, pk_sub, n_rem, n_div, n_dec, n_mx, n_mn, eq_m1, eq_m2, ss_same, ss_ne, ss_r, ss_l, sr_f, sr_l, sr_same, sr_ne, sw_f, sw_l, sw_at, sw_ne, pk_us, pk_un, bI_t, bI_f, not_true_eq_false, not_false_eq_true, eq_self, and_true, true_and, and_false, false_and, or_true, true_or, or_false, false_or, decide_true, decide_false, Bool.false_eq_true, Bool.true_eq_false, ↓cal_w (t_isAt h _ _), t_isAt h _ _, c, Bool.true_and]
    · simp (disch := omega) only [↓bnd_i, ↓cal_s, ↓cal_n, ↓cal2_s, ↓cal2_n, cal_s, cal2_s, ↓reduceIte, fa_lit, m1_lit, m2_lit, m1_lt, m2_lt, m1_eq, m2_eq, m1_le, m2_le, le_m1, le_m2, lt_m1, lt_m2, m12, m21, m1_m1, n_lt, n_le, n_eq, lt_t, lt_f, le_t, le_f, eq_t, eq_f, n_cl, inb_ok, n_add, pk_mul, pk_sub, n_rem, n_div, n_dec, n_mx, n_mn, eq_m1, eq_m2, ss_same, ss_ne, ss_r, ss_l, sr_f, sr_l, sr_same, sr_ne, sw_f, sw_l, sw_at, sw_ne, pk_us, pk_un, bI_t, bI_f, not_true_eq_false, not_false_eq_true, eq_self, and_true, true_and, and_false, false_and, or_true, true_or, or_false, false_or, decide_true, decide_false, Bool.false_eq_true, Bool.true_eq_false, ↓cal_w (t_isAt h _ _), t_isAt h _ _, c, Bool.true_and]
theorem q_record {F : Nat} (hF : 300 < F) {σ τ : St} (C : Core σ τ) (x y z : Int32) : Qy (f_X7_record F σ x y z) (f_X8_record F τ x y z) := by
  obtain ⟨b1, b2, b3, b4, b5, b6, b7, b8⟩ := NNb C.1
  unfold f_X7_record f_X8_record
  by_cases c : hasP (nw τ) x y = true ∧ ¬ y = nI 0
  · obtain ⟨c1, c2⟩ := c
    obtain ⟨l, p, hl, hp, ht, rfl, rfl⟩ := hasP_e C.1 c1
    have hp1 : 1 ≤ p := by
      rcases Nat.eq_zero_or_pos p with h | h
      · rw [h] at c2; exact absurd rfl c2
      · exact h
    obtain ⟨r1, r2, r3, r4⟩ := ro_in C.1 C.2 hl hp1 hp
    obtain ⟨s1, s2, s3⟩ := j_rec C.1 C.2 hl hp1 hp
    have ho := ow_lt C.1.2.1 (p := p) hl
    have a1' : τ.2.1 19 (1380 + 3 * (241 * ow (nw τ) l p + p)) = nI (srt (nw τ) l p) := (rc_in C.1 hl hp1 hp).1
    have a4' : τ.2.1 19 (1380 + 3 * (241 * ow (nw τ) l p + p) + 1) = rc (nw τ) l p 1 := rfl
    have dr := d_row (show 8 < F by omega) C.1 C.2 hl hp1 hp
    have tr := t_isRecord (F := F) C.1 (nI l) (nI p)
    rw [c1, decide_eq_true c2] at tr
    have hin := in_isN (F := F) (τ := τ) (x := z) (n := 3) (by omega) (by omega)
    rw [pk_sub (by omega)] at hin
    have t2 := t_ownerOf (F := F) C.1.1 C.1.2.1 F l p (by omega) hl (by omega)
    by_cases z0 : z = nI 0
    · subst z0
      simp (disch := omega) only [↓bnd_i, ↓cal_s, ↓cal_n, ↓cal2_s, ↓cal2_n, cal_s, cal2_s, ↓reduceIte, fa_lit, m1_lit, m2_lit, m1_lt, m2_lt, m1_eq, m2_eq, m1_le, m2_le, le_m1, le_m2, lt_m1, lt_m2, m12, m21, m1_m1, n_lt, n_le, n_eq, lt_t, lt_f, le_t, le_f, eq_t, eq_f, n_cl, inb_ok, n_add, pk_mul, pk_sub, n_rem, n_div, n_dec, n_mx, n_mn, eq_m1, eq_m2, ss_same, ss_ne, ss_r, ss_l, sr_f, sr_l, sr_same, sr_ne, sw_f, sw_l, sw_at, sw_ne, pk_us, pk_un, bI_t, bI_f, not_true_eq_false, not_false_eq_true, eq_self, and_true, true_and, and_false, false_and, or_true, true_or, or_false, false_or, decide_true, decide_false, Bool.false_eq_true, Bool.true_eq_false, ↓cal_w (dr), dr, ↓cal_w (tr), tr, ↓cal_w (hin), hin, ↓cal_w (d_hasRow C.1 C.2 r3), d_hasRow C.1 C.2 r3, ↓cal_w (t_recordAt C.1.1 C.1.2.1 (show 8 < F by omega) hl (show p ≤ 240 by omega)), t_recordAt C.1.1 C.1.2.1 (show 8 < F by omega) hl (show p ≤ 240 by omega), isN_t (show 0 < 3 by omega) (by omega), Bool.true_and, f_X2_sortIn, s1, a1', Nat.add_zero]
      exact Qy.mk
    · by_cases z1 : z = nI 1
      · subst z1
        simp (disch := omega) only [↓bnd_i, ↓cal_s, ↓cal_n, ↓cal2_s, ↓cal2_n, cal_s, cal2_s, ↓reduceIte, fa_lit, m1_lit, m2_lit, m1_lt, m2_lt, m1_eq, m2_eq, m1_le, m2_le, le_m1, le_m2, lt_m1, lt_m2, m12, m21, m1_m1, n_lt, n_le, n_eq, lt_t, lt_f, le_t, le_f, eq_t, eq_f, n_cl, inb_ok, n_add, pk_mul, pk_sub, n_rem, n_div, n_dec, n_mx, n_mn, eq_m1, eq_m2, ss_same, ss_ne, ss_r, ss_l, sr_f, sr_l, sr_same, sr_ne, sw_f, sw_l, sw_at, sw_ne, pk_us, pk_un, bI_t, bI_f, not_true_eq_false, not_false_eq_true, eq_self, and_true, true_and, and_false, false_and, or_true, true_or, or_false, false_or, decide_true, decide_false, Bool.false_eq_true, Bool.true_eq_false, ↓cal_w (dr), dr, ↓cal_w (tr), tr, ↓cal_w (hin), hin, ↓cal_w (d_hasRow C.1 C.2 r3), d_hasRow C.1 C.2 r3, ↓cal_w (t_recordAt C.1.1 C.1.2.1 (show 8 < F by omega) hl (show p ≤ 240 by omega)), t_recordAt C.1.1 C.1.2.1 (show 8 < F by omega) hl (show p ≤ 240 by omega), isN_t (show 1 < 3 by omega) (by omega), Bool.true_and, f_X2_subjectIn, s2, a4']
        exact Qy.mk
      · by_cases z2 : z = nI 2
        · subst z2
          simp (disch := omega) only [↓bnd_i, ↓cal_s, ↓cal_n, ↓cal2_s, ↓cal2_n, cal_s, cal2_s, ↓reduceIte, fa_lit, m1_lit, m2_lit, m1_lt, m2_lt, m1_eq, m2_eq, m1_le, m2_le, le_m1, le_m2, lt_m1, lt_m2, m12, m21, m1_m1, n_lt, n_le, n_eq, lt_t, lt_f, le_t, le_f, eq_t, eq_f, n_cl, inb_ok, n_add, pk_mul, pk_sub, n_rem, n_div, n_dec, n_mx, n_mn, eq_m1, eq_m2, ss_same, ss_ne, ss_r, ss_l, sr_f, sr_l, sr_same, sr_ne, sw_f, sw_l, sw_at, sw_ne, pk_us, pk_un, bI_t, bI_f, not_true_eq_false, not_false_eq_true, eq_self, and_true, true_and, and_false, false_and, or_true, true_or, or_false, false_or, decide_true, decide_false, Bool.false_eq_true, Bool.true_eq_false, ↓cal_w (dr), dr, ↓cal_w (tr), tr, ↓cal_w (hin), hin, ↓cal_w (d_lineOfRow (show 8 < F by omega) C.1 C.2 (show ro (nw τ) l p < 600 by omega) r4 r1 r2), d_lineOfRow (show 8 < F by omega) C.1 C.2 (show ro (nw τ) l p < 600 by omega) r4 r1 r2, ↓cal_w (t2), t2, isN_t (show 2 < 3 by omega) (by omega), Bool.true_and, f_X8_ownerOf]
          exact Qy.mk
        · have hz : isN z 3 = false := by
            cases hz : isN z 3
            · rfl
            · obtain ⟨k, hk, rfl⟩ := isN_e hz (by omega)
              rw [n_eq (by omega) (by omega)] at z0 z1 z2
              omega
          simp (disch := omega) only [↓bnd_i, ↓cal_s, ↓cal_n, ↓cal2_s, ↓cal2_n, cal_s, cal2_s, ↓reduceIte, fa_lit, m1_lit, m2_lit, m1_lt, m2_lt, m1_eq, m2_eq, m1_le, m2_le, le_m1, le_m2, lt_m1, lt_m2, m12, m21, m1_m1, n_lt, n_le, n_eq, lt_t, lt_f, le_t, le_f, eq_t, eq_f, n_cl, inb_ok, n_add, pk_mul, pk_sub, n_rem, n_div, n_dec, n_mx, n_mn, eq_m1, eq_m2, ss_same, ss_ne, ss_r, ss_l, sr_f, sr_l, sr_same, sr_ne, sw_f, sw_l, sw_at, sw_ne, pk_us, pk_un, bI_t, bI_f, not_true_eq_false, not_false_eq_true, eq_self, and_true, true_and, and_false, false_and, or_true, true_or, or_false, false_or, decide_true, decide_false, Bool.false_eq_true, Bool.true_eq_false, ↓cal_w (dr), dr, ↓cal_w (tr), tr, ↓cal_w (hin), hin, hz, Bool.true_and, eq_false z0, eq_false z1, eq_false z2]
          exact Qy.mk
  · have dr := d_rowN (F := F) C.1 C.2 (x := x) (y := y) (by
      cases e : hasP (nw τ) x y
      · exact Or.inl rfl
      · by_cases e2 : y = nI 0
        · exact Or.inr e2
        · exact absurd ⟨e, e2⟩ c)
    have tr := t_isRecord (F := F) C.1 x y
    have e : (hasP (nw τ) x y && decide (¬ y = nI 0)) = false := by
      cases e : hasP (nw τ) x y
      · rfl
      · by_cases e2 : y = nI 0
        · simp [e2]
        · exact absurd ⟨e, e2⟩ c
    rw [e] at tr
    simp (disch := omega) only [↓bnd_i, ↓cal_s, ↓cal_n, ↓cal2_s, ↓cal2_n, cal_s, cal2_s, ↓reduceIte, fa_lit, m1_lit, m2_lit, m1_lt, m2_lt, m1_eq, m2_eq, m1_le, m2_le, le_m1, le_m2, lt_m1, lt_m2, m12, m21, m1_m1, n_lt, n_le, n_eq, lt_t, lt_f, le_t, le_f, eq_t, eq_f, n_cl, inb_ok, n_add, pk_mul, pk_sub, n_rem, n_div, n_dec, n_mx, n_mn, eq_m1, eq_m2, ss_same, ss_ne, ss_r, ss_l, sr_f, sr_l, sr_same, sr_ne, sw_f, sw_l, sw_at, sw_ne, pk_us, pk_un, bI_t, bI_f, not_true_eq_false, not_false_eq_true, eq_self, and_true, true_and, and_false, false_and, or_true, true_or, or_false, false_or, decide_true, decide_false, Bool.false_eq_true, Bool.true_eq_false, ↓cal_w (dr), dr, ↓cal_w (tr), tr]
    exact Qy.mk
theorem q_value {F : Nat} (hF : 300 < F) {σ τ : St} (C : Core σ τ) (x y : Int32) : Qy (f_X7_value F σ x y) (f_X8_value F τ x y) := by
  obtain ⟨b1, b2, b3, b4, b5, b6, b7, b8⟩ := NNb C.1
  unfold f_X7_value f_X8_value
  by_cases c : hasP (nw τ) x y = true ∧ ¬ y = nI 0
  · obtain ⟨c1, c2⟩ := c
    obtain ⟨l, p, hl, hp, ht, rfl, rfl⟩ := hasP_e C.1 c1
    have hp1 : 1 ≤ p := by
      rcases Nat.eq_zero_or_pos p with h | h
      · rw [h] at c2; exact absurd rfl c2
      · exact h
    obtain ⟨r1, r2, r3, r4⟩ := ro_in C.1 C.2 hl hp1 hp
    obtain ⟨s1, s2, s3⟩ := j_rec C.1 C.2 hl hp1 hp
    have ho := ow_lt C.1.2.1 (p := p) hl
    have a5' : τ.2.1 19 (1380 + 3 * (241 * ow (nw τ) l p + p) + 2) = rc (nw τ) l p 2 := rfl
    have dr := d_row (show 8 < F by omega) C.1 C.2 hl hp1 hp
    have tr := t_isRecord (F := F) C.1 (nI l) (nI p)
    rw [c1, decide_eq_true c2] at tr
    simp (disch := omega) only [↓bnd_i, ↓cal_s, ↓cal_n, ↓cal2_s, ↓cal2_n, cal_s, cal2_s, ↓reduceIte, fa_lit, m1_lit, m2_lit, m1_lt, m2_lt, m1_eq, m2_eq, m1_le, m2_le, le_m1, le_m2, lt_m1, lt_m2, m12, m21, m1_m1, n_lt, n_le, n_eq, lt_t, lt_f, le_t, le_f, eq_t, eq_f, n_cl, inb_ok, n_add, pk_mul, pk_sub, n_rem, n_div, n_dec, n_mx, n_mn, eq_m1, eq_m2, ss_same, ss_ne, ss_r, ss_l, sr_f, sr_l, sr_same, sr_ne, sw_f, sw_l, sw_at, sw_ne, pk_us, pk_un, bI_t, bI_f, not_true_eq_false, not_false_eq_true, eq_self, and_true, true_and, and_false, false_and, or_true, true_or, or_false, false_or, decide_true, decide_false, Bool.false_eq_true, Bool.true_eq_false, ↓cal_w (dr), dr, ↓cal_w (tr), tr, ↓cal_w (d_hasRow C.1 C.2 r3), d_hasRow C.1 C.2 r3, ↓cal_w (t_recordAt C.1.1 C.1.2.1 (show 8 < F by omega) hl (show p ≤ 240 by omega)), t_recordAt C.1.1 C.1.2.1 (show 8 < F by omega) hl (show p ≤ 240 by omega), Bool.true_and, f_X2_amountIn, s3, a5']
    exact Qy.mk
  · have dr := d_rowN (F := F) C.1 C.2 (x := x) (y := y) (by
      cases e : hasP (nw τ) x y
      · exact Or.inl rfl
      · by_cases e2 : y = nI 0
        · exact Or.inr e2
        · exact absurd ⟨e, e2⟩ c)
    have tr := t_isRecord (F := F) C.1 x y
    have e : (hasP (nw τ) x y && decide (¬ y = nI 0)) = false := by
      cases e : hasP (nw τ) x y
      · rfl
      · by_cases e2 : y = nI 0
        · simp [e2]
        · exact absurd ⟨e, e2⟩ c
    rw [e] at tr
    simp (disch := omega) only [↓bnd_i, ↓cal_s, ↓cal_n, ↓cal2_s, ↓cal2_n, cal_s, cal2_s, ↓reduceIte, fa_lit, m1_lit, m2_lit, m1_lt, m2_lt, m1_eq, m2_eq, m1_le, m2_le, le_m1, le_m2, lt_m1, lt_m2, m12, m21, m1_m1, n_lt, n_le, n_eq, lt_t, lt_f, le_t, le_f, eq_t, eq_f, n_cl, inb_ok, n_add, pk_mul, pk_sub, n_rem, n_div, n_dec, n_mx, n_mn, eq_m1, eq_m2, ss_same, ss_ne, ss_r, ss_l, sr_f, sr_l, sr_same, sr_ne, sw_f, sw_l, sw_at, sw_ne, pk_us, pk_un, bI_t, bI_f, not_true_eq_false, not_false_eq_true, eq_self, and_true, true_and, and_false, false_and, or_true, true_or, or_false, false_or, decide_true, decide_false, Bool.false_eq_true, Bool.true_eq_false, ↓cal_w (dr), dr, ↓cal_w (tr), tr, ↓cal_w (d_hasRowN), d_hasRowN, f_X2_amountIn]
    exact Qy.mk
/-- the last mark with a number up to a place; 0: none -/
def lm (N : Nat → Int32) (l : Nat) (x : Int32) : Nat → Nat
  | 0 => 0
  | p + 1 => if mk N l (p + 1) x then p + 1 else lm N l x p
def stv (z : Int32) (q : Nat) : Int32 := if q = 0 then m2 else if z = 0 then nI (q - 1) else nI q
theorem q_stop {F : Nat} (hF : 300 < F) {σ τ : St} (C : Core σ τ) (x y z : Int32) : Qy (f_X7_stop F σ x y z) (f_X8_stop F τ x y z) := by
  obtain ⟨b1, b2, b3, b4, b5, b6, b7, b8⟩ := NNb C.1
  unfold f_X7_stop f_X8_stop
  cases c : isN x (nl (nw τ))
  · simp (disch := omega) only [↓bnd_i, ↓cal_s, ↓cal_n, ↓cal2_s, ↓cal2_n, cal_s, cal2_s, ↓reduceIte, fa_lit, m1_lit, m2_lit, m1_lt, m2_lt, m1_eq, m2_eq, m1_le, m2_le, le_m1, le_m2, lt_m1, lt_m2, m12, m21, m1_m1, n_lt, n_le, n_eq, lt_t, lt_f, le_t, le_f, eq_t, eq_f, n_cl, inb_ok, n_add, pk_mul, pk_sub, n_rem, n_div, n_dec, n_mx, n_mn, eq_m1, eq_m2, ss_same, ss_ne, ss_r, ss_l, sr_f, sr_l, sr_same, sr_ne, sw_f, sw_l, sw_at, sw_ne, pk_us, pk_un, bI_t, bI_f, not_true_eq_false, not_false_eq_true, eq_self, and_true, true_and, and_false, false_and, or_true, true_or, or_false, false_or, decide_true, decide_false, Bool.false_eq_true, Bool.true_eq_false, ↓cal_w (d_hasLine C.1.1 C.2.1 x), d_hasLine C.1.1 C.2.1 x, ↓cal_w (t_isLine C.1.1 x), t_isLine C.1.1 x, c]
    exact Qy.mk
  · obtain ⟨l, hl, rfl⟩ := isN_e c (by omega)
    have ht := C.1.2.1.1 l hl
    have h8 : l < 8 := by omega
    have k1 : ∀ n p, p ≤ tp (nw τ) l → p < n → f_X7_stop_23 F n σ (nI l) y z (nI p) = some (stv z (lm (nw τ) l y p)) := by
      intro n
      induction n with
      | zero => intro p _ h; omega
      | succ n ih =>
        intro p hp hn
        rw [f_X7_stop_23]
        cases p with
        | zero => simp (disch := omega) only [↓bnd_i, ↓cal_s, ↓cal_n, ↓cal2_s, ↓cal2_n, cal_s, cal2_s, ↓reduceIte, fa_lit, m1_lit, m2_lit, m1_lt, m2_lt, m1_eq, m2_eq, m1_le, m2_le, le_m1, le_m2, lt_m1, lt_m2, m12, m21, m1_m1, n_lt, n_le, n_eq, lt_t, lt_f, le_t, le_f, eq_t, eq_f, n_cl, inb_ok, n_add, pk_mul, pk_sub, n_rem, n_div, n_dec, n_mx, n_mn, eq_m1, eq_m2, ss_same, ss_ne, ss_r, ss_l, sr_f, sr_l, sr_same, sr_ne, sw_f, sw_l, sw_at, sw_ne, pk_us, pk_un, bI_t, bI_f, not_true_eq_false, not_false_eq_true, eq_self, and_true, true_and, and_false, false_and, or_true, true_or, or_false, false_or, decide_true, decide_false, Bool.false_eq_true, Bool.true_eq_false, lm, stv]
        | succ p =>
          have ih' := ih p (by omega) (by omega)
          rw [lm]
          cases d : mk (nw τ) l (p + 1) y
          · simp (disch := omega) only [↓bnd_i, ↓cal_s, ↓cal_n, ↓cal2_s, ↓cal2_n, cal_s, cal2_s, ↓reduceIte, fa_lit, m1_lit, m2_lit, m1_lt, m2_lt, m1_eq, m2_eq, m1_le, m2_le, le_m1, le_m2, lt_m1, lt_m2, m12, m21, m1_m1, n_lt, n_le, n_eq, lt_t, lt_f, le_t, le_f, eq_t, eq_f, n_cl, inb_ok, n_add, pk_mul, pk_sub, n_rem, n_div, n_dec, n_mx, n_mn, eq_m1, eq_m2, ss_same, ss_ne, ss_r, ss_l, sr_f, sr_l, sr_same, sr_ne, sw_f, sw_l, sw_at, sw_ne, pk_us, pk_un, bI_t, bI_f, not_true_eq_false, not_false_eq_true, eq_self, and_true, true_and, and_false, false_and, or_true, true_or, or_false, false_or, decide_true, decide_false, Bool.false_eq_true, Bool.true_eq_false, ↓cal_w (d_row (show 8 < F by omega) C.1 C.2 hl (show 1 ≤ p + 1 by omega) hp), d_row (show 8 < F by omega) C.1 C.2 hl (show 1 ≤ p + 1 by omega) hp, ↓cal_w (d_isMark C.1 C.2 hl (show 1 ≤ p + 1 by omega) hp _), d_isMark C.1 C.2 hl (show 1 ≤ p + 1 by omega) hp _, d, Nat.add_sub_cancel]
            exact ih'
          · by_cases hz : z = nI 0
            · simp (disch := omega) only [↓bnd_i, ↓cal_s, ↓cal_n, ↓cal2_s, ↓cal2_n, cal_s, cal2_s, ↓reduceIte, fa_lit, m1_lit, m2_lit, m1_lt, m2_lt, m1_eq, m2_eq, m1_le, m2_le, le_m1, le_m2, lt_m1, lt_m2, m12, m21, m1_m1, n_lt, n_le, n_eq, lt_t, lt_f, le_t, le_f, eq_t, eq_f, n_cl, inb_ok, n_add, pk_mul, pk_sub, n_rem, n_div, n_dec, n_mx, n_mn, eq_m1, eq_m2, ss_same, ss_ne, ss_r, ss_l, sr_f, sr_l, sr_same, sr_ne, sw_f, sw_l, sw_at, sw_ne, pk_us, pk_un, bI_t, bI_f, not_true_eq_false, not_false_eq_true, eq_self, and_true, true_and, and_false, false_and, or_true, true_or, or_false, false_or, decide_true, decide_false, Bool.false_eq_true, Bool.true_eq_false, ↓cal_w (d_row (show 8 < F by omega) C.1 C.2 hl (show 1 ≤ p + 1 by omega) hp), d_row (show 8 < F by omega) C.1 C.2 hl (show 1 ≤ p + 1 by omega) hp, ↓cal_w (d_isMark C.1 C.2 hl (show 1 ≤ p + 1 by omega) hp _), d_isMark C.1 C.2 hl (show 1 ≤ p + 1 by omega) hp _, d, hz, stv]
            · simp (disch := omega) only [↓bnd_i, ↓cal_s, ↓cal_n, ↓cal2_s, ↓cal2_n, cal_s, cal2_s, ↓reduceIte, fa_lit, m1_lit, m2_lit, m1_lt, m2_lt, m1_eq, m2_eq, m1_le, m2_le, le_m1, le_m2, lt_m1, lt_m2, m12, m21, m1_m1, n_lt, n_le, n_eq, lt_t, lt_f, le_t, le_f, eq_t, eq_f, n_cl, inb_ok, n_add, pk_mul, pk_sub, n_rem, n_div, n_dec, n_mx, n_mn, eq_m1, eq_m2, ss_same, ss_ne, ss_r, ss_l, sr_f, sr_l, sr_same, sr_ne, sw_f, sw_l, sw_at, sw_ne, pk_us, pk_un, bI_t, bI_f, not_true_eq_false, not_false_eq_true, eq_self, and_true, true_and, and_false, false_and, or_true, true_or, or_false, false_or, decide_true, decide_false, Bool.false_eq_true, Bool.true_eq_false, ↓cal_w (d_row (show 8 < F by omega) C.1 C.2 hl (show 1 ≤ p + 1 by omega) hp), d_row (show 8 < F by omega) C.1 C.2 hl (show 1 ≤ p + 1 by omega) hp, ↓cal_w (d_isMark C.1 C.2 hl (show 1 ≤ p + 1 by omega) hp _), d_isMark C.1 C.2 hl (show 1 ≤ p + 1 by omega) hp _, d, eq_false hz, stv]
    have k2 : ∀ n i, i ≤ tp (nw τ) l → tp (nw τ) l - i < n → f_X8_stop_17 F n τ (nI l) y z (stv z (lm (nw τ) l y i)) (nI (i + 1)) = some (stv z (lm (nw τ) l y (tp (nw τ) l))) := by
      intro n
      induction n with
      | zero => intro i _ h; omega
      | succ n ih =>
        intro i hi hn
        rw [f_X8_stop_17]
        by_cases d0 : i = tp (nw τ) l
        · rw [d0]
          simp (disch := omega) only [↓bnd_i, ↓cal_s, ↓cal_n, ↓cal2_s, ↓cal2_n, cal_s, cal2_s, ↓reduceIte, fa_lit, m1_lit, m2_lit, m1_lt, m2_lt, m1_eq, m2_eq, m1_le, m2_le, le_m1, le_m2, lt_m1, lt_m2, m12, m21, m1_m1, n_lt, n_le, n_eq, lt_t, lt_f, le_t, le_f, eq_t, eq_f, n_cl, inb_ok, n_add, pk_mul, pk_sub, n_rem, n_div, n_dec, n_mx, n_mn, eq_m1, eq_m2, ss_same, ss_ne, ss_r, ss_l, sr_f, sr_l, sr_same, sr_ne, sw_f, sw_l, sw_at, sw_ne, pk_us, pk_un, bI_t, bI_f, not_true_eq_false, not_false_eq_true, eq_self, and_true, true_and, and_false, false_and, or_true, true_or, or_false, false_or, decide_true, decide_false, Bool.false_eq_true, Bool.true_eq_false, ↓cal_w (t_placeOf (τ := τ) h8), t_placeOf (τ := τ) h8, ht.1]
        · have ih' := ih (i + 1) (by omega) (by omega)
          rw [lm] at ih'
          cases d : mk (nw τ) l (i + 1) y
          · rw [d] at ih'
            simp (disch := omega) only [↓bnd_i, ↓cal_s, ↓cal_n, ↓cal2_s, ↓cal2_n, cal_s, cal2_s, ↓reduceIte, fa_lit, m1_lit, m2_lit, m1_lt, m2_lt, m1_eq, m2_eq, m1_le, m2_le, le_m1, le_m2, lt_m1, lt_m2, m12, m21, m1_m1, n_lt, n_le, n_eq, lt_t, lt_f, le_t, le_f, eq_t, eq_f, n_cl, inb_ok, n_add, pk_mul, pk_sub, n_rem, n_div, n_dec, n_mx, n_mn, eq_m1, eq_m2, ss_same, ss_ne, ss_r, ss_l, sr_f, sr_l, sr_same, sr_ne, sw_f, sw_l, sw_at, sw_ne, pk_us, pk_un, bI_t, bI_f, not_true_eq_false, not_false_eq_true, eq_self, and_true, true_and, and_false, false_and, or_true, true_or, or_false, false_or, decide_true, decide_false, Bool.false_eq_true, Bool.true_eq_false, ↓cal_w (t_placeOf (τ := τ) h8), t_placeOf (τ := τ) h8, ↓cal_w (t_isMark (show 8 < F by omega) C.1 hl (show 1 ≤ i + 1 by omega) (show i + 1 ≤ tp (nw τ) l by omega) _), t_isMark (show 8 < F by omega) C.1 hl (show 1 ≤ i + 1 by omega) (show i + 1 ≤ tp (nw τ) l by omega) _, ht.1, d, f_X8_stop_53]
            exact ih'
          · rw [d, if_pos rfl, stv, if_neg (by omega)] at ih'
            by_cases hz : z = nI 0
            · rw [if_pos (show z = 0 from hz)] at ih'
              simp (disch := omega) only [↓bnd_i, ↓cal_s, ↓cal_n, ↓cal2_s, ↓cal2_n, cal_s, cal2_s, ↓reduceIte, fa_lit, m1_lit, m2_lit, m1_lt, m2_lt, m1_eq, m2_eq, m1_le, m2_le, le_m1, le_m2, lt_m1, lt_m2, m12, m21, m1_m1, n_lt, n_le, n_eq, lt_t, lt_f, le_t, le_f, eq_t, eq_f, n_cl, inb_ok, n_add, pk_mul, pk_sub, n_rem, n_div, n_dec, n_mx, n_mn, eq_m1, eq_m2, ss_same, ss_ne, ss_r, ss_l, sr_f, sr_l, sr_same, sr_ne, sw_f, sw_l, sw_at, sw_ne, pk_us, pk_un, bI_t, bI_f, not_true_eq_false, not_false_eq_true, eq_self, and_true, true_and, and_false, false_and, or_true, true_or, or_false, false_or, decide_true, decide_false, Bool.false_eq_true, Bool.true_eq_false, ↓cal_w (t_placeOf (τ := τ) h8), t_placeOf (τ := τ) h8, ↓cal_w (t_isMark (show 8 < F by omega) C.1 hl (show 1 ≤ i + 1 by omega) (show i + 1 ≤ tp (nw τ) l by omega) _), t_isMark (show 8 < F by omega) C.1 hl (show 1 ≤ i + 1 by omega) (show i + 1 ≤ tp (nw τ) l by omega) _, ht.1, d, eq_true hz, f_X8_stop_53, f_X8_stop_51]
              exact ih'
            · rw [if_neg (show ¬ z = 0 from hz)] at ih'
              simp (disch := omega) only [↓bnd_i, ↓cal_s, ↓cal_n, ↓cal2_s, ↓cal2_n, cal_s, cal2_s, ↓reduceIte, fa_lit, m1_lit, m2_lit, m1_lt, m2_lt, m1_eq, m2_eq, m1_le, m2_le, le_m1, le_m2, lt_m1, lt_m2, m12, m21, m1_m1, n_lt, n_le, n_eq, lt_t, lt_f, le_t, le_f, eq_t, eq_f, n_cl, inb_ok, n_add, pk_mul, pk_sub, n_rem, n_div, n_dec, n_mx, n_mn, eq_m1, eq_m2, ss_same, ss_ne, ss_r, ss_l, sr_f, sr_l, sr_same, sr_ne, sw_f, sw_l, sw_at, sw_ne, pk_us, pk_un, bI_t, bI_f, not_true_eq_false, not_false_eq_true, eq_self, and_true, true_and, and_false, false_and, or_true, true_or, or_false, false_or, decide_true, decide_false, Bool.false_eq_true, Bool.true_eq_false, ↓cal_w (t_placeOf (τ := τ) h8), t_placeOf (τ := τ) h8, ↓cal_w (t_isMark (show 8 < F by omega) C.1 hl (show 1 ≤ i + 1 by omega) (show i + 1 ≤ tp (nw τ) l by omega) _), t_isMark (show 8 < F by omega) C.1 hl (show 1 ≤ i + 1 by omega) (show i + 1 ≤ tp (nw τ) l by omega) _, ht.1, d, eq_false hz, f_X8_stop_53, f_X8_stop_51]
              exact ih'
    have e1 := k1 F (tp (nw τ) l) (Nat.le_refl _) (by omega)
    have e2 : f_X8_stop_17 F F τ (nI l) y z m2 (nI 1) = _ := k2 F 0 (by omega) (by omega)
    simp (disch := omega) only [↓bnd_i, ↓cal_s, ↓cal_n, ↓cal2_s, ↓cal2_n, cal_s, cal2_s, ↓reduceIte, fa_lit, m1_lit, m2_lit, m1_lt, m2_lt, m1_eq, m2_eq, m1_le, m2_le, le_m1, le_m2, lt_m1, lt_m2, m12, m21, m1_m1, n_lt, n_le, n_eq, lt_t, lt_f, le_t, le_f, eq_t, eq_f, n_cl, inb_ok, n_add, pk_mul, pk_sub, n_rem, n_div, n_dec, n_mx, n_mn, eq_m1, eq_m2, ss_same, ss_ne, ss_r, ss_l, sr_f, sr_l, sr_same, sr_ne, sw_f, sw_l, sw_at, sw_ne, pk_us, pk_un, bI_t, bI_f, not_true_eq_false, not_false_eq_true, eq_self, and_true, true_and, and_false, false_and, or_true, true_or, or_false, false_or, decide_true, decide_false, Bool.false_eq_true, Bool.true_eq_false, ↓cal_w (d_hasLine C.1.1 C.2.1 _), d_hasLine C.1.1 C.2.1 _, ↓cal_w (t_isLine C.1.1 _), t_isLine C.1.1 _, ↓cal_w (d_tipOf C.1 C.2 hl), d_tipOf C.1 C.2 hl, ↓cal_w (e1), e1, ↓cal_w (e2), e2, c]
    exact Qy.mk
