/-! PURE: records, on both sides -/
def hasP (N : Nat → Int32) (x y : Int32) : Bool := isN x (nl N) && isN y (tp N x.toNatClampNeg + 1)
theorem hasP_e {N : Nat → Int32} (h : NN N) {x y : Int32} (e : hasP N x y = true) : ∃ l p, l < nl N ∧ p ≤ tp N l ∧ tp N l ≤ 240 ∧ x = nI l ∧ y = nI p := by
  obtain ⟨b1, b2, b3, b4, b5, b6, b7, b8⟩ := NNb h
  unfold hasP at e
  rw [Bool.and_eq_true] at e
  obtain ⟨l, hl, rfl⟩ := isN_e e.1 (by omega)
  have ht := (h.2.1.1 l hl).2
  rw [n_cl (by omega)] at e
  obtain ⟨p, hp, rfl⟩ := isN_e e.2 (by omega)
  exact ⟨l, p, hl, by omega, ht, rfl, rfl⟩
theorem isN_t {k n : Nat} (h : k < n) (hn : n ≤ 2 ^ 31) : isN (nI k) n = true := by rw [isN_n (by omega)]; exact decide_eq_true h
theorem hasP_t {N : Nat → Int32} (h : NN N) {l p : Nat} (hl : l < nl N) (hp : p ≤ tp N l) : hasP N (nI l) (nI p) = true := by
  obtain ⟨b1, b2, b3, b4, b5, b6, b7, b8⟩ := NNb h
  have ht := (h.2.1.1 l hl).2
  unfold hasP
  rw [n_cl (by omega), isN_t hl (by omega), isN_t (by omega) (by omega)]
  rfl
theorem d_hasPlace {F : Nat} {σ : St} {N : Nat → Int32} (h : NN N) (j : JJ σ N) (x y : Int32) : f_X2_hasPlace F σ x y = some (bI (hasP N x y)) := by
  obtain ⟨b1, b2, b3, b4, b5, b6, b7, b8⟩ := NNb h
  unfold f_X2_hasPlace hasP
  cases c : isN x (nl N)
  · simp (disch := omega) only [↓bnd_i, ↓cal_s, ↓cal_n, ↓cal2_s, ↓cal2_n, cal_s, cal2_s, ↓reduceIte, fa_lit, m1_lit, m2_lit, m1_lt, m2_lt, m1_eq, m2_eq, m1_le, m2_le, le_m1, le_m2, lt_m1, lt_m2, m12, m21, m1_m1, n_lt, n_le, n_eq, lt_t, lt_f, le_t, le_f, eq_t, eq_f, n_cl, inb_ok, n_add, pk_mul, pk_sub, n_rem, n_div, n_dec, n_mx, n_mn, eq_m1, eq_m2, ss_same, ss_ne, ss_r, ss_l, sr_f, sr_l, sr_same, sr_ne, sw_f, sw_l, sw_at, sw_ne, pk_us, pk_un, bI_t, bI_f, not_true_eq_false, not_false_eq_true, eq_self, and_true, true_and, and_false, false_and, or_true, true_or, or_false, false_or, decide_true, decide_false, Bool.false_eq_true, Bool.true_eq_false, ↓cal_w (d_hasLine h.1 j.1 x), d_hasLine h.1 j.1 x, c, Bool.false_and]
  · obtain ⟨l, hl, rfl⟩ := isN_e c (by omega)
    have ht := (h.2.1.1 l hl).2
    rw [n_cl (by omega), Bool.true_and]
    rcases n_ex y with hy | ⟨p, hp, rfl⟩
    · have e : isN y (tp N l + 1) = false := by simp [isN, hy]
      simp (disch := omega) only [↓bnd_i, ↓cal_s, ↓cal_n, ↓cal2_s, ↓cal2_n, cal_s, cal2_s, ↓reduceIte, fa_lit, m1_lit, m2_lit, m1_lt, m2_lt, m1_eq, m2_eq, m1_le, m2_le, le_m1, le_m2, lt_m1, lt_m2, m12, m21, m1_m1, n_lt, n_le, n_eq, lt_t, lt_f, le_t, le_f, eq_t, eq_f, n_cl, inb_ok, n_add, pk_mul, pk_sub, n_rem, n_div, n_dec, n_mx, n_mn, eq_m1, eq_m2, ss_same, ss_ne, ss_r, ss_l, sr_f, sr_l, sr_same, sr_ne, sw_f, sw_l, sw_at, sw_ne, pk_us, pk_un, bI_t, bI_f, not_true_eq_false, not_false_eq_true, eq_self, and_true, true_and, and_false, false_and, or_true, true_or, or_false, false_or, decide_true, decide_false, Bool.false_eq_true, Bool.true_eq_false, ↓cal_w (d_hasLine h.1 j.1 _), d_hasLine h.1 j.1 _, c, e, eq_true (show y < nI 0 from hy)]
    · rw [isN_n hp]
      by_cases d : p < tp N l + 1
      · simp (disch := omega) only [↓bnd_i, ↓cal_s, ↓cal_n, ↓cal2_s, ↓cal2_n, cal_s, cal2_s, ↓reduceIte, fa_lit, m1_lit, m2_lit, m1_lt, m2_lt, m1_eq, m2_eq, m1_le, m2_le, le_m1, le_m2, lt_m1, lt_m2, m12, m21, m1_m1, n_lt, n_le, n_eq, lt_t, lt_f, le_t, le_f, eq_t, eq_f, n_cl, inb_ok, n_add, pk_mul, pk_sub, n_rem, n_div, n_dec, n_mx, n_mn, eq_m1, eq_m2, ss_same, ss_ne, ss_r, ss_l, sr_f, sr_l, sr_same, sr_ne, sw_f, sw_l, sw_at, sw_ne, pk_us, pk_un, bI_t, bI_f, not_true_eq_false, not_false_eq_true, eq_self, and_true, true_and, and_false, false_and, or_true, true_or, or_false, false_or, decide_true, decide_false, Bool.false_eq_true, Bool.true_eq_false, ↓cal_w (d_hasLine h.1 j.1 _), d_hasLine h.1 j.1 _, c, j_tip j hl]
      · simp (disch := omega) only [↓bnd_i, ↓cal_s, ↓cal_n, ↓cal2_s, ↓cal2_n, cal_s, cal2_s, ↓reduceIte, fa_lit, m1_lit, m2_lit, m1_lt, m2_lt, m1_eq, m2_eq, m1_le, m2_le, le_m1, le_m2, lt_m1, lt_m2, m12, m21, m1_m1, n_lt, n_le, n_eq, lt_t, lt_f, le_t, le_f, eq_t, eq_f, n_cl, inb_ok, n_add, pk_mul, pk_sub, n_rem, n_div, n_dec, n_mx, n_mn, eq_m1, eq_m2, ss_same, ss_ne, ss_r, ss_l, sr_f, sr_l, sr_same, sr_ne, sw_f, sw_l, sw_at, sw_ne, pk_us, pk_un, bI_t, bI_f, not_true_eq_false, not_false_eq_true, eq_self, and_true, true_and, and_false, false_and, or_true, true_or, or_false, false_or, decide_true, decide_false, Bool.false_eq_true, Bool.true_eq_false, ↓cal_w (d_hasLine h.1 j.1 _), d_hasLine h.1 j.1 _, c, j_tip j hl]
theorem t_isAt {F : Nat} {τ : St} (h : NN (nw τ)) (x y : Int32) : f_X8_isAt F τ x y = some (bI (hasP (nw τ) x y)) := by
  obtain ⟨b1, b2, b3, b4, b5, b6, b7, b8⟩ := NNb h
  unfold f_X8_isAt hasP
  cases c : isN x (nl (nw τ))
  · simp (disch := omega) only [↓bnd_i, ↓cal_s, ↓cal_n, ↓cal2_s, ↓cal2_n, cal_s, cal2_s, ↓reduceIte, fa_lit, m1_lit, m2_lit, m1_lt, m2_lt, m1_eq, m2_eq, m1_le, m2_le, le_m1, le_m2, lt_m1, lt_m2, m12, m21, m1_m1, n_lt, n_le, n_eq, lt_t, lt_f, le_t, le_f, eq_t, eq_f, n_cl, inb_ok, n_add, pk_mul, pk_sub, n_rem, n_div, n_dec, n_mx, n_mn, eq_m1, eq_m2, ss_same, ss_ne, ss_r, ss_l, sr_f, sr_l, sr_same, sr_ne, sw_f, sw_l, sw_at, sw_ne, pk_us, pk_un, bI_t, bI_f, not_true_eq_false, not_false_eq_true, eq_self, and_true, true_and, and_false, false_and, or_true, true_or, or_false, false_or, decide_true, decide_false, Bool.false_eq_true, Bool.true_eq_false, ↓cal_w (t_isLine h.1 x), t_isLine h.1 x, c, Bool.false_and]
  · obtain ⟨l, hl, rfl⟩ := isN_e c (by omega)
    have ht := h.2.1.1 l hl
    rw [n_cl (by omega), Bool.true_and]
    have e := in_isN (F := F) (τ := τ) (x := y) (n := tp (nw τ) l + 1) (by omega) (by omega)
    rw [pk_sub (by omega), Nat.add_sub_cancel] at e
    cases d : isN y (tp (nw τ) l + 1)
    · rw [d] at e
      simp (disch := omega) only [↓bnd_i, ↓cal_s, ↓cal_n, ↓cal2_s, ↓cal2_n, cal_s, cal2_s, ↓reduceIte, fa_lit, m1_lit, m2_lit, m1_lt, m2_lt, m1_eq, m2_eq, m1_le, m2_le, le_m1, le_m2, lt_m1, lt_m2, m12, m21, m1_m1, n_lt, n_le, n_eq, lt_t, lt_f, le_t, le_f, eq_t, eq_f, n_cl, inb_ok, n_add, pk_mul, pk_sub, n_rem, n_div, n_dec, n_mx, n_mn, eq_m1, eq_m2, ss_same, ss_ne, ss_r, ss_l, sr_f, sr_l, sr_same, sr_ne, sw_f, sw_l, sw_at, sw_ne, pk_us, pk_un, bI_t, bI_f, not_true_eq_false, not_false_eq_true, eq_self, and_true, true_and, and_false, false_and, or_true, true_or, or_false, false_or, decide_true, decide_false, Bool.false_eq_true, Bool.true_eq_false, ↓cal_w (t_isLine h.1 _), t_isLine h.1 _, ↓cal_w (t_placeOf (τ := τ) (l := l) (by omega)), t_placeOf (τ := τ) (l := l) (by omega), ↓cal_w (e), e, c, ht.1]
    · rw [d] at e
      simp (disch := omega) only [↓bnd_i, ↓cal_s, ↓cal_n, ↓cal2_s, ↓cal2_n, cal_s, cal2_s, ↓reduceIte, fa_lit, m1_lit, m2_lit, m1_lt, m2_lt, m1_eq, m2_eq, m1_le, m2_le, le_m1, le_m2, lt_m1, lt_m2, m12, m21, m1_m1, n_lt, n_le, n_eq, lt_t, lt_f, le_t, le_f, eq_t, eq_f, n_cl, inb_ok, n_add, pk_mul, pk_sub, n_rem, n_div, n_dec, n_mx, n_mn, eq_m1, eq_m2, ss_same, ss_ne, ss_r, ss_l, sr_f, sr_l, sr_same, sr_ne, sw_f, sw_l, sw_at, sw_ne, pk_us, pk_un, bI_t, bI_f, not_true_eq_false, not_false_eq_true, eq_self, and_true, true_and, and_false, false_and, or_true, true_or, or_false, false_or, decide_true, decide_false, Bool.false_eq_true, Bool.true_eq_false, ↓cal_w (t_isLine h.1 _), t_isLine h.1 _, ↓cal_w (t_placeOf (τ := τ) (l := l) (by omega)), t_placeOf (τ := τ) (l := l) (by omega), ↓cal_w (e), e, c, ht.1]
theorem sm_le {N : Nat → Int32} : ∀ d l, sm N l ≤ sm N (l + d) := by
  intro d
  induction d with
  | zero => intro l; exact Nat.le_refl _
  | succ d ih =>
    intro l
    have := ih l
    have e : sm N (l + (d + 1)) = sm N (l + d) + (tp N (l + d) - fk N (l + d)) := rfl
    omega
theorem sm_mono {N : Nat → Int32} {a b : Nat} (h : a ≤ b) : sm N a ≤ sm N b := by
  have := sm_le (N := N) (b - a) a
  rwa [show a + (b - a) = b by omega] at this
theorem sm_succ {N : Nat → Int32} (l : Nat) : sm N (l + 1) = sm N l + (tp N l - fk N l) := rfl
/-- the row of a record -/
def ro (N : Nat → Int32) (l p : Nat) : Nat := sm N (ow N l p) + p - fk N (ow N l p) - 1
def srt (N : Nat → Int32) (l p : Nat) : Nat := (rc N l p 0).toNatClampNeg
theorem ro_in {σ : St} {N : Nat → Int32} (h : NN N) (j : JJ σ N) {l p : Nat} (hl : l < nl N) (hp1 : 1 ≤ p) (hp : p ≤ tp N l) : sm N (ow N l p) ≤ ro N l p ∧ ro N l p < sm N (ow N l p + 1) ∧ ro N l p < md N ∧ ow N l p < nl N := by
  have ho := ow_lt h.2.1 (p := p) hl
  have hi := ow_in h.2.1 hl hp1 hp
  have h1 := sm_succ (N := N) (ow N l p)
  have h2 := sm_mono (N := N) (show ow N l p + 1 ≤ nl N by omega)
  have h3 := j.1.2.2.2
  unfold ro
  omega
theorem rc_in {N : Nat → Int32} (h : NN N) {l p : Nat} (hl : l < nl N) (hp1 : 1 ≤ p) (hp : p ≤ tp N l) : rc N l p 0 = nI (srt N l p) ∧ srt N l p < 4 ∧ (srt N l p < 2 → ∃ g, g < pg N ∧ rc N l p 1 = nI g) := by
  have ho := ow_lt h.2.1 (p := p) hl
  have hi := ow_in h.2.1 hl hp1 hp
  obtain ⟨s, hs, e, e2⟩ := h.2.2.2.1 (ow N l p) p (by omega) hi.1 hi.2
  have e3 : rc N l p 0 = nI s := e
  have e4 : srt N l p = s := by unfold srt; rw [e3, n_cl (by omega)]
  rw [e4]
  exact ⟨e3, hs, e2⟩
theorem j_rec {σ : St} {N : Nat → Int32} (h : NN N) (j : JJ σ N) {l p : Nat} (hl : l < nl N) (hp1 : 1 ≤ p) (hp : p ≤ tp N l) : σ.2.1 15 (ro N l p) = nI (srt N l p) ∧ σ.2.1 16 (ro N l p) = rc N l p 1 ∧ σ.2.1 17 (ro N l p) = rc N l p 2 := by
  have ho := ow_lt h.2.1 (p := p) hl
  have hi := ow_in h.2.1 hl hp1 hp
  obtain ⟨a, b, c⟩ := j.2.1.1 (ow N l p) p (by omega) hi.1 hi.2
  have e := (rc_in h hl hp1 hp).1
  exact ⟨a.trans e, b, c⟩
theorem d_row {F : Nat} (hF : 8 < F) {σ : St} {N : Nat → Int32} (h : NN N) (j : JJ σ N) {l p : Nat} (hl : l < nl N) (hp1 : 1 ≤ p) (hp : p ≤ tp N l) : f_X2_rowOf F σ (nI l) (nI p) = some (nI (ro N l p)) := d_rowOf h.1 h.2.1 j.1 hF hl hp1 hp
theorem d_rowN {F : Nat} {σ : St} {N : Nat → Int32} (h : NN N) (j : JJ σ N) {x y : Int32} (c : hasP N x y = false ∨ y = nI 0) : f_X2_rowOf F σ x y = some m1 := by
  obtain ⟨b1, b2, b3, b4, b5, b6, b7, b8⟩ := NNb h
  obtain ⟨e4, e5, e6, e7, e8⟩ := JJf h j
  unfold f_X2_rowOf
  rcases n_ex x with hx | ⟨l, hl, rfl⟩
  · rw [if_pos hx]; rfl
  · by_cases d : nl N ≤ l
    · simp (disch := omega) only [↓bnd_i, ↓cal_s, ↓cal_n, ↓cal2_s, ↓cal2_n, cal_s, cal2_s, ↓reduceIte, fa_lit, m1_lit, m2_lit, m1_lt, m2_lt, m1_eq, m2_eq, m1_le, m2_le, le_m1, le_m2, lt_m1, lt_m2, m12, m21, m1_m1, n_lt, n_le, n_eq, lt_t, lt_f, le_t, le_f, eq_t, eq_f, n_cl, inb_ok, n_add, pk_mul, pk_sub, n_rem, n_div, n_dec, n_mx, n_mn, eq_m1, eq_m2, ss_same, ss_ne, ss_r, ss_l, sr_f, sr_l, sr_same, sr_ne, sw_f, sw_l, sw_at, sw_ne, pk_us, pk_un, bI_t, bI_f, not_true_eq_false, not_false_eq_true, eq_self, and_true, true_and, and_false, false_and, or_true, true_or, or_false, false_or, decide_true, decide_false, Bool.false_eq_true, Bool.true_eq_false, e6]
    · have ht := (h.2.1.1 l (by omega)).2
      rcases n_ex y with hy | ⟨p, hp, rfl⟩
      · simp (disch := omega) only [↓bnd_i, ↓cal_s, ↓cal_n, ↓cal2_s, ↓cal2_n, cal_s, cal2_s, ↓reduceIte, fa_lit, m1_lit, m2_lit, m1_lt, m2_lt, m1_eq, m2_eq, m1_le, m2_le, le_m1, le_m2, lt_m1, lt_m2, m12, m21, m1_m1, n_lt, n_le, n_eq, lt_t, lt_f, le_t, le_f, eq_t, eq_f, n_cl, inb_ok, n_add, pk_mul, pk_sub, n_rem, n_div, n_dec, n_mx, n_mn, eq_m1, eq_m2, ss_same, ss_ne, ss_r, ss_l, sr_f, sr_l, sr_same, sr_ne, sw_f, sw_l, sw_at, sw_ne, pk_us, pk_un, bI_t, bI_f, not_true_eq_false, not_false_eq_true, eq_self, and_true, true_and, and_false, false_and, or_true, true_or, or_false, false_or, decide_true, decide_false, Bool.false_eq_true, Bool.true_eq_false, e6, eq_true (show y < nI 1 from neg_lt hy (by omega))]
      · by_cases d2 : p = 0
        · simp (disch := omega) only [↓bnd_i, ↓cal_s, ↓cal_n, ↓cal2_s, ↓cal2_n, cal_s, cal2_s, ↓reduceIte, fa_lit, m1_lit, m2_lit, m1_lt, m2_lt, m1_eq, m2_eq, m1_le, m2_le, le_m1, le_m2, lt_m1, lt_m2, m12, m21, m1_m1, n_lt, n_le, n_eq, lt_t, lt_f, le_t, le_f, eq_t, eq_f, n_cl, inb_ok, n_add, pk_mul, pk_sub, n_rem, n_div, n_dec, n_mx, n_mn, eq_m1, eq_m2, ss_same, ss_ne, ss_r, ss_l, sr_f, sr_l, sr_same, sr_ne, sw_f, sw_l, sw_at, sw_ne, pk_us, pk_un, bI_t, bI_f, not_true_eq_false, not_false_eq_true, eq_self, and_true, true_and, and_false, false_and, or_true, true_or, or_false, false_or, decide_true, decide_false, Bool.false_eq_true, Bool.true_eq_false, e6]
        · have d3 : tp N l < p := by
            rcases c with c | c
            · by_cases d4 : p ≤ tp N l
              · rw [hasP_t h (by omega) d4] at c; cases c
              · omega
            · rw [n_eq hp (by omega)] at c; omega
          simp (disch := omega) only [↓bnd_i, ↓cal_s, ↓cal_n, ↓cal2_s, ↓cal2_n, cal_s, cal2_s, ↓reduceIte, fa_lit, m1_lit, m2_lit, m1_lt, m2_lt, m1_eq, m2_eq, m1_le, m2_le, le_m1, le_m2, lt_m1, lt_m2, m12, m21, m1_m1, n_lt, n_le, n_eq, lt_t, lt_f, le_t, le_f, eq_t, eq_f, n_cl, inb_ok, n_add, pk_mul, pk_sub, n_rem, n_div, n_dec, n_mx, n_mn, eq_m1, eq_m2, ss_same, ss_ne, ss_r, ss_l, sr_f, sr_l, sr_same, sr_ne, sw_f, sw_l, sw_at, sw_ne, pk_us, pk_un, bI_t, bI_f, not_true_eq_false, not_false_eq_true, eq_self, and_true, true_and, and_false, false_and, or_true, true_or, or_false, false_or, decide_true, decide_false, Bool.false_eq_true, Bool.true_eq_false, e6, j_tip j (show l < nl N by omega)]
theorem d_hasRow {F : Nat} {σ : St} {N : Nat → Int32} (h : NN N) (j : JJ σ N) {r : Nat} (hr : r < md N) : f_X2_hasRow F σ (nI r) = some (nI 1) := by
  obtain ⟨b1, b2, b3, b4, b5, b6, b7, b8⟩ := NNb h
  obtain ⟨e4, e5, e6, e7, e8⟩ := JJf h j
  unfold f_X2_hasRow
  simp (disch := omega) only [↓bnd_i, ↓cal_s, ↓cal_n, ↓cal2_s, ↓cal2_n, cal_s, cal2_s, ↓reduceIte, fa_lit, m1_lit, m2_lit, m1_lt, m2_lt, m1_eq, m2_eq, m1_le, m2_le, le_m1, le_m2, lt_m1, lt_m2, m12, m21, m1_m1, n_lt, n_le, n_eq, lt_t, lt_f, le_t, le_f, eq_t, eq_f, n_cl, inb_ok, n_add, pk_mul, pk_sub, n_rem, n_div, n_dec, n_mx, n_mn, eq_m1, eq_m2, ss_same, ss_ne, ss_r, ss_l, sr_f, sr_l, sr_same, sr_ne, sw_f, sw_l, sw_at, sw_ne, pk_us, pk_un, bI_t, bI_f, not_true_eq_false, not_false_eq_true, eq_self, and_true, true_and, and_false, false_and, or_true, true_or, or_false, false_or, decide_true, decide_false, Bool.false_eq_true, Bool.true_eq_false, e7]
theorem d_hasRowN {F : Nat} {σ : St} : f_X2_hasRow F σ m1 = some (nI 0) := by
  unfold f_X2_hasRow
  simp (disch := omega) only [↓bnd_i, ↓cal_s, ↓cal_n, ↓cal2_s, ↓cal2_n, cal_s, cal2_s, ↓reduceIte, fa_lit, m1_lit, m2_lit, m1_lt, m2_lt, m1_eq, m2_eq, m1_le, m2_le, le_m1, le_m2, lt_m1, lt_m2, m12, m21, m1_m1, n_lt, n_le, n_eq, lt_t, lt_f, le_t, le_f, eq_t, eq_f, n_cl, inb_ok, n_add, pk_mul, pk_sub, n_rem, n_div, n_dec, n_mx, n_mn, eq_m1, eq_m2, ss_same, ss_ne, ss_r, ss_l, sr_f, sr_l, sr_same, sr_ne, sw_f, sw_l, sw_at, sw_ne, pk_us, pk_un, bI_t, bI_f, not_true_eq_false, not_false_eq_true, eq_self, and_true, true_and, and_false, false_and, or_true, true_or, or_false, false_or, decide_true, decide_false, Bool.false_eq_true, Bool.true_eq_false]
theorem chg_eq {N : Nat → Int32} (h : NN N) {l p : Nat} (hl : l < nl N) (hp1 : 1 ≤ p) (hp : p ≤ tp N l) : chg N l p = if srt N l p < 2 then rc N l p 1 else m1 := by
  obtain ⟨a, b, -⟩ := rc_in h hl hp1 hp
  unfold chg
  rw [a]
  by_cases c : srt N l p < 2
  · rw [if_pos c, if_neg]
    show ¬ nI 2 ≤ nI (srt N l p)
    rw [n_le (by omega) (by omega)]; omega
  · rw [if_neg c, if_pos]
    · rfl
    · show nI 2 ≤ nI (srt N l p)
      rw [n_le (by omega) (by omega)]; omega
theorem chg_in {N : Nat → Int32} (h : NN N) {l p : Nat} (hl : l < nl N) (hp1 : 1 ≤ p) (hp : p ≤ tp N l) : chg N l p = m1 ∨ ∃ g, g < pg N ∧ chg N l p = nI g := by
  rw [chg_eq h hl hp1 hp]
  by_cases c : srt N l p < 2
  · rw [if_pos c]; exact Or.inr ((rc_in h hl hp1 hp).2.2 c)
  · rw [if_neg c]; exact Or.inl rfl
theorem d_changedAt {F : Nat} (hF : 8 < F) {σ : St} {N : Nat → Int32} (h : NN N) (j : JJ σ N) {l p : Nat} (hl : l < nl N) (hp1 : 1 ≤ p) (hp : p ≤ tp N l) : f_X2_changedAt F σ (nI l) (nI p) = some (chg N l p) := by
  obtain ⟨b1, b2, b3, b4, b5, b6, b7, b8⟩ := NNb h
  obtain ⟨r1, r2, r3, r4⟩ := ro_in h j hl hp1 hp
  obtain ⟨s1, s2, s3⟩ := j_rec h j hl hp1 hp
  have hs := (rc_in h hl hp1 hp).2.1
  rw [chg_eq h hl hp1 hp]
  unfold f_X2_changedAt
  by_cases c : srt N l p < 2
  · simp (disch := omega) only [↓bnd_i, ↓cal_s, ↓cal_n, ↓cal2_s, ↓cal2_n, cal_s, cal2_s, ↓reduceIte, fa_lit, m1_lit, m2_lit, m1_lt, m2_lt, m1_eq, m2_eq, m1_le, m2_le, le_m1, le_m2, lt_m1, lt_m2, m12, m21, m1_m1, n_lt, n_le, n_eq, lt_t, lt_f, le_t, le_f, eq_t, eq_f, n_cl, inb_ok, n_add, pk_mul, pk_sub, n_rem, n_div, n_dec, n_mx, n_mn, eq_m1, eq_m2, ss_same, ss_ne, ss_r, ss_l, sr_f, sr_l, sr_same, sr_ne, sw_f, sw_l, sw_at, sw_ne, pk_us, pk_un, bI_t, bI_f, not_true_eq_false, not_false_eq_true, eq_self, and_true, true_and, and_false, false_and, or_true, true_or, or_false, false_or, decide_true, decide_false, Bool.false_eq_true, Bool.true_eq_false, ↓cal_w (d_row hF h j hl hp1 hp), d_row hF h j hl hp1 hp, ↓cal_w (d_hasRow h j r3), d_hasRow h j r3, s1, s2]
  · simp (disch := omega) only [↓bnd_i, ↓cal_s, ↓cal_n, ↓cal2_s, ↓cal2_n, cal_s, cal2_s, ↓reduceIte, fa_lit, m1_lit, m2_lit, m1_lt, m2_lt, m1_eq, m2_eq, m1_le, m2_le, le_m1, le_m2, lt_m1, lt_m2, m12, m21, m1_m1, n_lt, n_le, n_eq, lt_t, lt_f, le_t, le_f, eq_t, eq_f, n_cl, inb_ok, n_add, pk_mul, pk_sub, n_rem, n_div, n_dec, n_mx, n_mn, eq_m1, eq_m2, ss_same, ss_ne, ss_r, ss_l, sr_f, sr_l, sr_same, sr_ne, sw_f, sw_l, sw_at, sw_ne, pk_us, pk_un, bI_t, bI_f, not_true_eq_false, not_false_eq_true, eq_self, and_true, true_and, and_false, false_and, or_true, true_or, or_false, false_or, decide_true, decide_false, Bool.false_eq_true, Bool.true_eq_false, ↓cal_w (d_row hF h j hl hp1 hp), d_row hF h j hl hp1 hp, ↓cal_w (d_hasRow h j r3), d_hasRow h j r3, s1, s2]
/-- a page's value at a place -/
def pa (N : Nat → Int32) (l : Nat) (g : Int32) : Nat → Int32
  | 0 => nI 0
  | p + 1 => if chg N l (p + 1) = g then (if srt N l (p + 1) = 0 then rc N l (p + 1) 2 else pa N l g p + rc N l (p + 1) 2) else pa N l g p
theorem t_pageAt_6 {F : Nat} (hF : 8 < F) {τ : St} (h : NN (nw τ)) {l p : Nat} (hl : l < nl (nw τ)) (hp : p ≤ tp (nw τ) l) (g : Int32) : ∀ n i, i ≤ p → p - i < n → f_X8_pageAt_6 F n τ g (nI l) (nI p) (pa (nw τ) l g i) (nI (i + 1)) = some (pa (nw τ) l g p) := by
  obtain ⟨b1, b2, b3, b4, b5, b6, b7, b8⟩ := NNb h
  have ht := (h.2.1.1 l hl).2
  intro n
  induction n with
  | zero => intro i _ h; omega
  | succ n ih =>
    intro i hi hn
    rw [f_X8_pageAt_6]
    by_cases c : i = p
    · subst c
      simp (disch := omega) only [↓bnd_i, ↓cal_s, ↓cal_n, ↓cal2_s, ↓cal2_n, cal_s, cal2_s, ↓reduceIte, fa_lit, m1_lit, m2_lit, m1_lt, m2_lt, m1_eq, m2_eq, m1_le, m2_le, le_m1, le_m2, lt_m1, lt_m2, m12, m21, m1_m1, n_lt, n_le, n_eq, lt_t, lt_f, le_t, le_f, eq_t, eq_f, n_cl, inb_ok, n_add, pk_mul, pk_sub, n_rem, n_div, n_dec, n_mx, n_mn, eq_m1, eq_m2, ss_same, ss_ne, ss_r, ss_l, sr_f, sr_l, sr_same, sr_ne, sw_f, sw_l, sw_at, sw_ne, pk_us, pk_un, bI_t, bI_f, not_true_eq_false, not_false_eq_true, eq_self, and_true, true_and, and_false, false_and, or_true, true_or, or_false, false_or, decide_true, decide_false, Bool.false_eq_true, Bool.true_eq_false]
    · have ih' := ih (i + 1) (by omega) (by omega)
      have ho := ow_lt h.2.1 (p := i + 1) hl
      obtain ⟨a1, a2, a3⟩ := rc_in h hl (show 1 ≤ i + 1 by omega) (by omega)
      have a1' : τ.2.1 19 (1380 + 3 * (241 * ow (nw τ) l (i + 1) + (i + 1))) = nI (srt (nw τ) l (i + 1)) := a1
      rw [pa] at ih'
      by_cases d : chg (nw τ) l (i + 1) = g
      · rw [if_pos d] at ih'
        by_cases d2 : srt (nw τ) l (i + 1) = 0
        · rw [if_pos d2] at ih'
          simp (disch := omega) only [↓bnd_i, ↓cal_s, ↓cal_n, ↓cal2_s, ↓cal2_n, cal_s, cal2_s, ↓reduceIte, fa_lit, m1_lit, m2_lit, m1_lt, m2_lt, m1_eq, m2_eq, m1_le, m2_le, le_m1, le_m2, lt_m1, lt_m2, m12, m21, m1_m1, n_lt, n_le, n_eq, lt_t, lt_f, le_t, le_f, eq_t, eq_f, n_cl, inb_ok, n_add, pk_mul, pk_sub, n_rem, n_div, n_dec, n_mx, n_mn, eq_m1, eq_m2, ss_same, ss_ne, ss_r, ss_l, sr_f, sr_l, sr_same, sr_ne, sw_f, sw_l, sw_at, sw_ne, pk_us, pk_un, bI_t, bI_f, not_true_eq_false, not_false_eq_true, eq_self, and_true, true_and, and_false, false_and, or_true, true_or, or_false, false_or, decide_true, decide_false, Bool.false_eq_true, Bool.true_eq_false, ↓cal_w (t_changedBy h.1 h.2.1 hF hl (show i + 1 ≤ 240 by omega)), t_changedBy h.1 h.2.1 hF hl (show i + 1 ≤ 240 by omega), ↓cal_w (t_recordAt h.1 h.2.1 hF hl (show i + 1 ≤ 240 by omega)), t_recordAt h.1 h.2.1 hF hl (show i + 1 ≤ 240 by omega), d, a1', d2, f_X8_pageAt_69, f_X8_pageAt_71]
          exact ih'
        · rw [if_neg d2] at ih'
          simp (disch := omega) only [↓bnd_i, ↓cal_s, ↓cal_n, ↓cal2_s, ↓cal2_n, cal_s, cal2_s, ↓reduceIte, fa_lit, m1_lit, m2_lit, m1_lt, m2_lt, m1_eq, m2_eq, m1_le, m2_le, le_m1, le_m2, lt_m1, lt_m2, m12, m21, m1_m1, n_lt, n_le, n_eq, lt_t, lt_f, le_t, le_f, eq_t, eq_f, n_cl, inb_ok, n_add, pk_mul, pk_sub, n_rem, n_div, n_dec, n_mx, n_mn, eq_m1, eq_m2, ss_same, ss_ne, ss_r, ss_l, sr_f, sr_l, sr_same, sr_ne, sw_f, sw_l, sw_at, sw_ne, pk_us, pk_un, bI_t, bI_f, not_true_eq_false, not_false_eq_true, eq_self, and_true, true_and, and_false, false_and, or_true, true_or, or_false, false_or, decide_true, decide_false, Bool.false_eq_true, Bool.true_eq_false, ↓cal_w (t_changedBy h.1 h.2.1 hF hl (show i + 1 ≤ 240 by omega)), t_changedBy h.1 h.2.1 hF hl (show i + 1 ≤ 240 by omega), ↓cal_w (t_recordAt h.1 h.2.1 hF hl (show i + 1 ≤ 240 by omega)), t_recordAt h.1 h.2.1 hF hl (show i + 1 ≤ 240 by omega), d, a1', f_X8_pageAt_69, f_X8_pageAt_71]
          exact ih'
      · rw [if_neg d] at ih'
        simp (disch := omega) only [↓bnd_i, ↓cal_s, ↓cal_n, ↓cal2_s, ↓cal2_n, cal_s, cal2_s, ↓reduceIte, fa_lit, m1_lit, m2_lit, m1_lt, m2_lt, m1_eq, m2_eq, m1_le, m2_le, le_m1, le_m2, lt_m1, lt_m2, m12, m21, m1_m1, n_lt, n_le, n_eq, lt_t, lt_f, le_t, le_f, eq_t, eq_f, n_cl, inb_ok, n_add, pk_mul, pk_sub, n_rem, n_div, n_dec, n_mx, n_mn, eq_m1, eq_m2, ss_same, ss_ne, ss_r, ss_l, sr_f, sr_l, sr_same, sr_ne, sw_f, sw_l, sw_at, sw_ne, pk_us, pk_un, bI_t, bI_f, not_true_eq_false, not_false_eq_true, eq_self, and_true, true_and, and_false, false_and, or_true, true_or, or_false, false_or, decide_true, decide_false, Bool.false_eq_true, Bool.true_eq_false, ↓cal_w (t_changedBy h.1 h.2.1 hF hl (show i + 1 ≤ 240 by omega)), t_changedBy h.1 h.2.1 hF hl (show i + 1 ≤ 240 by omega), eq_false d, f_X8_pageAt_71]
        exact ih'
theorem t_pageAt {F : Nat} (hF : 300 < F) {τ : St} (h : NN (nw τ)) {l p : Nat} (hl : l < nl (nw τ)) (hp : p ≤ tp (nw τ) l) (g : Int32) : f_X8_pageAt F τ g (nI l) (nI p) = some (pa (nw τ) l g p) := by
  have ht := (h.2.1.1 l hl).2
  exact t_pageAt_6 (by omega) h hl hp g F 0 (by omega) (by omega)
theorem d_valueAs_14 {F : Nat} (hF : 8 < F) {σ : St} {N : Nat → Int32} (h : NN N) (j : JJ σ N) {l : Nat} (hl : l < nl N) {g : Int32} (hg : g ≠ m1) : ∀ n p acc, p ≤ tp N l → p < n → f_X2_valueAs_14 F n σ g (nI l) acc (nI p) = some (acc + pa N l g p) := by
  obtain ⟨b1, b2, b3, b4, b5, b6, b7, b8⟩ := NNb h
  have ht := (h.2.1.1 l hl).2
  intro n
  induction n with
  | zero => intro p acc _ h; omega
  | succ n ih =>
    intro p acc hp hn
    rw [f_X2_valueAs_14]
    cases p with
    | zero =>
      simp (disch := omega) only [↓bnd_i, ↓cal_s, ↓cal_n, ↓cal2_s, ↓cal2_n, cal_s, cal2_s, ↓reduceIte, fa_lit, m1_lit, m2_lit, m1_lt, m2_lt, m1_eq, m2_eq, m1_le, m2_le, le_m1, le_m2, lt_m1, lt_m2, m12, m21, m1_m1, n_lt, n_le, n_eq, lt_t, lt_f, le_t, le_f, eq_t, eq_f, n_cl, inb_ok, n_add, pk_mul, pk_sub, n_rem, n_div, n_dec, n_mx, n_mn, eq_m1, eq_m2, ss_same, ss_ne, ss_r, ss_l, sr_f, sr_l, sr_same, sr_ne, sw_f, sw_l, sw_at, sw_ne, pk_us, pk_un, bI_t, bI_f, not_true_eq_false, not_false_eq_true, eq_self, and_true, true_and, and_false, false_and, or_true, true_or, or_false, false_or, decide_true, decide_false, Bool.false_eq_true, Bool.true_eq_false]
      rw [pa]
      exact congrArg some (Int32.add_zero acc).symm
    | succ p =>
      obtain ⟨r1, r2, r3, r4⟩ := ro_in h j hl (show 1 ≤ p + 1 by omega) hp
      obtain ⟨s1, s2, s3⟩ := j_rec h j hl (show 1 ≤ p + 1 by omega) hp
      have hs := (rc_in h hl (show 1 ≤ p + 1 by omega) hp).2.1
      have ce := chg_eq h hl (show 1 ≤ p + 1 by omega) hp
      rw [pa]
      by_cases c : srt N l (p + 1) < 2
      · rw [if_pos c] at ce
        by_cases d : rc N l (p + 1) 1 = g
        · rw [if_pos (ce.trans d)]
          by_cases d2 : srt N l (p + 1) = 0
          · rw [if_pos d2]
            simp (disch := omega) only [↓bnd_i, ↓cal_s, ↓cal_n, ↓cal2_s, ↓cal2_n, cal_s, cal2_s, ↓reduceIte, fa_lit, m1_lit, m2_lit, m1_lt, m2_lt, m1_eq, m2_eq, m1_le, m2_le, le_m1, le_m2, lt_m1, lt_m2, m12, m21, m1_m1, n_lt, n_le, n_eq, lt_t, lt_f, le_t, le_f, eq_t, eq_f, n_cl, inb_ok, n_add, pk_mul, pk_sub, n_rem, n_div, n_dec, n_mx, n_mn, eq_m1, eq_m2, ss_same, ss_ne, ss_r, ss_l, sr_f, sr_l, sr_same, sr_ne, sw_f, sw_l, sw_at, sw_ne, pk_us, pk_un, bI_t, bI_f, not_true_eq_false, not_false_eq_true, eq_self, and_true, true_and, and_false, false_and, or_true, true_or, or_false, false_or, decide_true, decide_false, Bool.false_eq_true, Bool.true_eq_false, ↓cal_w (d_row hF h j hl (show 1 ≤ p + 1 by omega) hp), d_row hF h j hl (show 1 ≤ p + 1 by omega) hp, ↓cal_w (d_hasRow h j r3), d_hasRow h j r3, s1, s2, s3, d, d2]
          · rw [if_neg d2]
            have ih' := ih p (acc + rc N l (p + 1) 2) (by omega) (by omega)
            simp (disch := omega) only [↓bnd_i, ↓cal_s, ↓cal_n, ↓cal2_s, ↓cal2_n, cal_s, cal2_s, ↓reduceIte, fa_lit, m1_lit, m2_lit, m1_lt, m2_lt, m1_eq, m2_eq, m1_le, m2_le, le_m1, le_m2, lt_m1, lt_m2, m12, m21, m1_m1, n_lt, n_le, n_eq, lt_t, lt_f, le_t, le_f, eq_t, eq_f, n_cl, inb_ok, n_add, pk_mul, pk_sub, n_rem, n_div, n_dec, n_mx, n_mn, eq_m1, eq_m2, ss_same, ss_ne, ss_r, ss_l, sr_f, sr_l, sr_same, sr_ne, sw_f, sw_l, sw_at, sw_ne, pk_us, pk_un, bI_t, bI_f, not_true_eq_false, not_false_eq_true, eq_self, and_true, true_and, and_false, false_and, or_true, true_or, or_false, false_or, decide_true, decide_false, Bool.false_eq_true, Bool.true_eq_false, ↓cal_w (d_row hF h j hl (show 1 ≤ p + 1 by omega) hp), d_row hF h j hl (show 1 ≤ p + 1 by omega) hp, ↓cal_w (d_hasRow h j r3), d_hasRow h j r3, s1, s2, s3, d, f_X2_valueAs_84, Nat.add_sub_cancel]
            rw [ih', Int32.add_assoc, Int32.add_comm (rc N l (p + 1) 2)]
        · rw [if_neg (fun e => d (ce.symm.trans e))]
          have ih' := ih p acc (by omega) (by omega)
          simp (disch := omega) only [↓bnd_i, ↓cal_s, ↓cal_n, ↓cal2_s, ↓cal2_n, cal_s, cal2_s, ↓reduceIte, fa_lit, m1_lit, m2_lit, m1_lt, m2_lt, m1_eq, m2_eq, m1_le, m2_le, le_m1, le_m2, lt_m1, lt_m2, m12, m21, m1_m1, n_lt, n_le, n_eq, lt_t, lt_f, le_t, le_f, eq_t, eq_f, n_cl, inb_ok, n_add, pk_mul, pk_sub, n_rem, n_div, n_dec, n_mx, n_mn, eq_m1, eq_m2, ss_same, ss_ne, ss_r, ss_l, sr_f, sr_l, sr_same, sr_ne, sw_f, sw_l, sw_at, sw_ne, pk_us, pk_un, bI_t, bI_f, not_true_eq_false, not_false_eq_true, eq_self, and_true, true_and, and_false, false_and, or_true, true_or, or_false, false_or, decide_true, decide_false, Bool.false_eq_true, Bool.true_eq_false, ↓cal_w (d_row hF h j hl (show 1 ≤ p + 1 by omega) hp), d_row hF h j hl (show 1 ≤ p + 1 by omega) hp, ↓cal_w (d_hasRow h j r3), d_hasRow h j r3, s1, s2, s3, eq_false d, f_X2_valueAs_84, Nat.add_sub_cancel]
          exact ih'
      · rw [if_neg c] at ce
        have ih' := ih p acc (by omega) (by omega)
        · rw [if_neg (show ¬ chg N l (p + 1) = g from fun e => hg (e.symm.trans ce))]
          simp (disch := omega) only [↓bnd_i, ↓cal_s, ↓cal_n, ↓cal2_s, ↓cal2_n, cal_s, cal2_s, ↓reduceIte, fa_lit, m1_lit, m2_lit, m1_lt, m2_lt, m1_eq, m2_eq, m1_le, m2_le, le_m1, le_m2, lt_m1, lt_m2, m12, m21, m1_m1, n_lt, n_le, n_eq, lt_t, lt_f, le_t, le_f, eq_t, eq_f, n_cl, inb_ok, n_add, pk_mul, pk_sub, n_rem, n_div, n_dec, n_mx, n_mn, eq_m1, eq_m2, ss_same, ss_ne, ss_r, ss_l, sr_f, sr_l, sr_same, sr_ne, sw_f, sw_l, sw_at, sw_ne, pk_us, pk_un, bI_t, bI_f, not_true_eq_false, not_false_eq_true, eq_self, and_true, true_and, and_false, false_and, or_true, true_or, or_false, false_or, decide_true, decide_false, Bool.false_eq_true, Bool.true_eq_false, ↓cal_w (d_row hF h j hl (show 1 ≤ p + 1 by omega) hp), d_row hF h j hl (show 1 ≤ p + 1 by omega) hp, ↓cal_w (d_hasRow h j r3), d_hasRow h j r3, s1, s2, s3, f_X2_valueAs_84, Nat.add_sub_cancel]
          exact ih'

theorem d_tipOf {F : Nat} {σ : St} {N : Nat → Int32} (h : NN N) (j : JJ σ N) {l : Nat} (hl : l < nl N) : f_X2_tipOf F σ (nI l) = some (nI (tp N l)) := by
  obtain ⟨b1, b2, b3, b4, b5, b6, b7, b8⟩ := NNb h
  unfold f_X2_tipOf
  simp (disch := omega) only [↓bnd_i, ↓cal_s, ↓cal_n, ↓cal2_s, ↓cal2_n, cal_s, cal2_s, ↓reduceIte, fa_lit, m1_lit, m2_lit, m1_lt, m2_lt, m1_eq, m2_eq, m1_le, m2_le, le_m1, le_m2, lt_m1, lt_m2, m12, m21, m1_m1, n_lt, n_le, n_eq, lt_t, lt_f, le_t, le_f, eq_t, eq_f, n_cl, inb_ok, n_add, pk_mul, pk_sub, n_rem, n_div, n_dec, n_mx, n_mn, eq_m1, eq_m2, ss_same, ss_ne, ss_r, ss_l, sr_f, sr_l, sr_same, sr_ne, sw_f, sw_l, sw_at, sw_ne, pk_us, pk_un, bI_t, bI_f, not_true_eq_false, not_false_eq_true, eq_self, and_true, true_and, and_false, false_and, or_true, true_or, or_false, false_or, decide_true, decide_false, Bool.false_eq_true, Bool.true_eq_false, ↓cal_w (d_hasLine h.1 j.1 _), d_hasLine h.1 j.1 _, isN_t hl (show nl N ≤ 2 ^ 31 by omega), j_tip j hl]
theorem d_forkOf {F : Nat} {σ : St} {N : Nat → Int32} (h : NN N) (j : JJ σ N) {l : Nat} (hl : l < nl N) : f_X2_forkOf F σ (nI l) = some (nI (fk N l)) := by
  obtain ⟨b1, b2, b3, b4, b5, b6, b7, b8⟩ := NNb h
  unfold f_X2_forkOf
  simp (disch := omega) only [↓bnd_i, ↓cal_s, ↓cal_n, ↓cal2_s, ↓cal2_n, cal_s, cal2_s, ↓reduceIte, fa_lit, m1_lit, m2_lit, m1_lt, m2_lt, m1_eq, m2_eq, m1_le, m2_le, le_m1, le_m2, lt_m1, lt_m2, m12, m21, m1_m1, n_lt, n_le, n_eq, lt_t, lt_f, le_t, le_f, eq_t, eq_f, n_cl, inb_ok, n_add, pk_mul, pk_sub, n_rem, n_div, n_dec, n_mx, n_mn, eq_m1, eq_m2, ss_same, ss_ne, ss_r, ss_l, sr_f, sr_l, sr_same, sr_ne, sw_f, sw_l, sw_at, sw_ne, pk_us, pk_un, bI_t, bI_f, not_true_eq_false, not_false_eq_true, eq_self, and_true, true_and, and_false, false_and, or_true, true_or, or_false, false_or, decide_true, decide_false, Bool.false_eq_true, Bool.true_eq_false, ↓cal_w (d_hasLine h.1 j.1 _), d_hasLine h.1 j.1 _, isN_t hl (show nl N ≤ 2 ^ 31 by omega), j_fork j hl]
theorem d_parentOf {F : Nat} {σ : St} {N : Nat → Int32} (h : NN N) (j : JJ σ N) {l : Nat} (hl : l < nl N) : f_X2_parentOf F σ (nI l) = some (if l = 0 then m2 else nI (pr N l)) := by
  obtain ⟨b1, b2, b3, b4, b5, b6, b7, b8⟩ := NNb h
  unfold f_X2_parentOf
  by_cases c : l = 0
  · subst c
    simp (disch := omega) only [↓bnd_i, ↓cal_s, ↓cal_n, ↓cal2_s, ↓cal2_n, cal_s, cal2_s, ↓reduceIte, fa_lit, m1_lit, m2_lit, m1_lt, m2_lt, m1_eq, m2_eq, m1_le, m2_le, le_m1, le_m2, lt_m1, lt_m2, m12, m21, m1_m1, n_lt, n_le, n_eq, lt_t, lt_f, le_t, le_f, eq_t, eq_f, n_cl, inb_ok, n_add, pk_mul, pk_sub, n_rem, n_div, n_dec, n_mx, n_mn, eq_m1, eq_m2, ss_same, ss_ne, ss_r, ss_l, sr_f, sr_l, sr_same, sr_ne, sw_f, sw_l, sw_at, sw_ne, pk_us, pk_un, bI_t, bI_f, not_true_eq_false, not_false_eq_true, eq_self, and_true, true_and, and_false, false_and, or_true, true_or, or_false, false_or, decide_true, decide_false, Bool.false_eq_true, Bool.true_eq_false, ↓cal_w (d_hasLine h.1 j.1 _), d_hasLine h.1 j.1 _, isN_t hl (show nl N ≤ 2 ^ 31 by omega), show σ.2.1 11 0 = m2 from j.1.2.2.1]
  · simp (disch := omega) only [↓bnd_i, ↓cal_s, ↓cal_n, ↓cal2_s, ↓cal2_n, cal_s, cal2_s, ↓reduceIte, fa_lit, m1_lit, m2_lit, m1_lt, m2_lt, m1_eq, m2_eq, m1_le, m2_le, le_m1, le_m2, lt_m1, lt_m2, m12, m21, m1_m1, n_lt, n_le, n_eq, lt_t, lt_f, le_t, le_f, eq_t, eq_f, n_cl, inb_ok, n_add, pk_mul, pk_sub, n_rem, n_div, n_dec, n_mx, n_mn, eq_m1, eq_m2, ss_same, ss_ne, ss_r, ss_l, sr_f, sr_l, sr_same, sr_ne, sw_f, sw_l, sw_at, sw_ne, pk_us, pk_un, bI_t, bI_f, not_true_eq_false, not_false_eq_true, eq_self, and_true, true_and, and_false, false_and, or_true, true_or, or_false, false_or, decide_true, decide_false, Bool.false_eq_true, Bool.true_eq_false, ↓cal_w (d_hasLine h.1 j.1 _), d_hasLine h.1 j.1 _, isN_t hl (show nl N ≤ 2 ^ 31 by omega), j_par j hl (show 0 < l by omega)]
theorem d_valueAs {F : Nat} (hF : 300 < F) {σ : St} {N : Nat → Int32} (h : NN N) (j : JJ σ N) {l p : Nat} (hl : l < nl N) (hp : p ≤ tp N l) {g : Int32} (hg : g ≠ m1) : f_X2_valueAs F σ g (nI l) (nI p) = some (pa N l g p) := by
  have ht := (h.2.1.1 l hl).2
  have e := d_valueAs_14 (F := F) (by omega) h j hl hg F p (nI 0) hp (by omega)
  unfold f_X2_valueAs
  simp (disch := omega) only [↓bnd_i, ↓cal_s, ↓cal_n, ↓cal2_s, ↓cal2_n, cal_s, cal2_s, ↓reduceIte, fa_lit, m1_lit, m2_lit, m1_lt, m2_lt, m1_eq, m2_eq, m1_le, m2_le, le_m1, le_m2, lt_m1, lt_m2, m12, m21, m1_m1, n_lt, n_le, n_eq, lt_t, lt_f, le_t, le_f, eq_t, eq_f, n_cl, inb_ok, n_add, pk_mul, pk_sub, n_rem, n_div, n_dec, n_mx, n_mn, eq_m1, eq_m2, ss_same, ss_ne, ss_r, ss_l, sr_f, sr_l, sr_same, sr_ne, sw_f, sw_l, sw_at, sw_ne, pk_us, pk_un, bI_t, bI_f, not_true_eq_false, not_false_eq_true, eq_self, and_true, true_and, and_false, false_and, or_true, true_or, or_false, false_or, decide_true, decide_false, Bool.false_eq_true, Bool.true_eq_false, ↓cal_w (d_tipOf h j hl), d_tipOf h j hl, Nat.min_eq_left hp]
  rw [e]
  exact congrArg some (Int32.zero_add _)
/-- the last record up to a place that changes a page -/
def la (N : Nat → Int32) (l : Nat) (g : Int32) : Nat → Nat
  | 0 => 0
  | p + 1 => if chg N l (p + 1) = g then p + 1 else la N l g p
theorem la_le {N : Nat → Int32} {l : Nat} {g : Int32} : ∀ p, la N l g p ≤ p
  | 0 => Nat.le_refl 0
  | p + 1 => by
    have := la_le (N := N) (l := l) (g := g) p
    rw [la]
    split <;> omega
theorem d_lastChange {F : Nat} (hF : 300 < F) {σ : St} {N : Nat → Int32} (h : NN N) (j : JJ σ N) {l p : Nat} (hl : l < nl N) (hp : p ≤ tp N l) (g : Int32) : f_X2_lastChange F σ g (nI l) (nI p) = some (nI (la N l g p)) := by
  have ht := (h.2.1.1 l hl).2
  have key : ∀ n p, p ≤ tp N l → p < n → f_X2_lastChange_11 F n σ g (nI l) (nI p) = some (nI (la N l g p)) := by
    intro n
    induction n with
    | zero => intro p _ h; omega
    | succ n ih =>
      intro p hp hn
      rw [f_X2_lastChange_11]
      cases p with
      | zero =>
        simp (disch := omega) only [↓bnd_i, ↓cal_s, ↓cal_n, ↓cal2_s, ↓cal2_n, cal_s, cal2_s, ↓reduceIte, fa_lit, m1_lit, m2_lit, m1_lt, m2_lt, m1_eq, m2_eq, m1_le, m2_le, le_m1, le_m2, lt_m1, lt_m2, m12, m21, m1_m1, n_lt, n_le, n_eq, lt_t, lt_f, le_t, le_f, eq_t, eq_f, n_cl, inb_ok, n_add, pk_mul, pk_sub, n_rem, n_div, n_dec, n_mx, n_mn, eq_m1, eq_m2, ss_same, ss_ne, ss_r, ss_l, sr_f, sr_l, sr_same, sr_ne, sw_f, sw_l, sw_at, sw_ne, pk_us, pk_un, bI_t, bI_f, not_true_eq_false, not_false_eq_true, eq_self, and_true, true_and, and_false, false_and, or_true, true_or, or_false, false_or, decide_true, decide_false, Bool.false_eq_true, Bool.true_eq_false, la, Nat.max_self]
      | succ p =>
        have ih' := ih p (by omega) (by omega)
        rw [la]
        by_cases c : chg N l (p + 1) = g
        · simp (disch := omega) only [↓bnd_i, ↓cal_s, ↓cal_n, ↓cal2_s, ↓cal2_n, cal_s, cal2_s, ↓reduceIte, fa_lit, m1_lit, m2_lit, m1_lt, m2_lt, m1_eq, m2_eq, m1_le, m2_le, le_m1, le_m2, lt_m1, lt_m2, m12, m21, m1_m1, n_lt, n_le, n_eq, lt_t, lt_f, le_t, le_f, eq_t, eq_f, n_cl, inb_ok, n_add, pk_mul, pk_sub, n_rem, n_div, n_dec, n_mx, n_mn, eq_m1, eq_m2, ss_same, ss_ne, ss_r, ss_l, sr_f, sr_l, sr_same, sr_ne, sw_f, sw_l, sw_at, sw_ne, pk_us, pk_un, bI_t, bI_f, not_true_eq_false, not_false_eq_true, eq_self, and_true, true_and, and_false, false_and, or_true, true_or, or_false, false_or, decide_true, decide_false, Bool.false_eq_true, Bool.true_eq_false, ↓cal_w (d_changedAt (show 8 < F by omega) h j hl (show 1 ≤ p + 1 by omega) hp), d_changedAt (show 8 < F by omega) h j hl (show 1 ≤ p + 1 by omega) hp, c, Nat.max_zero]
        · simp (disch := omega) only [↓bnd_i, ↓cal_s, ↓cal_n, ↓cal2_s, ↓cal2_n, cal_s, cal2_s, ↓reduceIte, fa_lit, m1_lit, m2_lit, m1_lt, m2_lt, m1_eq, m2_eq, m1_le, m2_le, le_m1, le_m2, lt_m1, lt_m2, m12, m21, m1_m1, n_lt, n_le, n_eq, lt_t, lt_f, le_t, le_f, eq_t, eq_f, n_cl, inb_ok, n_add, pk_mul, pk_sub, n_rem, n_div, n_dec, n_mx, n_mn, eq_m1, eq_m2, ss_same, ss_ne, ss_r, ss_l, sr_f, sr_l, sr_same, sr_ne, sw_f, sw_l, sw_at, sw_ne, pk_us, pk_un, bI_t, bI_f, not_true_eq_false, not_false_eq_true, eq_self, and_true, true_and, and_false, false_and, or_true, true_or, or_false, false_or, decide_true, decide_false, Bool.false_eq_true, Bool.true_eq_false, ↓cal_w (d_changedAt (show 8 < F by omega) h j hl (show 1 ≤ p + 1 by omega) hp), d_changedAt (show 8 < F by omega) h j hl (show 1 ≤ p + 1 by omega) hp, eq_false c, Nat.add_sub_cancel]
          exact ih'
  unfold f_X2_lastChange
  simp (disch := omega) only [↓bnd_i, ↓cal_s, ↓cal_n, ↓cal2_s, ↓cal2_n, cal_s, cal2_s, ↓reduceIte, fa_lit, m1_lit, m2_lit, m1_lt, m2_lt, m1_eq, m2_eq, m1_le, m2_le, le_m1, le_m2, lt_m1, lt_m2, m12, m21, m1_m1, n_lt, n_le, n_eq, lt_t, lt_f, le_t, le_f, eq_t, eq_f, n_cl, inb_ok, n_add, pk_mul, pk_sub, n_rem, n_div, n_dec, n_mx, n_mn, eq_m1, eq_m2, ss_same, ss_ne, ss_r, ss_l, sr_f, sr_l, sr_same, sr_ne, sw_f, sw_l, sw_at, sw_ne, pk_us, pk_un, bI_t, bI_f, not_true_eq_false, not_false_eq_true, eq_self, and_true, true_and, and_false, false_and, or_true, true_or, or_false, false_or, decide_true, decide_false, Bool.false_eq_true, Bool.true_eq_false, ↓cal_w (d_tipOf h j hl), d_tipOf h j hl, Nat.min_eq_left hp]
  exact key F p hp (by omega)
theorem t_changeAhead {F : Nat} (hF : 300 < F) {τ : St} (h : NN (nw τ)) {l p : Nat} (hl : l < nl (nw τ)) (hp : p ≤ tp (nw τ) l) (g : Int32) : f_X8_changeAhead F τ g (nI l) (nI p) = some (nI (la (nw τ) l g p)) := by
  have ht := (h.2.1.1 l hl).2
  have key : ∀ n i, i ≤ p → p - i < n → f_X8_changeAhead_6 F n τ g (nI l) (nI p) (nI (la (nw τ) l g i)) (nI (i + 1)) = some (nI (la (nw τ) l g p)) := by
    intro n
    induction n with
    | zero => intro i _ h; omega
    | succ n ih =>
      intro i hi hn
      rw [f_X8_changeAhead_6]
      by_cases c : i = p
      · subst c
        simp (disch := omega) only [↓bnd_i, ↓cal_s, ↓cal_n, ↓cal2_s, ↓cal2_n, cal_s, cal2_s, ↓reduceIte, fa_lit, m1_lit, m2_lit, m1_lt, m2_lt, m1_eq, m2_eq, m1_le, m2_le, le_m1, le_m2, lt_m1, lt_m2, m12, m21, m1_m1, n_lt, n_le, n_eq, lt_t, lt_f, le_t, le_f, eq_t, eq_f, n_cl, inb_ok, n_add, pk_mul, pk_sub, n_rem, n_div, n_dec, n_mx, n_mn, eq_m1, eq_m2, ss_same, ss_ne, ss_r, ss_l, sr_f, sr_l, sr_same, sr_ne, sw_f, sw_l, sw_at, sw_ne, pk_us, pk_un, bI_t, bI_f, not_true_eq_false, not_false_eq_true, eq_self, and_true, true_and, and_false, false_and, or_true, true_or, or_false, false_or, decide_true, decide_false, Bool.false_eq_true, Bool.true_eq_false]
      · have ih' := ih (i + 1) (by omega) (by omega)
        rw [la] at ih'
        by_cases d : chg (nw τ) l (i + 1) = g
        · rw [if_pos d] at ih'
          simp (disch := omega) only [↓bnd_i, ↓cal_s, ↓cal_n, ↓cal2_s, ↓cal2_n, cal_s, cal2_s, ↓reduceIte, fa_lit, m1_lit, m2_lit, m1_lt, m2_lt, m1_eq, m2_eq, m1_le, m2_le, le_m1, le_m2, lt_m1, lt_m2, m12, m21, m1_m1, n_lt, n_le, n_eq, lt_t, lt_f, le_t, le_f, eq_t, eq_f, n_cl, inb_ok, n_add, pk_mul, pk_sub, n_rem, n_div, n_dec, n_mx, n_mn, eq_m1, eq_m2, ss_same, ss_ne, ss_r, ss_l, sr_f, sr_l, sr_same, sr_ne, sw_f, sw_l, sw_at, sw_ne, pk_us, pk_un, bI_t, bI_f, not_true_eq_false, not_false_eq_true, eq_self, and_true, true_and, and_false, false_and, or_true, true_or, or_false, false_or, decide_true, decide_false, Bool.false_eq_true, Bool.true_eq_false, ↓cal_w (t_changedBy h.1 h.2.1 (show 8 < F by omega) hl (show i + 1 ≤ 240 by omega)), t_changedBy h.1 h.2.1 (show 8 < F by omega) hl (show i + 1 ≤ 240 by omega), d, f_X8_changeAhead_27]
          exact ih'
        · rw [if_neg d] at ih'
          simp (disch := omega) only [↓bnd_i, ↓cal_s, ↓cal_n, ↓cal2_s, ↓cal2_n, cal_s, cal2_s, ↓reduceIte, fa_lit, m1_lit, m2_lit, m1_lt, m2_lt, m1_eq, m2_eq, m1_le, m2_le, le_m1, le_m2, lt_m1, lt_m2, m12, m21, m1_m1, n_lt, n_le, n_eq, lt_t, lt_f, le_t, le_f, eq_t, eq_f, n_cl, inb_ok, n_add, pk_mul, pk_sub, n_rem, n_div, n_dec, n_mx, n_mn, eq_m1, eq_m2, ss_same, ss_ne, ss_r, ss_l, sr_f, sr_l, sr_same, sr_ne, sw_f, sw_l, sw_at, sw_ne, pk_us, pk_un, bI_t, bI_f, not_true_eq_false, not_false_eq_true, eq_self, and_true, true_and, and_false, false_and, or_true, true_or, or_false, false_or, decide_true, decide_false, Bool.false_eq_true, Bool.true_eq_false, ↓cal_w (t_changedBy h.1 h.2.1 (show 8 < F by omega) hl (show i + 1 ≤ 240 by omega)), t_changedBy h.1 h.2.1 (show 8 < F by omega) hl (show i + 1 ≤ 240 by omega), eq_false d, f_X8_changeAhead_27]
          exact ih'
  exact key F 0 (by omega) (by omega)
/-- whether a record is a mark with a number -/
def mk (N : Nat → Int32) (l p : Nat) (x : Int32) : Bool := decide (srt N l p = 2 ∧ rc N l p 1 = x)
theorem d_isMark {F : Nat} {σ : St} {N : Nat → Int32} (h : NN N) (j : JJ σ N) {l p : Nat} (hl : l < nl N) (hp1 : 1 ≤ p) (hp : p ≤ tp N l) (x : Int32) : f_X2_isMark F σ (nI (ro N l p)) x = some (bI (mk N l p x)) := by
  obtain ⟨b1, b2, b3, b4, b5, b6, b7, b8⟩ := NNb h
  obtain ⟨r1, r2, r3, r4⟩ := ro_in h j hl hp1 hp
  obtain ⟨s1, s2, s3⟩ := j_rec h j hl hp1 hp
  have hs := (rc_in h hl hp1 hp).2.1
  unfold f_X2_isMark mk
  by_cases c : srt N l p = 2
  · by_cases d : rc N l p 1 = x
    · simp (disch := omega) only [↓bnd_i, ↓cal_s, ↓cal_n, ↓cal2_s, ↓cal2_n, cal_s, cal2_s, ↓reduceIte, fa_lit, m1_lit, m2_lit, m1_lt, m2_lt, m1_eq, m2_eq, m1_le, m2_le, le_m1, le_m2, lt_m1, lt_m2, m12, m21, m1_m1, n_lt, n_le, n_eq, lt_t, lt_f, le_t, le_f, eq_t, eq_f, n_cl, inb_ok, n_add, pk_mul, pk_sub, n_rem, n_div, n_dec, n_mx, n_mn, eq_m1, eq_m2, ss_same, ss_ne, ss_r, ss_l, sr_f, sr_l, sr_same, sr_ne, sw_f, sw_l, sw_at, sw_ne, pk_us, pk_un, bI_t, bI_f, not_true_eq_false, not_false_eq_true, eq_self, and_true, true_and, and_false, false_and, or_true, true_or, or_false, false_or, decide_true, decide_false, Bool.false_eq_true, Bool.true_eq_false, ↓cal_w (d_hasRow h j r3), d_hasRow h j r3, s1, s2, d]
    · simp (disch := omega) only [↓bnd_i, ↓cal_s, ↓cal_n, ↓cal2_s, ↓cal2_n, cal_s, cal2_s, ↓reduceIte, fa_lit, m1_lit, m2_lit, m1_lt, m2_lt, m1_eq, m2_eq, m1_le, m2_le, le_m1, le_m2, lt_m1, lt_m2, m12, m21, m1_m1, n_lt, n_le, n_eq, lt_t, lt_f, le_t, le_f, eq_t, eq_f, n_cl, inb_ok, n_add, pk_mul, pk_sub, n_rem, n_div, n_dec, n_mx, n_mn, eq_m1, eq_m2, ss_same, ss_ne, ss_r, ss_l, sr_f, sr_l, sr_same, sr_ne, sw_f, sw_l, sw_at, sw_ne, pk_us, pk_un, bI_t, bI_f, not_true_eq_false, not_false_eq_true, eq_self, and_true, true_and, and_false, false_and, or_true, true_or, or_false, false_or, decide_true, decide_false, Bool.false_eq_true, Bool.true_eq_false, ↓cal_w (d_hasRow h j r3), d_hasRow h j r3, s1, s2, eq_false d]
  · simp (disch := omega) only [↓bnd_i, ↓cal_s, ↓cal_n, ↓cal2_s, ↓cal2_n, cal_s, cal2_s, ↓reduceIte, fa_lit, m1_lit, m2_lit, m1_lt, m2_lt, m1_eq, m2_eq, m1_le, m2_le, le_m1, le_m2, lt_m1, lt_m2, m12, m21, m1_m1, n_lt, n_le, n_eq, lt_t, lt_f, le_t, le_f, eq_t, eq_f, n_cl, inb_ok, n_add, pk_mul, pk_sub, n_rem, n_div, n_dec, n_mx, n_mn, eq_m1, eq_m2, ss_same, ss_ne, ss_r, ss_l, sr_f, sr_l, sr_same, sr_ne, sw_f, sw_l, sw_at, sw_ne, pk_us, pk_un, bI_t, bI_f, not_true_eq_false, not_false_eq_true, eq_self, and_true, true_and, and_false, false_and, or_true, true_or, or_false, false_or, decide_true, decide_false, Bool.false_eq_true, Bool.true_eq_false, ↓cal_w (d_hasRow h j r3), d_hasRow h j r3, s1, s2]
theorem t_isMark {F : Nat} (hF : 8 < F) {τ : St} (h : NN (nw τ)) {l p : Nat} (hl : l < nl (nw τ)) (hp1 : 1 ≤ p) (hp : p ≤ tp (nw τ) l) (x : Int32) : f_X8_isMark F τ (nI l) (nI p) x = some (bI (mk (nw τ) l p x)) := by
  obtain ⟨b1, b2, b3, b4, b5, b6, b7, b8⟩ := NNb h
  have ht := (h.2.1.1 l hl).2
  have ho := ow_lt h.2.1 (p := p) hl
  obtain ⟨a1, a2, a3⟩ := rc_in h hl hp1 hp
  have a1' : τ.2.1 19 (1380 + 3 * (241 * ow (nw τ) l p + p)) = nI (srt (nw τ) l p) := a1
  have a4' : τ.2.1 19 (1380 + 3 * (241 * ow (nw τ) l p + p) + 1) = rc (nw τ) l p 1 := rfl
  unfold f_X8_isMark mk
  by_cases c : srt (nw τ) l p = 2
  · by_cases d : rc (nw τ) l p 1 = x
    · simp (disch := omega) only [↓bnd_i, ↓cal_s, ↓cal_n, ↓cal2_s, ↓cal2_n, cal_s, cal2_s, ↓reduceIte, fa_lit, m1_lit, m2_lit, m1_lt, m2_lt, m1_eq, m2_eq, m1_le, m2_le, le_m1, le_m2, lt_m1, lt_m2, m12, m21, m1_m1, n_lt, n_le, n_eq, lt_t, lt_f, le_t, le_f, eq_t, eq_f, n_cl, inb_ok, n_add, pk_mul, pk_sub, n_rem, n_div, n_dec, n_mx, n_mn, eq_m1, eq_m2, ss_same, ss_ne, ss_r, ss_l, sr_f, sr_l, sr_same, sr_ne, sw_f, sw_l, sw_at, sw_ne, pk_us, pk_un, bI_t, bI_f, not_true_eq_false, not_false_eq_true, eq_self, and_true, true_and, and_false, false_and, or_true, true_or, or_false, false_or, decide_true, decide_false, Bool.false_eq_true, Bool.true_eq_false, ↓cal_w (t_recordAt h.1 h.2.1 hF hl (show p ≤ 240 by omega)), t_recordAt h.1 h.2.1 hF hl (show p ≤ 240 by omega), a1', a4', d]
    · simp (disch := omega) only [↓bnd_i, ↓cal_s, ↓cal_n, ↓cal2_s, ↓cal2_n, cal_s, cal2_s, ↓reduceIte, fa_lit, m1_lit, m2_lit, m1_lt, m2_lt, m1_eq, m2_eq, m1_le, m2_le, le_m1, le_m2, lt_m1, lt_m2, m12, m21, m1_m1, n_lt, n_le, n_eq, lt_t, lt_f, le_t, le_f, eq_t, eq_f, n_cl, inb_ok, n_add, pk_mul, pk_sub, n_rem, n_div, n_dec, n_mx, n_mn, eq_m1, eq_m2, ss_same, ss_ne, ss_r, ss_l, sr_f, sr_l, sr_same, sr_ne, sw_f, sw_l, sw_at, sw_ne, pk_us, pk_un, bI_t, bI_f, not_true_eq_false, not_false_eq_true, eq_self, and_true, true_and, and_false, false_and, or_true, true_or, or_false, false_or, decide_true, decide_false, Bool.false_eq_true, Bool.true_eq_false, ↓cal_w (t_recordAt h.1 h.2.1 hF hl (show p ≤ 240 by omega)), t_recordAt h.1 h.2.1 hF hl (show p ≤ 240 by omega), a1', a4', eq_false d]
  · simp (disch := omega) only [↓bnd_i, ↓cal_s, ↓cal_n, ↓cal2_s, ↓cal2_n, cal_s, cal2_s, ↓reduceIte, fa_lit, m1_lit, m2_lit, m1_lt, m2_lt, m1_eq, m2_eq, m1_le, m2_le, le_m1, le_m2, lt_m1, lt_m2, m12, m21, m1_m1, n_lt, n_le, n_eq, lt_t, lt_f, le_t, le_f, eq_t, eq_f, n_cl, inb_ok, n_add, pk_mul, pk_sub, n_rem, n_div, n_dec, n_mx, n_mn, eq_m1, eq_m2, ss_same, ss_ne, ss_r, ss_l, sr_f, sr_l, sr_same, sr_ne, sw_f, sw_l, sw_at, sw_ne, pk_us, pk_un, bI_t, bI_f, not_true_eq_false, not_false_eq_true, eq_self, and_true, true_and, and_false, false_and, or_true, true_or, or_false, false_or, decide_true, decide_false, Bool.false_eq_true, Bool.true_eq_false, ↓cal_w (t_recordAt h.1 h.2.1 hF hl (show p ≤ 240 by omega)), t_recordAt h.1 h.2.1 hF hl (show p ≤ 240 by omega), a1']
